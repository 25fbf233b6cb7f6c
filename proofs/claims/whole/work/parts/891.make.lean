/-! things are made; the class's new text -/
section MakeB
variable {S : sT} {d c : Nat} {k : Value} {E : List dsc} {A : fA} {L : fL} {T : fT} {W : fW} {D : List dsc}
theorem pFr_H {a j ci : Nat} {ks : List (Option Value)} {v : Value} {κ : pH → rO} (ha : D[a]? = some (.inr (ci, ks))) (hk : j < ks.length) : pF (HP D A L T) (.ref a) ci j v κ = κ (HP (D.set a (.inr (ci, ks.set j (some v)))) A L T) := by
  simp -implicitDefEqProofs only [pF, HP_at, ha, Option.map_some, mkC, List.length_mapIdx, hk, and_self, if_true]
  rw [HP_set (d' := .inr (ci, ks.set j (some v))) (A' := A) (L' := L) (T' := T) ha ?_ (fun _ _ => rfl) (fun _ _ => rfl) (fun _ _ => rfl)]
  simp -implicitDefEqProofs only [mkC]
  congr 2
  apply List.ext_getElem?
  intro i
  rw [List.getElem?_set, List.getElem?_mapIdx, List.getElem?_mapIdx, List.getElem?_set, List.length_mapIdx]
  by_cases hj : j = i
  · subst hj; simp [hk, fldV]
  · simp [hj]
theorem mkO_H {ci : Nat} {ks : List (Option Value)} (h : ks.mapIdx (fldV (upR A D.length (fun _ => 0)) D.length) = dflT ci) : HP D A L T ++ [.inr (ci, dflT ci)] = HP (D ++ [.inr (ci, ks)]) (upR A D.length (fun _ => 0)) L T :=
  HP_push (by simp -implicitDefEqProofs only [mkC]; rw [h]) (fun b hb => by simp [upR, hb]) (fun _ _ => rfl) (fun _ _ => rfl)
theorem D0_len : (D0 k).length = 49 := rfl
theorem Hh_len : List.length (Hh k E A L T) = 49 + E.length := by unfold Hh; rw [HP_len, List.length_append, D0_len]
theorem DE_len : (D0 k ++ E).length = 49 + E.length := by rw [List.length_append, D0_len]
theorem DE_at {F G : List dsc} {y : dsc} : (D0 k ++ (E ++ y :: G))[49 + E.length]? = some y := by
  rw [List.getElem?_append_right (by rw [D0_len]; omega), D0_len, List.getElem?_append_right (by omega)]
  simp
theorem DE_at1 {x y : dsc} {G : List dsc} : (D0 k ++ (E ++ x :: y :: G))[49 + E.length + 1]? = some y := by
  rw [List.getElem?_append_right (by rw [D0_len]; omega), D0_len, List.getElem?_append_right (by omega)]
  have : 49 + E.length + 1 - 49 - E.length = 1 := by omega
  rw [this]; rfl
theorem DE_old {F : List dsc} {a : Nat} {y : dsc} (h : (D0 k ++ E)[a]? = some y) : (D0 k ++ (E ++ F))[a]? = some y := by
  rw [← List.append_assoc, List.getElem?_append_left (List.getElem?_eq_some_iff.mp h).1]; exact h
theorem upR_o {a r : Nat} {f : Nat → Int32} (h : r ≠ a) : upR A a f r = A r := by simp [upR, h]
theorem upR_s {a : Nat} {f : Nat → Int32} : upR A a f a = f := by simp [upR]
theorem h_mkI {m : Nat} {κ : pH → rO} (hm : m ≤ 100000) : mkI (Hh k E A L T) 0 (nI m) κ = κ (Hh k (E ++ [.inl (0, m)]) (upR A (49 + E.length) (fun _ => 0)) L T) := by
  unfold Hh
  rw [mkI_H (by decide) (nI_pos (by omega)) (by rw [nI_clamp (by omega)]; exact hm), nI_clamp (by omega), DE_len, List.append_assoc]
theorem h_mkO : Hh k E A L T ++ [.inr (11, dflT 11)] = Hh k (E ++ [.inr (11, [none, some .null])]) (upR A (49 + E.length) (fun _ => 0)) L T := by
  unfold Hh
  rw [mkO_H (ks := [none, some .null]) (by simp [fldV, upR, dflT, dflL]), DE_len, List.append_assoc]
theorem DE_set {x z : dsc} {G : List dsc} : (D0 k ++ (E ++ x :: G)).set (49 + E.length) z = D0 k ++ (E ++ z :: G) := by
  rw [List.set_append_right _ _ (by rw [D0_len]; omega), D0_len, List.set_append_right _ _ (by omega)]
  have : 49 + E.length - 49 - E.length = 0 := by omega
  rw [this]; rfl
theorem c_newT {acc : List LN} {cs : Cs} (h9 : A 1 9 = nI acc.length) (h10 : A 1 10 = nI cs.length) (h16 : acc.length ≤ 16) (h4 : cs.length ≤ 400) (h0 : acc.length = 0 → cs.length = 0) (hC : CLs A acc) (hs : ∀ i, i < cs.length → A 3 (96 + i) = tr (cs.getD i (0, 0)).1 (cs.getD i (0, 0)).2) : ∃ A' a b F, ex S (d + 2) 108 [.ref 1] (Hh k E A L T) = some (.inl (some (.ref a)), Hh k (E ++ F) A' L T) ∧ F.length = 2 ∧ esz F ≤ 498 ∧ 49 + E.length ≤ a ∧ 49 + E.length ≤ b ∧ (D0 k ++ (E ++ F))[a]? = some (.inr (11, [none, some (.ref b)])) ∧ (D0 k ++ (E ++ F))[b]? = some (.inl (0, 6 * acc.length + cs.length)) ∧ A' a 0 = nI acc.length ∧ CT (A' b) acc cs ∧ ∀ r, r < 49 + E.length → A' r = A r := by
  rw [x_X6_newText, g_X6_newText_0]
  simp -implicitDefEqProofs only [hg_1_9, h9, show (6 : Int32) * nI acc.length = nI (6 * acc.length) by rw [show (6 : Int32) = nI 6 from rfl, nI_mul]]
  by_cases q : acc.length = 0
  · have q2 := h0 q
    rw [if_pos (by rw [q]; decide), Hh_len, h_mkO, x_X8_init, g_X8_init_0]
    have a0 : (D0 k ++ (E ++ [.inr (11, [none, some .null])]))[49 + E.length]? = some (.inr (11, [none, some .null])) := DE_at (F := [])
    unfold Hh
    rw [pF_H a0 rfl, mkI_H (by decide) (by decide) (by decide), HP_len, List.length_append, D0_len, List.length_append]
    have a1 : (D0 k ++ (E ++ [.inr (11, [none, some .null])]) ++ [.inl (0, (0 : Int32).toNatClampNeg)])[49 + E.length]? = some (.inr (11, [none, some .null])) := by
      rw [List.append_assoc, List.append_assoc]; exact DE_at (F := [])
    rw [pFr_H a1 (by decide), List.append_assoc, List.append_assoc]
    have es : (D0 k ++ (E ++ ([(.inr (11, [none, some .null]) : dsc)] ++ [(.inl (0, (0 : Int32).toNatClampNeg) : dsc)]))).set (49 + E.length) (.inr (11, [none, some (.ref (49 + (E.length + 1)))])) = D0 k ++ (E ++ [.inr (11, [none, some (.ref (49 + (E.length + 1)))]), .inl (0, 0)]) := DE_set
    show ∃ A' a b F, cUx tN (some (.inl none, HP ((D0 k ++ (E ++ ([(.inr (11, [none, some .null]) : dsc)] ++ [(.inl (0, (0 : Int32).toNatClampNeg) : dsc)]))).set (49 + E.length) (.inr (11, [none, some (.ref (49 + (E.length + 1)))]))) _ L T)) _ = _ ∧ _
    rw [es, q_Ux]
    have lN : (D0 k ++ (E ++ [(.inr (11, [none, some .null]) : dsc)])).length = 49 + E.length + 1 := by rw [DE_len, List.length_append]; rfl
    refine ⟨_, 49 + E.length, 49 + E.length + 1, _, rfl, rfl, by show 2 + (0 + 0) ≤ 498; decide, Nat.le_refl _, by omega, DE_at (F := []), by rw [q, q2]; exact DE_at1, ?_, ⟨fun i hi => absurd hi (by omega), fun i hi => absurd hi (by omega)⟩, fun r hr => ?_⟩
    · rw [upR_o (by show 49 + E.length ≠ 49 + (E.length + 1); omega), up_ii, q]; rfl
    · rw [upR_o (by show r ≠ 49 + (E.length + 1); omega), up_ne (by omega), upR_o (by omega)]
  · have n1 : ¬ nI (6 * acc.length) ≤ 0 := nI_ge (a := 0) (by omega) (by omega)
    have n2 : ¬ 96 < nI (6 * acc.length) := nI_nlt (a := 96) (by omega) (by decide)
    have n3 : ¬ nI cs.length < 0 := nI_pos (by omega)
    have n4 : nI cs.length ≤ 400 := nI_le (b := 400) (by omega) (by decide)
    rw [if_neg n1, if_neg n2]
    simp -implicitDefEqProofs only [hg_1_10, h10, if_neg n3, if_pos n4, nI_add, h_mkI (show 6 * acc.length + cs.length ≤ 100000 by omega), Hh_len, hv_1_8]
    obtain ⟨A1, e1⟩ : ∃ B, B = upR A (49 + E.length) (fun _ => 0) := ⟨_, rfl⟩
    rw [← e1]
    have b3 : (D0 k ++ (E ++ [.inl (0, 6 * acc.length + cs.length)]))[3]? = some (.inl (0, 496)) := rfl
    have bN : (D0 k ++ (E ++ [.inl (0, 6 * acc.length + cs.length)]))[49 + E.length]? = some (.inl (0, 6 * acc.length + cs.length)) := DE_at (F := [])
    have cp1 : ∀ κ : pH → rO, cpI (Hh k (E ++ [.inl (0, 6 * acc.length + cs.length)]) A1 L T) (.ref 3) 0 (.ref (49 + E.length)) 0 (nI (6 * acc.length)) κ = κ (Hh k (E ++ [.inl (0, 6 * acc.length + cs.length)]) (upR A1 (49 + E.length) (va_cpy (A1 3) (A1 (49 + E.length)) 0 0 (6 * acc.length))) L T) := by
      intro κ
      unfold Hh
      rw [cpI_H b3 bN (by decide) (by decide) (nI_pos (by omega)) (by rw [nI_clamp (by omega)]; show 0 + _ ≤ _; omega) (by rw [nI_clamp (by omega)]; show 0 + _ ≤ _; omega), nI_clamp (by omega)]
      rfl
    rw [cp1]
    obtain ⟨A2, e2⟩ : ∃ B, B = upR A1 (49 + E.length) (va_cpy (A1 3) (A1 (49 + E.length)) 0 0 (6 * acc.length)) := ⟨_, rfl⟩
    rw [← e2]
    have z10 : A2 1 10 = nI cs.length := by rw [e2, upR_o (by omega), e1, upR_o (by omega)]; exact h10
    have z9 : A2 1 9 = nI acc.length := by rw [e2, upR_o (by omega), e1, upR_o (by omega)]; exact h9
    simp -implicitDefEqProofs only [hv_1_8, hg_1_10, z10]
    have cp2 : ∀ κ : pH → rO, cpI (Hh k (E ++ [.inl (0, 6 * acc.length + cs.length)]) A2 L T) (.ref 3) 96 (.ref (49 + E.length)) (nI (6 * acc.length)) (nI cs.length) κ = κ (Hh k (E ++ [.inl (0, 6 * acc.length + cs.length)]) (upR A2 (49 + E.length) (va_cpy (A2 3) (A2 (49 + E.length)) 96 (6 * acc.length) cs.length)) L T) := by
      intro κ
      unfold Hh
      rw [cpI_H b3 bN (by decide) (nI_pos (by omega)) (nI_pos (by omega)) (by rw [nI_clamp (by omega)]; show 96 + _ ≤ _; omega) (by rw [nI_clamp (by omega), nI_clamp (by omega)]; omega), nI_clamp (by omega), nI_clamp (by omega)]
      rfl
    rw [cp2]
    obtain ⟨A3, e3⟩ : ∃ B, B = upR A2 (49 + E.length) (va_cpy (A2 3) (A2 (49 + E.length)) 96 (6 * acc.length) cs.length) := ⟨_, rfl⟩
    rw [← e3]
    have l1 : 49 + (E ++ [(.inl (0, 6 * acc.length + cs.length) : dsc)]).length = 49 + E.length + 1 := by rw [List.length_append]; rfl
    rw [h_mkO, Hh_len, l1]
    obtain ⟨A4, e4⟩ : ∃ B, B = upR A3 (49 + E.length + 1) (fun _ => 0) := ⟨_, rfl⟩
    rw [← e4]
    have y9 : A4 1 9 = nI acc.length := by rw [e4, upR_o (by omega), e3, upR_o (by omega)]; exact z9
    simp -implicitDefEqProofs only [hg_1_9, y9]
    rw [x_X8_init_, g_X8_init__0]
    have aa : (E ++ [(.inl (0, 6 * acc.length + cs.length) : dsc)]) ++ [.inr (11, [none, some .null])] = E ++ [.inl (0, 6 * acc.length + cs.length), .inr (11, [none, some .null])] := by rw [List.append_assoc]; rfl
    rw [aa]
    have c1 : (D0 k ++ (E ++ [.inl (0, 6 * acc.length + cs.length), .inr (11, [none, some .null])]))[49 + E.length + 1]? = some (.inr (11, [none, some .null])) := DE_at1
    unfold Hh
    rw [pF_H c1 rfl, q_iR, q_iR, pFr_H c1 (by decide)]
    have es : (D0 k ++ (E ++ [(.inl (0, 6 * acc.length + cs.length) : dsc), (.inr (11, [none, some .null]) : dsc)])).set (49 + E.length + 1) (.inr (11, [none, some (.ref (49 + E.length))])) = D0 k ++ (E ++ [.inl (0, 6 * acc.length + cs.length), .inr (11, [none, some (.ref (49 + E.length))])]) := by
      have := DE_set (k := k) (E := E ++ [.inl (0, 6 * acc.length + cs.length)]) (x := .inr (11, [none, some .null])) (z := .inr (11, [none, some (.ref (49 + E.length))])) (G := [])
      rw [l1, List.append_assoc, List.append_assoc] at this
      exact this
    show ∃ A' a b F, cUx tN (some (.inl none, HP ((D0 k ++ (E ++ [(.inl (0, 6 * acc.length + cs.length) : dsc), (.inr (11, [none, some .null]) : dsc)])).set (49 + E.length + 1) (.inr (11, [none, some (.ref (49 + E.length))]))) _ L T)) _ = _ ∧ _
    rw [es, q_Ux]
    have r3 : A1 3 = A 3 := by rw [e1]; exact upR_o (by omega)
    have r3' : A2 3 = A 3 := by rw [e2, upR_o (by omega)]; exact r3
    have rN : A2 (49 + E.length) = va_cpy (A 3) (A1 (49 + E.length)) 0 0 (6 * acc.length) := by rw [e2, upR_s, r3]
    have fin : up A4 (49 + E.length + 1) 0 (nI acc.length) (49 + E.length) = va_cpy (A 3) (va_cpy (A 3) (A1 (49 + E.length)) 0 0 (6 * acc.length)) 96 (6 * acc.length) cs.length := by
      rw [up_ne (by omega), e4, upR_o (by omega), e3, upR_s, r3', rN]
    refine ⟨_, 49 + E.length + 1, 49 + E.length, _, rfl, rfl, ?_, by omega, Nat.le_refl _, DE_at1, DE_at (F := []), up_ii, ?_, fun r hr => ?_⟩
    · show (6 * acc.length + cs.length) + (2 + 0) ≤ 498; omega
    · rw [fin]
      refine ⟨fun i hi => ?_, fun i hi => ?_⟩
      · have lo : ∀ j, j < 6 * acc.length → va_cpy (A 3) (va_cpy (A 3) (A1 (49 + E.length)) 0 0 (6 * acc.length)) 96 (6 * acc.length) cs.length j = A 3 j := by
          intro j hj
          unfold va_cpy
          rw [if_neg (by omega), if_pos (by omega)]
          congr 1; omega
        obtain ⟨a0, a1, a2, a3, a4, a5⟩ := hC i hi
        exact ⟨by rw [lo _ (by omega)]; exact a0, by rw [lo _ (by omega)]; exact a1, by rw [lo _ (by omega)]; exact a2, by rw [lo _ (by omega)]; exact a3, by rw [lo _ (by omega)]; exact a4, by rw [lo _ (by omega)]; exact a5⟩
      · rw [← hs i hi]
        unfold va_cpy
        rw [if_pos (by omega)]
        congr 1; omega
    · rw [up_ne (by omega), e4, upR_o (by omega), e3, upR_o (by omega), e2, upR_o (by omega), e1, upR_o (by omega)]
/-- the text that was read is not empty, or has no steps -/
theorem pLs_ne {t : Nat → Int32} {n : Nat} {b : Bool} (m : Nat) : ∀ (s : Nat) (cs : Cs) (acc acc' : List LN) (cs' : Cs), pLs t n b m s cs acc = .inl (acc', cs') → acc'.length ≠ 0 := by
  induction m with
  | zero => intro s cs acc acc' cs' h; cases h
  | succ m ih =>
    intro s cs acc acc' cs' h
    have ep : pLs t n b (m + 1) s cs acc = (match pLn t n b s cs with | .inl x => if tK t n x.1 = 0 then .inl (acc ++ [x.2.2], x.2.1) else if sgP t n x.1 59 = true then pLs t n b m (nx t n x.1) x.2.1 (acc ++ [x.2.2]) else .inr x.1 | .inr e => .inr e) := rfl
    rw [ep] at h
    cases hr : pLn t n b s cs with
    | inr e => rw [hr] at h; cases h
    | inl z =>
      rw [hr] at h
      simp only at h
      by_cases q0 : tK t n z.1 = 0
      · rw [if_pos q0] at h
        simp -implicitDefEqProofs only [Sum.inl.injEq, Prod.mk.injEq] at h
        obtain ⟨rfl, rfl⟩ := h
        rw [List.length_append]; show acc.length + 1 ≠ 0; omega
      · rw [if_neg q0] at h
        by_cases q1 : sgP t n z.1 59 = true
        · rw [if_pos q1] at h; exact ih _ _ _ _ _ h
        · rw [if_neg q1] at h; cases h
theorem pTx_0 {t : Nat → Int32} {n : Nat} {b : Bool} {acc : List LN} {cs : Cs} (h : pTx t n b = .inl (acc, cs)) : acc.length = 0 → cs.length = 0 := by
  intro h0
  unfold pTx at h
  by_cases q0 : tK t n (tS t n 0) = 0
  · rw [if_pos q0] at h
    simp -implicitDefEqProofs only [Sum.inl.injEq, Prod.mk.injEq] at h
    obtain ⟨rfl, rfl⟩ := h
    rfl
  · rw [if_neg q0] at h
    exact absurd h0 (pLs_ne 16 _ _ _ _ _ h)
end MakeB
