/-! a text that was read is right: what the class and the reference then have -/
section TextC
variable {t : Nat → Int32} {n : Nat}
def LnOk (b : Bool) (cs : Cs) (a : LN) : Prop := vlo b ≤ a.1 ∧ a.1 ≤ vhi b ∧ oV a.1 a.2.1 ∧ a.2.2.2 ≤ cs.length ∧ ∃ x : Cs, a.2.2.2 = a.2.2.1 + x.length ∧ (∀ j, j < x.length → cs.getD (a.2.2.1 + j) (0, 0) = x.getD j (0, 0)) ∧ (x = [] ∨ ckL x [] = some [true])
theorem gA_l {l m : Cs} {i : Nat} (hi : i < l.length) : (l ++ m).getD i (0, 0) = l.getD i (0, 0) := by
  simp -implicitDefEqProofs only [List.getD_eq_getElem?_getD]; rw [List.getElem?_append_left hi]
theorem gA_r {l m : Cs} {i : Nat} : (l ++ m).getD (l.length + i) (0, 0) = m.getD i (0, 0) := by
  simp -implicitDefEqProofs only [List.getD_eq_getElem?_getD]; rw [List.getElem?_append_right (by omega)]; congr 2; omega
theorem LnOk_a {b : Bool} {cs y : Cs} {a : LN} (h : LnOk b cs a) : LnOk b (cs ++ y) a := by
  obtain ⟨h1, h2, h3, h4, x, h5, h6, h7⟩ := h
  refine ⟨h1, h2, h3, by rw [List.length_append]; omega, x, h5, fun j hj => ?_, h7⟩
  rw [gA_l (by omega)]; exact h6 j hj
theorem pLn_ok {b : Bool} {s s' : Nat} {cs cs' : Cs} {a : LN} (hs : Nm t n s) (h : pLn t n b s cs = .inl (s', cs', a)) : Nm t n s' ∧ s ≤ s' ∧ cs'.length + s ≤ cs.length + s' ∧ (∃ x, cs' = cs ++ x) ∧ LnOk b cs' a := by
  unfold pLn at h
  by_cases y : iW t n s (nI (vlo b)) (nI (vhi b)) = true
  · rw [if_pos y] at h
    have b1 : vlo b < 2 ^ 31 := by unfold vlo; split <;> decide
    have b2 : vhi b < 2 ^ 31 := by unfold vhi; split <;> decide
    obtain ⟨k1, k2, k3⟩ := inW_k y
    obtain ⟨v, hv, ev⟩ := nI_of (x := tV t n s) (fun z => by
      rw [Int32.lt_iff_toInt_lt] at k2 z
      rw [nI_toInt b1] at k2
      simp at z
      omega)
    rw [ev, nI_ltI hv b1] at k2
    rw [ev, nI_ltI b2 hv] at k3
    rw [ev, nI_clamp hv] at h
    obtain ⟨w1, w2⟩ := vb_r (v := v) (b := b) (by omega) (by omega)
    cases hr : rst t n v (nx t n s) cs with
    | inr e => rw [hr] at h; cases h
    | inl z =>
      rw [hr] at h
      simp -implicitDefEqProofs only [Sum.inl.injEq, Prod.mk.injEq] at h
      obtain ⟨e1, e2, e3⟩ := h
      obtain ⟨n1, n2, -⟩ := nx_c hs
      obtain ⟨a1, a2, a3, ⟨x, a4, a5⟩, a6⟩ := rst_ok w1 w2 (nx t n s) cs z.1 z.2.1 z.2.2 n1 hr
      subst e1 e2 e3
      refine ⟨a1, by omega, by omega, ⟨x, a4⟩, by show vlo b ≤ v; omega, by show v ≤ vhi b; omega, a6, Nat.le_refl _, x, ?_, fun j hj => ?_, a5⟩
      · show z.2.1.length = cs.length + x.length
        rw [a4, List.length_append]
      · show z.2.1.getD (cs.length + j) (0, 0) = _
        rw [a4, gA_r]
  · rw [if_neg y] at h; cases h
theorem pLs_ok {b : Bool} (m : Nat) : ∀ (s : Nat) (cs : Cs) (acc : List LN) (acc' : List LN) (cs' : Cs), Nm t n s → cs.length ≤ s → acc.length + m ≤ 16 → (∀ i, i < acc.length → LnOk b cs (acc.getD i ln0)) → pLs t n b m s cs acc = .inl (acc', cs') → acc'.length ≤ 16 ∧ cs'.length ≤ n ∧ ∀ i, i < acc'.length → LnOk b cs' (acc'.getD i ln0) := by
  induction m with
  | zero => intro s cs acc acc' cs' _ _ _ _ h; cases h
  | succ m ih =>
    intro s cs acc acc' cs' hs hl ha hA h
    have ep : pLs t n b (m + 1) s cs acc = (match pLn t n b s cs with | .inl x => if tK t n x.1 = 0 then .inl (acc ++ [x.2.2], x.2.1) else if sgP t n x.1 59 = true then pLs t n b m (nx t n x.1) x.2.1 (acc ++ [x.2.2]) else .inr x.1 | .inr e => .inr e) := rfl
    rw [ep] at h
    cases hr : pLn t n b s cs with
    | inr e => rw [hr] at h; cases h
    | inl z =>
      rw [hr] at h
      simp only at h
      obtain ⟨a1, a2, a3, ⟨x, a4⟩, a5⟩ := pLn_ok (s' := z.1) (cs' := z.2.1) (a := z.2.2) hs hr
      have la : (acc ++ [z.2.2]).length = acc.length + 1 := by rw [List.length_append]; rfl
      have hA' : ∀ i, i < (acc ++ [z.2.2]).length → LnOk b z.2.1 ((acc ++ [z.2.2]).getD i ln0) := by
        intro i hi
        rw [la] at hi
        by_cases q : i = acc.length
        · subst q; rw [gD_z]; exact a5
        · rw [gD_a (by omega), a4]; exact LnOk_a (hA i (by omega))
      have hsn := a1.1
      by_cases q0 : tK t n z.1 = 0
      · rw [if_pos q0] at h
        simp -implicitDefEqProofs only [Sum.inl.injEq, Prod.mk.injEq] at h
        obtain ⟨rfl, rfl⟩ := h
        exact ⟨by rw [la]; omega, by omega, hA'⟩
      · rw [if_neg q0] at h
        by_cases q1 : sgP t n z.1 59 = true
        · rw [if_pos q1] at h
          obtain ⟨n1, n2, -⟩ := nx_c a1
          exact ih (nx t n z.1) z.2.1 (acc ++ [z.2.2]) acc' cs' n1 (by omega) (by rw [la]; omega) hA' h
        · rw [if_neg q1] at h; cases h
theorem pTx_ok {b : Bool} {acc : List LN} {cs : Cs} (h : pTx t n b = .inl (acc, cs)) : acc.length ≤ 16 ∧ cs.length ≤ n ∧ ∀ i, i < acc.length → LnOk b cs (acc.getD i ln0) := by
  unfold pTx at h
  by_cases q0 : tK t n (tS t n 0) = 0
  · rw [if_pos q0] at h
    simp -implicitDefEqProofs only [Sum.inl.injEq, Prod.mk.injEq] at h
    obtain ⟨rfl, rfl⟩ := h
    exact ⟨by decide, Nat.zero_le _, fun i hi => absurd hi (Nat.not_lt_zero _)⟩
  · rw [if_neg q0] at h
    exact pLs_ok 16 _ _ _ _ _ (Nm_S (Nat.zero_le _)) (Nat.zero_le _) (by decide) (fun i hi => absurd hi (Nat.not_lt_zero _)) h
theorem rg_sub {x m : Int32} {a b : Int} (h : rg x a b) (h1 : -1000000 ≤ a) (h2 : b ≤ 1000000) (h3 : 0 ≤ m.toInt) (h4 : m.toInt ≤ 1000) : rg (x - m) (a - m.toInt) (b - m.toInt) := by
  obtain ⟨r1, r2⟩ := h
  have : (x - m).toInt = x.toInt - m.toInt := s32 (by omega) (by omega)
  unfold rg
  rw [this]
  exact ⟨by omega, by omega⟩
/-- what stands of a line in the class and in the reference -/
theorem wtl_v {v : Nat} {q q' : LV} (h1 : 17 ≤ v) (h2 : v ≤ 30) (hv : oV v q) (ho : oR v q q') : (rg (sN v) 0 6 ∨ rg (sN v) 10 16) ∧ rg q'.1 0 999999 ∧ ((sN v = 5 ∨ sN v = 6 ∨ sN v = 14) → rg q'.1 0 100) ∧ ((sN v = 1 ∨ sN v = 2) → rg q'.2.1 1 5) ∧ (sN v = 2 → rg q'.2.2 1 5) ∧ (sN v = 3 → rg q'.2.1 0 1) ∧ (sN v = 14 → rg q'.2.1 0 4) ∧ (sN v = 16 → rg q'.2.1 10 15) ∧ nI v = vb (sN v) ∧ q.1 = q'.1 ∧ q.2.1 = fs (sN v) q'.2.1 ∧ q.2.2 = sc (sN v) q'.2.2 := by
  obtain ⟨a1, a2, a3, a4, a5, a6, a7, a8, a9⟩ := hv
  obtain ⟨b1, b2, b3, b4, b5⟩ := ho
  rw [b1]
  rcases v_cases h1 h2 with rfl | rfl | rfl | rfl | rfl | rfl | rfl | rfl | rfl | rfl | rfl | rfl | rfl | rfl
  · exact ⟨Or.inr (by unfold rg; decide), a1, fun z => absurd z (by decide), fun z => absurd z (by decide), fun z => absurd z (by decide), fun z => absurd z (by decide), fun z => absurd z (by decide), fun z => absurd z (by decide), by decide, rfl, a8 (by decide), a9 (by decide)⟩
  · exact ⟨Or.inr (by unfold rg; decide), a1, fun z => absurd z (by decide), fun z => absurd z (by decide), fun z => absurd z (by decide), fun z => absurd z (by decide), fun z => absurd z (by decide), fun z => absurd z (by decide), by decide, rfl, a8 (by decide), a9 (by decide)⟩
  · exact ⟨Or.inr (by unfold rg; decide), a1, fun z => absurd z (by decide), fun z => absurd z (by decide), fun z => absurd z (by decide), fun z => absurd z (by decide), fun z => absurd z (by decide), fun z => absurd z (by decide), by decide, rfl, a8 (by decide), a9 (by decide)⟩
  · exact ⟨Or.inr (by unfold rg; decide), a1, fun z => absurd z (by decide), fun z => absurd z (by decide), fun z => absurd z (by decide), fun z => absurd z (by decide), fun z => absurd z (by decide), fun z => absurd z (by decide), by decide, rfl, a8 (by decide), a9 (by decide)⟩
  · rw [b3 (Or.inr rfl)]
    exact ⟨Or.inr (by unfold rg; decide), a1, fun _ => a2 (Or.inr (Or.inr rfl)), fun z => absurd z (by decide), fun z => absurd z (by decide), fun z => absurd z (by decide), fun _ => rg_sub (m := 12) (a6 rfl) (by decide) (by decide) (by decide) (by decide), fun z => absurd z (by decide), by decide, rfl, (Int32.sub_add_cancel q.2.1 12).symm, a9 (by decide)⟩
  · exact ⟨Or.inr (by unfold rg; decide), a1, fun z => absurd z (by decide), fun z => absurd z (by decide), fun z => absurd z (by decide), fun z => absurd z (by decide), fun z => absurd z (by decide), fun z => absurd z (by decide), by decide, rfl, a8 (by decide), a9 (by decide)⟩
  · rw [b4 rfl]
    exact ⟨Or.inr (by unfold rg; decide), a1, fun z => absurd z (by decide), fun z => absurd z (by decide), fun z => absurd z (by decide), fun z => absurd z (by decide), fun z => absurd z (by decide), fun _ => rg_sub (m := 7) (a7 rfl) (by decide) (by decide) (by decide) (by decide), by decide, rfl, (Int32.sub_add_cancel q.2.1 7).symm, a9 (by decide)⟩
  · exact ⟨Or.inl (by unfold rg; decide), a1, fun z => absurd z (by decide), fun z => absurd z (by decide), fun z => absurd z (by decide), fun z => absurd z (by decide), fun z => absurd z (by decide), fun z => absurd z (by decide), by decide, rfl, a8 (by decide), a9 (by decide)⟩
  · rw [b2 (Or.inl rfl)]
    exact ⟨Or.inl (by unfold rg; decide), a1, fun z => absurd z (by decide), fun _ => a3 (Or.inl rfl), fun z => absurd z (by decide), fun z => absurd z (by decide), fun z => absurd z (by decide), fun z => absurd z (by decide), by decide, rfl, rfl, a9 (by decide)⟩
  · rw [b2 (Or.inr rfl), b5 rfl]
    exact ⟨Or.inl (by unfold rg; decide), a1, fun z => absurd z (by decide), fun _ => a3 (Or.inr rfl), fun _ => a4 rfl, fun z => absurd z (by decide), fun z => absurd z (by decide), fun z => absurd z (by decide), by decide, rfl, rfl, rfl⟩
  · rw [b3 (Or.inl rfl)]
    exact ⟨Or.inl (by unfold rg; decide), a1, fun z => absurd z (by decide), fun z => absurd z (by decide), fun z => absurd z (by decide), fun _ => rg_sub (m := 12) (a5 rfl) (by decide) (by decide) (by decide) (by decide), fun z => absurd z (by decide), fun z => absurd z (by decide), by decide, rfl, (Int32.sub_add_cancel q.2.1 12).symm, a9 (by decide)⟩
  · exact ⟨Or.inl (by unfold rg; decide), a1, fun z => absurd z (by decide), fun z => absurd z (by decide), fun z => absurd z (by decide), fun z => absurd z (by decide), fun z => absurd z (by decide), fun z => absurd z (by decide), by decide, rfl, a8 (by decide), a9 (by decide)⟩
  · exact ⟨Or.inl (by unfold rg; decide), a1, fun _ => a2 (Or.inl rfl), fun z => absurd z (by decide), fun z => absurd z (by decide), fun z => absurd z (by decide), fun z => absurd z (by decide), fun z => absurd z (by decide), by decide, rfl, a8 (by decide), a9 (by decide)⟩
  · exact ⟨Or.inl (by unfold rg; decide), a1, fun _ => a2 (Or.inr (Or.inl rfl)), fun z => absurd z (by decide), fun z => absurd z (by decide), fun z => absurd z (by decide), fun z => absurd z (by decide), fun z => absurd z (by decide), by decide, rfl, a8 (by decide), a9 (by decide)⟩
/-- the world has a text at P, out of these lines and steps -/
def WL (W : fW) (P : Nat) (acc : List LN) (cs : Cs) : Prop := W (P + 1) = nI acc.length ∧ (∀ i, i < acc.length → ∃ q' : LV, W (P + 2 + 6 * i) = sN (acc.getD i ln0).1 ∧ W (P + 2 + 6 * i + 1) = q'.1 ∧ W (P + 2 + 6 * i + 2) = q'.2.1 ∧ W (P + 2 + 6 * i + 3) = q'.2.2 ∧ W (P + 2 + 6 * i + 4) = nI (acc.getD i ln0).2.2.1 ∧ W (P + 2 + 6 * i + 5) = nI (acc.getD i ln0).2.2.2 ∧ oR (acc.getD i ln0).1 (acc.getD i ln0).2.1 q') ∧ ∀ i, i < cs.length → W (P + 98 + 2 * i) = (cs.getD i (0, 0)).1 ∧ W (P + 98 + 2 * i + 1) = (cs.getD i (0, 0)).2
theorem WL_WT {W : fW} {P : Nat} {b : Bool} {acc : List LN} {cs : Cs} (hW : WL W P acc cs) (h16 : acc.length ≤ 16) (h4 : cs.length ≤ 400) (hA : ∀ i, i < acc.length → LnOk b cs (acc.getD i ln0)) : WT W P acc.length cs.length := by
  obtain ⟨w1, w2, w3⟩ := hW
  refine ⟨w1, h16, h4, fun i hi => ?_⟩
  obtain ⟨q', a0, a1, a2, a3, a4, a5, ho⟩ := w2 i hi
  obtain ⟨l1, l2, l3, l4, x, l5, l6, l7⟩ := hA i hi
  obtain ⟨c1, c2⟩ := vb_r l1 l2
  obtain ⟨v1, v2, v3, v4, v5, v6, v7, v8, -, -, -, -⟩ := wtl_v c1 c2 l3 ho
  unfold WTl
  rw [a0, a1, a2, a3, a4, a5]
  refine ⟨v1, v2, v3, v4, v5, v6, v7, v8, _, _, rfl, rfl, by omega, l4, ?_⟩
  rcases l7 with e | e
  · left; rw [l5, e]; rfl
  · right
    have : (acc.getD i ln0).2.2.2 - (acc.getD i ln0).2.2.1 = x.length := by omega
    rw [this, ckN_L x _ _ (fun j hj => ?_), e]
    have := w3 ((acc.getD i ln0).2.2.1 + j) (by omega)
    unfold cds
    rw [this.1, this.2, l6 j hj]
theorem WL_c {W W' : fW} {P P' : Nat} {acc : List LN} {cs : Cs} (h : ∀ j, 1 ≤ j → j < 898 → W' (P' + j) = W (P + j)) (h16 : acc.length ≤ 16) (h4 : cs.length ≤ 400) (hW : WL W P acc cs) : WL W' P' acc cs := by
  obtain ⟨w1, w2, w3⟩ := hW
  refine ⟨by rw [h 1 (by decide) (by decide)]; exact w1, fun i hi => ?_, fun i hi => ?_⟩
  · obtain ⟨q', a0, a1, a2, a3, a4, a5, ho⟩ := w2 i hi
    refine ⟨q', ?_, ?_, ?_, ?_, ?_, ?_, ho⟩
    · rw [show P' + 2 + 6 * i = P' + (2 + 6 * i) by omega, h _ (by omega) (by omega), ← a0]; congr 1; omega
    · rw [show P' + 2 + 6 * i + 1 = P' + (2 + 6 * i + 1) by omega, h _ (by omega) (by omega), ← a1]; congr 1; omega
    · rw [show P' + 2 + 6 * i + 2 = P' + (2 + 6 * i + 2) by omega, h _ (by omega) (by omega), ← a2]; congr 1; omega
    · rw [show P' + 2 + 6 * i + 3 = P' + (2 + 6 * i + 3) by omega, h _ (by omega) (by omega), ← a3]; congr 1; omega
    · rw [show P' + 2 + 6 * i + 4 = P' + (2 + 6 * i + 4) by omega, h _ (by omega) (by omega), ← a4]; congr 1; omega
    · rw [show P' + 2 + 6 * i + 5 = P' + (2 + 6 * i + 5) by omega, h _ (by omega) (by omega), ← a5]; congr 1; omega
  · obtain ⟨c1, c2⟩ := w3 i hi
    constructor
    · rw [show P' + 98 + 2 * i = P' + (98 + 2 * i) by omega, h _ (by omega) (by omega), ← c1]; congr 1; omega
    · rw [show P' + 98 + 2 * i + 1 = P' + (98 + 2 * i + 1) by omega, h _ (by omega) (by omega), ← c2]; congr 1; omega
/-- the class's cells of a text, out of the same lines and steps -/
def CT (C : Nat → Int32) (acc : List LN) (cs : Cs) : Prop := (∀ i, i < acc.length → C (6 * i) = nI (acc.getD i ln0).1 ∧ C (6 * i + 1) = (acc.getD i ln0).2.1.1 ∧ C (6 * i + 2) = (acc.getD i ln0).2.1.2.1 ∧ C (6 * i + 3) = (acc.getD i ln0).2.1.2.2 ∧ C (6 * i + 4) = nI (acc.getD i ln0).2.2.1 ∧ C (6 * i + 5) = nI (acc.getD i ln0).2.2.2) ∧ ∀ i, i < cs.length → C (6 * acc.length + i) = tr (cs.getD i (0, 0)).1 (cs.getD i (0, 0)).2
theorem TR_mk {k : Value} {E : List dsc} {A : fA} {a a' P : Nat} {W : fW} {b : Bool} {acc : List LN} {cs : Cs} (o1 : outK k a) (o2 : outK k a') (h1 : (D0 k ++ E)[a]? = some (.inr (11, [none, some (.ref a')]))) (h2 : (D0 k ++ E)[a']? = some (.inl (0, 6 * acc.length + cs.length))) (h3 : A a 0 = nI acc.length) (hC : CT (A a') acc cs) (hW : WL W P acc cs) (h16 : acc.length ≤ 16) (h4 : cs.length ≤ 400) (hA : ∀ i, i < acc.length → LnOk b cs (acc.getD i ln0)) : TR k E A a W P := by
  refine ⟨a', acc.length, cs.length, o1, o2, h1, h2, h3, WL_WT hW h16 h4 hA, fun i hi => ?_, fun i hi => ?_⟩
  · obtain ⟨c0, c1, c2, c3, c4, c5⟩ := hC.1 i hi
    obtain ⟨q', a0, a1, a2, a3, a4, a5, ho⟩ := hW.2.1 i hi
    obtain ⟨l1, l2, l3, -⟩ := hA i hi
    obtain ⟨d1, d2⟩ := vb_r l1 l2
    obtain ⟨-, -, -, -, -, -, -, -, v9, v10, v11, v12⟩ := wtl_v d1 d2 l3 ho
    rw [a0, a1, a2, a3, a4, a5, c0, c1, c2, c3, c4, c5]
    exact ⟨v9, v10, v11, v12, rfl, rfl⟩
  · rw [hC.2 i hi, (hW.2.2 i hi).1, (hW.2.2 i hi).2]
end TextC
