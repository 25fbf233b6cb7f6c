/-! image and back -/
section ImageB
variable {S : sT} {d c : Nat} {k : Value} {E F : List dsc} {A A' B : fA} {L : fL} {T T' : fT} {W : fW}
/-- the reference's image; and back -/
theorem r_image : ∃ B, ex S (d + 1) 374 [.ref 39] (Hh k E A L T) = some (.inl none, Hh k E B L T) ∧ (∀ i, i < 34979 → B 41 i = A 40 i) ∧ B 39 0 = 0 ∧ B 39 3 = 1 ∧ (∀ j, j ≠ 0 → j ≠ 3 → B 39 j = A 39 j) ∧ ∀ r, r ≠ 39 → r ≠ 41 → B r = A r := by
  rw [x_X12_image, g_X12_image_0, hp_39_0]
  refine loop_Q (α := fA) (F := fun m i B => bd S (ex S d) dflT E_X12_image m 7 [some (.ref 39), some (.int (nI i))] [] (Hh k E B L T)) (N := 34979) (P := fun n B => (∀ i, i < n → B 41 i = A 40 i) ∧ B 39 0 = 0 ∧ (∀ j, j ≠ 0 → B 39 j = A 39 j) ∧ ∀ r, r ≠ 39 → r ≠ 41 → B r = A r) (Q := fun r => ∃ B, r = some (.inl none, Hh k E B L T) ∧ (∀ i, i < 34979 → B 41 i = A 40 i) ∧ B 39 0 = 0 ∧ B 39 3 = 1 ∧ (∀ j, j ≠ 0 → j ≠ 3 → B 39 j = A 39 j) ∧ ∀ r, r ≠ 39 → r ≠ 41 → B r = A r) ?_ ?_ (s := up A 39 0 0) ⟨fun i hi => absurd hi (Nat.not_lt_zero _), up_ii, fun j hj => up_rr hj, fun r r9 _ => up_ne r9⟩ (by decide)
  · rintro m n B hn ⟨h1, h2, h3, h4⟩
    right
    rw [g_X12_image_7, if_neg (show ¬ (34979 : Int32) ≤ nI n from nI_ge (b := 34979) hn (by decide))]
    simp -implicitDefEqProofs only [hv_39_2, hv_39_1, an_40 (show n < 35877 by omega), sn_41 hn, nI_p1]
    refine ⟨_, rfl, fun i hi => ?_, by rw [up_ne (by decide)]; exact h2, fun j hj => by rw [up_ne (by decide)]; exact h3 j hj, fun r r9 r1 => by rw [up_ne r1]; exact h4 r r9 r1⟩
    by_cases q : i = n
    · subst q; rw [up_ii, h4 40 (by decide) (by decide)]
    · rw [up_rr q]; exact h1 i (by omega)
  · rintro m B ⟨h1, h2, h3, h4⟩
    rw [g_X12_image_7, if_pos (by decide), q_z1, hp_39_3]
    exact ⟨_, rfl, fun i hi => by rw [up_ne (by decide)]; exact h1 i hi, by rw [up_rr (by decide)]; exact h2, up_ii, fun j j0 j3 => by rw [up_rr j3]; exact h3 j j0, fun r r9 r1 => by rw [up_ne r9]; exact h4 r r9 r1⟩
theorem r_back1 (h3 : A 39 3 = 1) : ∃ B, ex S (d + 1) 376 [.ref 39] (Hh k E A L T) = some (.inl (some (.int 1)), Hh k E B L T) ∧ (∀ i, i < 34979 → B 40 i = A 41 i) ∧ B 39 0 = 0 ∧ (∀ j, j ≠ 0 → B 39 j = A 39 j) ∧ ∀ r, r ≠ 39 → r ≠ 40 → B r = A r := by
  have z3 : up A 39 0 0 39 3 = 1 := by rw [up_rr (by decide)]; exact h3
  rw [x_X12_back, g_X12_back_0, hp_39_0, hg_39_3, z3, if_neg (by decide)]
  refine loop_Q (α := fA) (F := fun m i B => bd S (ex S d) dflT E_X12_back m 16 [some (.ref 39), some (.int (nI i))] [] (Hh k E B L T)) (N := 34979) (P := fun n B => (∀ i, i < n → B 40 i = A 41 i) ∧ B 39 0 = 0 ∧ (∀ j, j ≠ 0 → B 39 j = A 39 j) ∧ ∀ r, r ≠ 39 → r ≠ 40 → B r = A r) (Q := fun r => ∃ B, r = some (.inl (some (.int 1)), Hh k E B L T) ∧ (∀ i, i < 34979 → B 40 i = A 41 i) ∧ B 39 0 = 0 ∧ (∀ j, j ≠ 0 → B 39 j = A 39 j) ∧ ∀ r, r ≠ 39 → r ≠ 40 → B r = A r) ?_ ?_ (s := up A 39 0 0) ⟨fun i hi => absurd hi (Nat.not_lt_zero _), up_ii, fun j hj => up_rr hj, fun r r9 _ => up_ne r9⟩ (by decide)
  · rintro m n B hn ⟨h1, h2, h3, h4⟩
    right
    rw [g_X12_back_16, if_neg (show ¬ (34979 : Int32) ≤ nI n from nI_ge (b := 34979) hn (by decide))]
    simp -implicitDefEqProofs only [hv_39_2, hv_39_1, an_41 hn, sn_40 (show n < 35877 by omega), nI_p1]
    refine ⟨_, rfl, fun i hi => ?_, by rw [up_ne (by decide)]; exact h2, fun j hj => by rw [up_ne (by decide)]; exact h3 j hj, fun r r9 r1 => by rw [up_ne r1]; exact h4 r r9 r1⟩
    by_cases q : i = n
    · subst q; rw [up_ii, h4 41 (by decide) (by decide)]
    · rw [up_rr q]; exact h1 i (by omega)
  · rintro m B ⟨h1, h2, h3, h4⟩
    rw [g_X12_back_16, if_pos (by decide), q_z1]
    exact ⟨B, rfl, h1, h2, h3, h4⟩
theorem r_back0 (h3 : A 39 3 = 0) : ex S (d + 1) 376 [.ref 39] (Hh k E A L T) = some (.inl (some (.int 0)), Hh k E (up A 39 0 0) L T) := by
  have z3 : up A 39 0 0 39 3 = 0 := by rw [up_rr (by decide)]; exact h3
  rw [x_X12_back, g_X12_back_0, hp_39_0, hg_39_3, z3, if_pos rfl, q_z0]
/-- texts of an estate are texts -/
theorem LkA_tx {o : Nat} (h : LkA o k E A T W) : ∀ j, j < 12 → T (o + 2) j = none ∨ ∃ a b, T (o + 2) j = some a ∧ (D0 k ++ E)[a]? = some (.inr (11, [none, some (.ref b)])) := h.2.2.2.2.2.2.2.2.1
theorem LkA_tl {o : Nat} (h : LkA o k E A T W) : ∀ j, j < 24 → T (o + 9) j = none ∨ ∃ a b, T (o + 9) j = some a ∧ (D0 k ++ E)[a]? = some (.inr (11, [none, some (.ref b)])) := h.2.2.2.2.2.2.1.2.2.1
theorem LkA_T {o : Nat} (h2 : T' (o + 2) = T (o + 2)) (h9 : T' (o + 9) = T (o + 9)) (h : LkA o k E A T W) : LkA o k E A T' W := by
  unfold LkA at h ⊢
  rw [h2, h9]; exact h
theorem p_back (hR : Rel c k E A T) : PK c S (d + 4) k E A T 375 376 [] cd0 := by
  have hI := Rel_w hR
  intro L
  rcases hR.2.2.2.2.2.2.1 with ⟨rfl, h3⟩ | ⟨K, rfl, h3, h49, hD, hLK, hIK⟩
  · refine ⟨.null, E, A, L, T, Or.inl ⟨some (.int 0), rfl, ?_, fun M => ⟨up A 39 0 0, M, r_back0 h3, rfl, up_ii, Rel_thr hR 0⟩⟩⟩
    rw [x_X11_back, g_X11_back_0]
    have g3 : ∀ κ : Value → rO, gV (Hh .null E A L T) (.ref 0) 14 3 κ = κ .null := fun κ => gV_H dd_0 rfl rfl
    rw [g3, q_iN, q_zn, q_z0]
  · have h49' : (49 : Nat) ≤ K := h49
    have hlt := DK_lt hD
    obtain ⟨A1, T1, c1, c2⟩ := cpE (S := S) (d := d + 1) (A := A) (L := L) (T := T) (p := K) (q := 4) hD DK_4 (Or.inr (by omega)) (LkA_tx hLK) (LkA_tl hLK)
    have fA := c2.1
    have fT := c2.2.1
    have o1 : ∀ r, outK (.ref K) r → A1 r = A r := fun r hr => by
      have := hr.1
      exact fA r (Or.inr (by omega))
    have hL1 := LkA_cp (p := K) (q := 4) hIK hLK c2 o1
    have cr : ex S (d + 3) 372 [.ref 4, .ref K] (Hh (.ref K) E A L T) = some (.inl none, Hh (.ref K) E A1 L T1) := c1
    refine ⟨.ref K, E, A1, L, T1, Or.inl ⟨some (.int 1), rfl, ?_, fun M => ?_⟩⟩
    · rw [x_X11_back, g_X11_back_0]
      have g3 : ∀ κ : Value → rO, gV (Hh (.ref K) E A L T) (.ref 0) 14 3 κ = κ (.ref K) := fun κ => gV_H dd_0 rfl rfl
      rw [g3, q_iR, q_zr, hv_0_1, g3, hc_4, cr, q_U, q_z1]
    · obtain ⟨B, b1, b2, b3, b4, b5⟩ := r_back1 (S := S) (d := d + 3) (k := .ref K) (E := E) (A := A1) (L := M) (T := T1) (by rw [fA 39 (by omega)]; exact h3)
      have e40 : ∀ i, i < 34979 → B 40 i = A 41 i := fun i hi => by rw [b2 i hi, fA 41 (by omega)]
      have Br : ∀ r, r ≠ 39 → r ≠ 40 → (r < 4 ∨ 36 ≤ r) → B r = A r := fun r r9 r4 h => by rw [b5 r r9 r4]; exact fA r h
      refine ⟨B, M, b1, rfl, b3, Iv_c (Nat.le_succ c) (Iv_lo e40 hIK), ?_, ?_, ?_, ?_, ?_, ?_, by have := hR.2.2.2.2.2.2.2.1; omega, by have := hR.2.2.2.2.2.2.2.2; omega⟩
      · exact LkA_A (LkA_lo e40 hIK hL1) (fun i hi => b5 _ (by omega) (by omega)) (fun r hr => b5 r (by have := hr.1; omega) (by have := hr.1; omega))
      · rw [Br 1 (by decide) (by decide) (by decide), b4 5 (by decide), fA 39 (by omega)]; exact hR.2.2.1
      · rw [Br 2 (by decide) (by decide) (by decide), Br 42 (by decide) (by decide) (by decide)]; exact hR.2.2.2.1
      · rw [Br 1 (by decide) (by decide) (by decide), b4 10 (by decide), fA 39 (by omega)]; exact hR.2.2.2.2.1
      · rw [Br 36 (by decide) (by decide) (by decide)]; exact hR.2.2.2.2.2.1
      · refine Or.inr ⟨K, rfl, by rw [b4 3 (by decide), fA 39 (by omega)]; exact h3, h49, hD, ?_, ?_⟩
        · rw [Br 41 (by decide) (by decide) (by decide)]
          exact LkA_A (LkA_T (fT _ (by omega)) (fT _ (by omega)) hLK) (fun i hi => Br _ (by omega) (by omega) (by omega)) (fun r hr => Br r (by have := hr.1; omega) (by have := hr.1; omega) (by have := hr.1; omega))
        · rw [Br 41 (by decide) (by decide) (by decide)]; exact Iv_c (Nat.le_succ c) hIK
/-- the first thing of all is another: nothing else changes -/
theorem D0_kk {k' : Value} {a : Nat} {y : dsc} (h0 : a ≠ 0) (h : (D0 k ++ E)[a]? = some y) : (D0 k' ++ (E ++ F))[a]? = some y := by
  cases a with
  | zero => exact absurd rfl h0
  | succ n =>
    have h' : (D0 k' ++ E)[n + 1]? = some y := h
    exact DE_old h'
theorem TR_kk {k' : Value} {a Bx : Nat} (ho : ∀ r, outK k r → r < 49 + E.length → outK k' r) (ha : ∀ r, outK k r → r < 49 + E.length → A' r = A r) (h : TR k E A a W Bx) : TR k' (E ++ F) A' a W Bx := by
  obtain ⟨b, nl, nc, o1, o2, h1, h2, h3, h4, h5, h6⟩ := h
  have n1 := o1.1
  have n2 := o2.1
  have e1 := ha a o1 (DE_lt h1)
  have e2 := ha b o2 (DE_lt h2)
  exact ⟨b, nl, nc, ho a o1 (DE_lt h1), ho b o2 (DE_lt h2), D0_kk (by omega) h1, D0_kk (by omega) h2, by rw [e1]; exact h3, h4, by rw [e2]; exact h5, by rw [e2]; exact h6⟩
theorem TS_kk {k' : Value} {v : Option Nat} (h : TS k E v) : TS k' (E ++ F) v := by
  rcases h with h | ⟨a, b, h1, h2⟩
  · exact Or.inl h
  · refine Or.inr ⟨a, b, h1, D0_kk (fun e => ?_) h2⟩
    subst e
    have z : (D0 k ++ E)[0]? = some (.inr (14, [some (.ref 1), some (.ref 4), some (.ref 38), some k])) := rfl
    rw [z] at h2
    simp at h2
theorem LkA_kk {o : Nat} {k' : Value} (h : LkA o k E A T W) (hr : ∀ i, i < 32 → A' (o + i) = A (o + i)) (ho : ∀ r, outK k r → r < 49 + E.length → outK k' r) (ha : ∀ r, outK k r → r < 49 + E.length → A' r = A r) (h2 : T' (o + 2) = T (o + 2)) (h9 : T' (o + 9) = T (o + 9)) : LkA o k' (E ++ F) A' T' W := by
  obtain ⟨q1, q2, q3, q4, q5, q6, q7, q8⟩ := h
  unfold LkA
  rw [show A' o = A o from hr 0 (by decide), hr 6 (by decide), hr 12 (by decide), hr 13 (by decide), hr 14 (by decide), hr 15 (by decide), hr 16 (by decide), hr 17 (by decide), hr 18 (by decide), hr 19 (by decide), hr 20 (by decide), hr 21 (by decide), hr 22 (by decide), hr 23 (by decide), hr 24 (by decide), hr 25 (by decide), hr 26 (by decide), hr 27 (by decide), hr 28 (by decide), hr 29 (by decide), hr 30 (by decide), hr 31 (by decide), hr 7 (by decide), hr 8 (by decide), hr 1 (by decide), hr 3 (by decide), hr 4 (by decide), h2, h9]
  obtain ⟨a1, a2, a3, a4⟩ := q7
  obtain ⟨b1, b2, b3, b4⟩ := q8
  exact ⟨q1, q2, q3, q4, q5, q6, ⟨a1, a2, fun g hg => TS_kk (a3 g hg), fun g hg hk => by obtain ⟨a, e, t⟩ := a4 g hg hk; exact ⟨a, e, TR_kk ho ha t⟩⟩, ⟨b1, fun t ht => TS_kk (b2 t ht), fun t ht => by obtain ⟨e0, a, e, t⟩ := b3 t ht; exact ⟨e0, a, e, TR_kk ho ha t⟩, b4⟩⟩
/-- the reference's image ties the kept estate -/
theorem im_fin {K : Nat} {A1 : fA} {T1 : fT} {E' : List dsc} (hI : Iv c (A 40)) (h49 : 49 ≤ K) (hD : DK K (D0 (.ref K) ++ E')) (hL4 : LkA 4 (.ref K) E' A1 T1 (A 40)) (hLK : LkA K (.ref K) E' A1 T1 (A 40)) (hA : ∀ r, r < 4 ∨ (36 ≤ r ∧ r < 49) → A1 r = A r) (hR1 : ∃ n, n ≤ 400 ∧ A 1 1 = nI n ∧ A 39 5 = nI n) (hR2 : ∀ i, i < 400 → A 2 i = A 42 i) (hR3 : A 1 2 = A 39 10) (hR4 : A 36 0 = 0 ∧ A 36 5 = 0) (hl : E'.length ≤ 34 * (c + 1)) (hz : esz E' ≤ 4000 * (c + 1)) (M : fL) : ∃ A2 L2, ex S (d + 4) 374 [.ref 39] (Hh (.ref K) E' A1 M T1) = some (.inl none, Hh (.ref K) E' A2 L2 T1) ∧ L2 48 = M 48 ∧ A2 39 0 = 0 ∧ Rel (c + 1) (.ref K) E' A2 T1 := by
  obtain ⟨B, b1, b2, b3, b4, b5, b6⟩ := r_image (S := S) (d := d + 3) (k := .ref K) (E := E') (A := A1) (L := M) (T := T1)
  have e40 : B 40 = A 40 := by rw [b6 40 (by decide) (by decide)]; exact hA 40 (by omega)
  have e41 : ∀ i, i < 34979 → B 41 i = A 40 i := fun i hi => by rw [b2 i hi, hA 40 (by omega)]
  have Br : ∀ r, r ≠ 39 → r ≠ 41 → (r < 4 ∨ (36 ≤ r ∧ r < 49)) → B r = A r := fun r r9 r1 h => by rw [b6 r r9 r1]; exact hA r h
  have h49' : (49 : Nat) ≤ K := h49
  refine ⟨B, M, b1, rfl, b3, by rw [e40]; exact Iv_c (Nat.le_succ c) hI, ?_, ?_, ?_, ?_, ?_, ?_, hl, hz⟩
  · rw [e40]; exact LkA_A hL4 (fun i hi => b6 _ (by omega) (by omega)) (fun r hr => b6 r (by have := hr.1; omega) (by have := hr.1; omega))
  · rw [Br 1 (by decide) (by decide) (by decide), b5 5 (by decide) (by decide), hA 39 (by omega)]; exact hR1
  · rw [Br 2 (by decide) (by decide) (by decide), Br 42 (by decide) (by decide) (by decide)]; exact hR2
  · rw [Br 1 (by decide) (by decide) (by decide), b5 10 (by decide) (by decide), hA 39 (by omega)]; exact hR3
  · rw [Br 36 (by decide) (by decide) (by decide)]; exact hR4
  · exact Or.inr ⟨K, rfl, b4, h49, hD, LkA_A (LkA_lo e41 hI hLK) (fun i hi => b6 _ (by omega) (by omega)) (fun r hr => b6 r (by have := hr.1; omega) (by have := hr.1; omega)), Iv_c (Nat.le_succ c) (Iv_lo e41 hI)⟩
theorem esz_el (K : Nat) : esz (DEl K) ≤ 4000 := by
  unfold esz DEl
  simp -implicitDefEqProofs only [List.map_cons, List.map_nil, List.sum_cons, List.sum_nil, List.length_cons, List.length_nil]
  omega
theorem p_image (hR : Rel c k E A T) : PK c S (d + 4) k E A T 373 374 [] cd0 := by
  have hI := Rel_w hR
  have hlen := hR.2.2.2.2.2.2.2.1
  have hesz := hR.2.2.2.2.2.2.2.2
  intro L
  rcases hR.2.2.2.2.2.2.1 with ⟨rfl, h3⟩ | ⟨K, rfl, h3, h49, hD, hLK, hIK⟩
  · -- the first image
    have hO : Hh .null E A L T ++ [.inr (3, dflT 3)] = HP ((D0 .null ++ E) ++ [.inr (3, [some .null, some .null, some .null, some .null, some .null, some .null, some .null, none, some .null, some .null])]) (upR A (49 + E.length) (fun _ => 0)) L T := by
      unfold Hh
      rw [mkO_H (ks_X0 _ _ (by simp [upR])), DE_len]
    have lP : (D0 Value.null ++ E).length = 49 + E.length := DE_len
    obtain ⟨A0, L0, T0, m1, m2, m3⟩ := mk_X0 (S := S) (d := d) (P := D0 .null ++ E) (A := upR A (49 + E.length) (fun _ => 0)) (L := L) (T := T) (by rw [lP]; exact upR_s)
    have mT : ∀ r, r < 49 + E.length → T0 r = T r := by
      have := m3.2.2.2.2.2.2.2.2.2.2.2.2.2.2.2.2.2.2.2.2.2.2.2.2.2.2.2.2.1
      rw [lP] at this; exact this
    rw [lP] at m1 m2
    have hK1 : ∀ r, r < 49 + E.length → A0 r = A r := fun r hr => by rw [m2 r hr, upR_o (by omega)]
    have sN : (D0 .null ++ E ++ DEl (49 + E.length)).set 0 (.inr (14, [some (.ref 1), some (.ref 4), some (.ref 38), some (.ref (49 + E.length))])) = D0 (.ref (49 + E.length)) ++ (E ++ DEl (49 + E.length)) := by
      rw [List.append_assoc]; rfl
    have d0 : (D0 Value.null ++ E ++ DEl (49 + E.length))[0]? = some (.inr (14, [some (.ref 1), some (.ref 4), some (.ref 38), some .null])) := rfl
    have hD : DK (49 + E.length) (D0 (.ref (49 + E.length)) ++ (E ++ DEl (49 + E.length))) := by
      have := DK_el (P := D0 (.ref (49 + E.length)) ++ E)
      rw [DE_len, List.append_assoc] at this
      exact this
    have hout : ∀ r, outK .null r → r < 49 + E.length → outK (.ref (49 + E.length)) r := fun r hr h => ⟨hr.1, fun K e => by cases e; exact Or.inl h⟩
    have hL0 : LkA 4 (.ref (49 + E.length)) (E ++ DEl (49 + E.length)) A0 T0 (A 40) := LkA_kk hR.2.1 (fun i hi => hK1 _ (by omega)) hout (fun r hr h => hK1 r h) (mT _ (by omega)) (mT _ (by omega))
    obtain ⟨A1, T1, c1, c2⟩ := cpE (S := S) (d := d + 1) (A := A0) (L := L0) (T := T0) (D := D0 (.ref (49 + E.length)) ++ (E ++ DEl (49 + E.length))) (p := 4) (q := 49 + E.length) DK_4 hD (Or.inl (by omega)) (LkA_tx hL0) (LkA_tl hL0)
    have fA := c2.1
    have fT := c2.2.1
    have o1 : ∀ r, outK (.ref (49 + E.length)) r → A1 r = A0 r := fun r hr => by
      rcases hr.2 _ rfl with h | h
      · exact fA r (Or.inl h)
      · have h' : Nat.le (49 + E.length + 34) r := h
        have h'' : 49 + E.length + 34 ≤ r := h'
        exact fA r (Or.inr (by omega))
    have hLK := LkA_cp (p := 4) (q := 49 + E.length) hI hL0 c2 o1
    have hL4 : LkA 4 (.ref (49 + E.length)) (E ++ DEl (49 + E.length)) A1 T1 (A 40) := LkA_A (LkA_T (fT _ (by omega)) (fT _ (by omega)) hL0) (fun i hi => fA _ (by omega)) o1
    refine ⟨.ref (49 + E.length), E ++ DEl (49 + E.length), A1, L0, T1, Or.inl ⟨none, rfl, ?_, fun M => im_fin hI (by omega) hD hL4 hLK (fun r hr => by rw [fA r (by omega)]; exact hK1 r (by omega)) hR.2.2.1 hR.2.2.2.1 hR.2.2.2.2.1 hR.2.2.2.2.2.1 ?_ ?_ M⟩⟩
    · rw [x_X11_image, g_X11_image_0]
      have g3 : ∀ κ : Value → rO, gV (Hh .null E A L T) (.ref 0) 14 3 κ = κ .null := fun κ => gV_H dd_0 rfl rfl
      have m1' : ex S (d + 3) 9 [.ref (49 + E.length)] (HP ((D0 .null ++ E) ++ [.inr (3, [some .null, some .null, some .null, some .null, some .null, some .null, some .null, none, some .null, some .null])]) (upR A (49 + E.length) (fun _ => 0)) L T) = _ := m1
      rw [g3, q_iN, q_zn, Hh_len, hO, m1', q_Ux, pFr_H d0 (by decide)]
      rw [show (List.set (D0 .null ++ E ++ DEl (49 + E.length)) 0 (.inr (14, List.set [some (.ref 1), some (.ref 4), some (.ref 38), some .null] 3 (some (.ref (49 + E.length)))))) = D0 (.ref (49 + E.length)) ++ (E ++ DEl (49 + E.length)) from sN]
      have g3' : ∀ κ : Value → rO, gV (HP (D0 (.ref (49 + E.length)) ++ (E ++ DEl (49 + E.length))) A0 L0 T0) (.ref 0) 14 3 κ = κ (.ref (49 + E.length)) := fun κ => gV_H dd_0 rfl rfl
      have g1' : ∀ κ : Value → rO, gV (HP (D0 (.ref (49 + E.length)) ++ (E ++ DEl (49 + E.length))) A0 L0 T0) (.ref 0) 14 1 κ = κ (.ref 4) := fun κ => gV_H dd_0 rfl rfl
      have cr : ex S (d + 3) 372 [.ref (49 + E.length), .ref 4] (HP (D0 (.ref (49 + E.length)) ++ (E ++ DEl (49 + E.length))) A0 L0 T0) = _ := c1
      have rk : ∀ κ : rO, rC (HP (D0 (.ref (49 + E.length)) ++ (E ++ DEl (49 + E.length))) A0 L0 T0) (.ref (49 + E.length)) 3 κ = κ := fun κ => rC_H (hD 0 (by decide))
      rw [g3', g1', rk, cr, q_U]
      rfl
    · rw [List.length_append]; show E.length + 34 ≤ _; omega
    · rw [esz_app]; have := esz_el (49 + E.length); omega
  · have h49' : (49 : Nat) ≤ K := h49
    have hlt := DK_lt hD
    obtain ⟨A1, T1, c1, c2⟩ := cpE (S := S) (d := d + 1) (A := A) (L := L) (T := T) (p := 4) (q := K) DK_4 hD (Or.inl (by omega)) (LkA_tx hR.2.1) (LkA_tl hR.2.1)
    have fA := c2.1
    have fT := c2.2.1
    have o1 : ∀ r, outK (.ref K) r → A1 r = A r := fun r hr => by
      rcases hr.2 _ rfl with h | h
      · exact fA r (Or.inl h)
      · have h' : Nat.le (K + 34) r := h
        have h'' : Nat.le (K + 32) r := Nat.le_trans (Nat.add_le_add_left (by decide) K) h'
        exact fA r (Or.inr h'')
    have hLK' := LkA_cp (p := 4) (q := K) hI hR.2.1 c2 o1
    have hL4 : LkA 4 (.ref K) E A1 T1 (A 40) := LkA_A (LkA_T (fT _ (by omega)) (fT _ (by omega)) hR.2.1) (fun i hi => fA _ (by omega)) o1
    have cr : ex S (d + 3) 372 [.ref K, .ref 4] (Hh (.ref K) E A L T) = some (.inl none, Hh (.ref K) E A1 L T1) := c1
    refine ⟨.ref K, E, A1, L, T1, Or.inl ⟨none, rfl, ?_, fun M => im_fin hI h49 hD hL4 hLK' (fun r hr => fA r (by omega)) hR.2.2.1 hR.2.2.2.1 hR.2.2.2.2.1 hR.2.2.2.2.2.1 (by omega) (by omega) M⟩⟩
    rw [x_X11_image, g_X11_image_0]
    have g3 : ∀ κ : Value → rO, gV (Hh (.ref K) E A L T) (.ref 0) 14 3 κ = κ (.ref K) := fun κ => gV_H dd_0 rfl rfl
    have rk : ∀ κ : rO, rC (Hh (.ref K) E A L T) (.ref K) 3 κ = κ := fun κ => rC_H (hD 0 (by decide))
    rw [g3, q_iR, q_zr, g3, hv_0_1, rk, cr, q_U]
end ImageB
