/-! heirs, wrongs, what is owing; a field is told, looked at, sown -/
section LedB
variable {S : sT} {d c : Nat} {k : Value} {E : List dsc} {A : fA} {L : fL} {T : fT} {W : fW}
theorem up40 {B : fA} {i : Nat} {x : Int32} : up B 40 i x 40 = upd (B 40) i x := up_eq
theorem c_addI {j : Int64} (hG : A 22 0 = W 1) : ex S (d + 2) 191 [.ref 22, .long j] (Hh k E A L T) = some (.inl none, Hh k E (up A 22 0 (kp ((W 1).toInt64 + j))) L T) := by
  simp -implicitDefEqProofs only [x_X3_addIncome, g_X3_addIncome_0, hg_22_0, c_capped, q_Ix, hp_22_0, hG]
theorem c_addC {j : Int64} (hG : A 22 1 = W 2) : ex S (d + 2) 211 [.ref 22, .long j] (Hh k E A L T) = some (.inl none, Hh k E (up A 22 1 (kp ((W 2).toInt64 + j))) L T) := by
  simp -implicitDefEqProofs only [x_X3_addCapital, g_X3_addCapital_0, hg_22_1, c_capped, q_Ix, hp_22_1, hG]
theorem c_addH {x : Int32} (hG : A 22 2 = W 3) : ex S (d + 2) 190 [.ref 22, .int x] (Hh k E A L T) = some (.inl none, Hh k E (up A 22 2 (kp ((W 3).toInt64 + x.toInt64))) L T) := by
  simp -implicitDefEqProofs only [x_X3_addHarvest, g_X3_addHarvest_0, hg_22_2, c_capped, q_Ix, hp_22_2, hG]
theorem r_inc {j : Int64} : ex S (d + 2) 235 [.ref 39, .long j] (Hh k E A L T) = some (.inl none, Hh k E (up A 40 1 (kp ((A 40 1).toInt64 + j))) L T) := by
  simp -implicitDefEqProofs only [x_X12_income, g_X12_income_0, hv_39_1, aw_40_1, r_kept, q_I, sw_40_1]
theorem r_cap {j : Int64} : ex S (d + 2) 248 [.ref 39, .long j] (Hh k E A L T) = some (.inl none, Hh k E (up A 40 2 (kp ((A 40 2).toInt64 + j))) L T) := by
  simp -implicitDefEqProofs only [x_X12_capital, g_X12_capital_0, hv_39_1, aw_40_2, r_kept, q_I, sw_40_2]
theorem p_heir (hR : Rel c k E A T) : PI c S (d + 6) k E A T 318 319 [] cd0 := by
  have hI := Rel_w hR
  obtain ⟨⟨m0, m1, m2, m3, m4, m5, m6, m8⟩, n1, n2⟩ := Rel_g hR
  generalize hm : (if (0 : Int32) < A 40 1 then A 40 1 else 0) = m
  generalize hy : kp ((A 40 7).toInt64 + m.toInt64) = y
  have hx : rg (A 40 1 - m) (-2000000000) 2000000000 := by
    have q := hI.2.2.2.2.2.1.1
    subst hm
    by_cases h : (0 : Int32) < A 40 1
    · rw [if_pos h, Int32.sub_self]; unfold rg; decide
    · rw [if_neg h, Int32.sub_zero]; exact q
  refine ⟨k, E, up (up (up A 22 0 (A 40 1 - m)) 22 4 y) 22 5 (A 40 5 + 1), T, up (up (up (up (up (up (up A 22 0 (A 40 1 - m)) 22 4 y) 22 5 (A 40 5 + 1)) 39 0 0) 40 1 (A 40 1 - m)) 40 7 y) 40 5 (A 40 5 + 1), Rel_by hR (Fr_tr (Fr_up (by decide) (by decide)) (Fr_tr (Fr_up (by decide) (by decide)) (Fr_up (by decide) (by decide)))) (Fg_tr Fg_up (Fg_tr Fg_up Fg_up)) ?_ ?_, Or.inl ⟨some (.int m), rfl, fun L => ⟨L, ?_⟩, fun L => ⟨L, ?_, rfl⟩, rfl⟩⟩
  · rw [up40, up40, up40]
    have i1 := jG_1 hI hx
    have i2 := jG_7 (x := y) i1 (by rw [← hy]; exact kp_rg _)
    exact kG_5 i2 (kG_4 i1 (kG_0 hI hR.2.1))
  · rw [up40, up40, up40]
    exact Iv_c (Nat.le_succ c) (jG_5 (jG_7 (jG_1 hI hx) (by rw [← hy]; exact kp_rg _)) trivial)
  · simp -implicitDefEqProofs only [x_X11_heir, g_X11_heir_0, hv_0_1, hv_4_4, hc_22, x_X3_passOn, g_X3_passOn_0, hg_22_0, m0, hm, hp_22_0, hg_22_4, up_rr (show (4 : Nat) ≠ 0 by decide), m4, c_capped, hy, q_Ix, hp_22_4, hg_22_5, up_rr (show (5 : Nat) ≠ 4 by decide), up_rr (show (5 : Nat) ≠ 0 by decide), m5, hp_22_5, q_I]
  · have w1 : ∀ i, up (up (up (up A 22 0 (A 40 1 - m)) 22 4 y) 22 5 (A 40 5 + 1)) 39 0 0 40 i = A 40 i := fun i => rfl
    simp -implicitDefEqProofs only [x_X12_heir, g_X12_heir_0, hp_39_0, hv_39_1, aw_40_1, w1, hm, q_nr, sw_40_1, aw_40_7, up_rr (show (7 : Nat) ≠ 1 by decide), r_kept, hy, q_I, sw_40_7, aw_40_5, up_rr (show (5 : Nat) ≠ 7 by decide), up_rr (show (5 : Nat) ≠ 1 by decide), sw_40_5]
theorem min60 {m : Nat} (hm : m < 2 ^ 31) : (if (60 : Int32) < nI m then (60 : Int32) else nI m) = nI (min m 60) ∧ (if nI m < (60 : Int32) then nI m else (60 : Int32)) = nI (min m 60) := by
  have e : (60 : Int32) = nI 60 := rfl
  rw [e]
  constructor
  · by_cases h : 60 < m
    · rw [if_pos (nI_lt h hm), Nat.min_eq_right (by omega)]
    · rw [if_neg (nI_nlt (by omega) (by decide)), Nat.min_eq_left (by omega)]
  · by_cases h : m < 60
    · rw [if_pos (nI_lt h (by decide)), Nat.min_eq_left (by omega)]
    · rw [if_neg (nI_nlt (by omega) hm), Nat.min_eq_right (by omega)]
theorem p_wrong (hc : c ≤ 1000000) (hR : Rel c k E A T) (x y : Int32) : PI c S (d + 6) k E A T 321 323 [.int x, .int y] cdC := by
  obtain ⟨m, hm, em⟩ := (Rel_w hR).2.2.2.2.2.1.2.2.2.2.2
  obtain ⟨⟨m0, m1, m2, m3, m4, m5, m6, m8⟩, n1, n2⟩ := Rel_g hR
  obtain ⟨k1, k2⟩ := min60 (m := m) (by omega)
  have l1 : A 22 6 = nI m := m6.trans em
  have w1 : up A 39 0 0 40 6 = nI m := em
  rcases idx_c x (n := min m 60) (by omega) with ⟨i, hi, rfl, hw⟩ | ⟨hx, hw⟩
  · have g1 : ¬ nI i < 0 := nI_pos (by omega)
    have g2 : ¬ nI (min m 60) ≤ nI i := nI_ge hi (by omega)
    by_cases q : wi y 0 3
    · obtain ⟨j, hj, rfl⟩ := wi_n (M := 3) (by decide) q
      refine ⟨k, E, A, T, up A 39 0 0, Rel_thr hR 0, Or.inl ⟨some (.int (A 40 (1997 + (4 * i + j)))), rfl, fun L => ⟨L, ?_⟩, fun L => ⟨L, ?_, rfl⟩, up_ii⟩⟩
      · have e1 : A 23 (i * 4 + j) = A 40 (1997 + (4 * i + j)) := by rw [n1 _ (by omega), Nat.mul_comm]
        simp -implicitDefEqProofs only [x_X11_wrong, g_X11_wrong_0, g_X11_wrong_28, if_neg g1, hv_0_1, hv_4_4, hg_22_6, l1, k1, if_neg g2, c_k1, q_U, if_neg q.1, if_neg q.2, hc_22, x_X3_wrongNote, g_X3_wrongNote_0, hv_22_7, mr_4, nI_add, an_23 (show i * 4 + j < 240 by omega), e1, q_I]
      · simp -implicitDefEqProofs only [x_X12_wrong, g_X12_wrong_0, g_X12_wrong_42, hp_39_0, hv_39_1, aw_40_6, w1, k2, r_in1 hw, r_in1 q, q_I, i1_0, if_false, hc_39, r_thr0, i0_0, if_true, ix_1997, nI_add, Nat.add_assoc, an_40 (show 1997 + (4 * i + j) < 35877 by omega)]
        rfl
    · refine ⟨k, E, A, T, up A 39 0 1, Rel_thr hR 1, Or.inr ⟨3, by decide, fun L => ⟨L, ?_⟩, fun L => ⟨L, some (.int 0), rfl, ?_, rfl⟩, up_ii⟩⟩
      · by_cases q1 : y < 0
        · simp -implicitDefEqProofs only [x_X11_wrong, g_X11_wrong_0, g_X11_wrong_28, if_neg g1, hv_0_1, hv_4_4, hg_22_6, l1, k1, if_neg g2, c_k1, q_U, if_pos q1, c_k0, q_Ue]
        · have q2 : 3 < y := Decidable.byContradiction fun q2 => q ⟨q1, q2⟩
          simp -implicitDefEqProofs only [x_X11_wrong, g_X11_wrong_0, g_X11_wrong_28, if_neg g1, hv_0_1, hv_4_4, hg_22_6, l1, k1, if_neg g2, c_k1, q_U, if_neg q1, if_pos q2, c_k0, q_Ue]
      · simp -implicitDefEqProofs only [x_X12_wrong, g_X12_wrong_0, g_X12_wrong_42, hp_39_0, hv_39_1, aw_40_6, w1, k2, r_in1 hw, r_in0 q, q_I, i1_0, if_false, hc_39, r_thr1, i0_0, if_true, up_up]
  · refine ⟨k, E, A, T, up A 39 0 1, Rel_thr hR 1, Or.inr ⟨3, by decide, fun L => ⟨L, ?_⟩, fun L => ⟨L, some (.int 0), rfl, ?_, rfl⟩, up_ii⟩⟩
    · by_cases q1 : x < 0
      · simp -implicitDefEqProofs only [x_X11_wrong, g_X11_wrong_0, g_X11_wrong_28, if_pos q1, c_k0, q_Ue]
      · simp -implicitDefEqProofs only [x_X11_wrong, g_X11_wrong_0, g_X11_wrong_28, if_neg q1, hv_0_1, hv_4_4, hg_22_6, l1, k1, if_pos (hx.resolve_left q1), c_k0, q_Ue]
    · simp -implicitDefEqProofs only [x_X12_wrong, g_X12_wrong_0, g_X12_wrong_42, hp_39_0, hv_39_1, aw_40_6, w1, k2, r_in0 hw, q_I, i0_0, if_true, hc_39, r_thr1, i1_0, if_false, up_up]
theorem p_owing (hR : Rel c k E A T) (x : Int32) : PI c S (d + 6) k E A T 307 309 [.int x] cdH := by
  obtain ⟨h1, h2, -⟩ := (Rel_w hR).2.2.2.2.2.2.1
  obtain ⟨⟨m0, m1, m2, m3, m4, m5, m6, m8⟩, n1, n2⟩ := Rel_g hR
  have l1 : A 22 8 = nI (ln (A 40)) := m8.trans h1
  have w1 : up A 39 0 0 40 1948 = nI (ln (A 40)) := h1
  rcases idx_c x (n := ln (A 40)) (by omega) with ⟨i, hi, rfl, hw⟩ | ⟨hx, hw⟩
  · refine ⟨k, E, A, T, up A 39 0 0, Rel_thr hR 0, Or.inl ⟨some (.int (A 40 (1949 + 4 * i))), rfl, fun L => ⟨L, ?_⟩, fun L => ⟨L, ?_, rfl⟩, up_ii⟩⟩
    · simp -implicitDefEqProofs only [x_X11_owing, g_X11_owing_0, hv_0_1, hv_4_4, hg_22_8, l1, c_ix1 hi (show ln (A 40) < 2 ^ 31 by omega), q_U, hv_22_11, an_26 (show i < 12 by omega), (n2 i (by omega)).1]
    · simp -implicitDefEqProofs only [x_X12_owing, g_X12_owing_0, g_X12_owing_29, hp_39_0, hv_39_1, aw_40_1948, w1, r_in1 hw, q_I, i1_0, if_false, hc_39, r_thr0, i0_0, if_true, ix_1949, an_40 (show 1949 + 4 * i < 35877 by omega)]
      rfl
  · refine ⟨k, E, A, T, up A 39 0 1, Rel_thr hR 1, Or.inr ⟨0, by decide, fun L => ⟨L, ?_⟩, fun L => ⟨L, some (.int 0), rfl, ?_, rfl⟩, up_ii⟩⟩
    · simp -implicitDefEqProofs only [x_X11_owing, g_X11_owing_0, hv_0_1, hv_4_4, hg_22_8, l1, c_ix0 hx, q_Ue]
    · simp -implicitDefEqProofs only [x_X12_owing, g_X12_owing_0, g_X12_owing_29, hp_39_0, hv_39_1, aw_40_1948, w1, r_in0 hw, q_I, i0_0, if_true, hc_39, r_thr1, i1_0, if_false, up_up]
theorem p_look (hR : Rel c k E A T) (x y : Int32) : PI c S (d + 6) k E A T 260 263 [.int x, .int y] cdB := by
  rcases fld_c x with hx | ⟨f, hf, rfl⟩
  · refine ⟨k, E, A, T, up A 39 0 1, Rel_thr hR 1, Or.inr ⟨0, by decide, fun L => ⟨L, ?_⟩, fun L => ⟨L, some (.int 0), rfl, ?_, rfl⟩, up_ii⟩⟩
    · simp -implicitDefEqProofs only [x_X11_look, g_X11_look_0, c_f0 hx, q_Ue]
    · simp -implicitDefEqProofs only [x_X12_look, g_X12_look_0, hp_39_0, r_f0 hx, q_I, hc_39, r_thr1, i1_0, if_false, up_up]
  · by_cases q : wi y 0 12
    · by_cases q12 : y = 12
      · refine ⟨k, E, A, T, up A 39 0 0, Rel_thr hR 0, Or.inl ⟨some (.int (worthW (A 40) f)), rfl, fun L => ⟨L, ?_⟩, fun L => ⟨L, ?_, rfl⟩, up_ii⟩⟩
        · simp -implicitDefEqProofs only [x_X11_look, g_X11_look_0, g_X11_look_19, c_f1 hf, q_U, if_neg q.1, if_neg q.2, c_k1, if_pos q12, hv_0_1, hv_4_1, hc_9, c_worth (Rel_l hR) hf, q_I]
        · simp -implicitDefEqProofs only [x_X12_look, g_X12_look_0, g_X12_look_33, hp_39_0, r_f1 hf, q_I, hc_39, r_thr0, i0_0, if_true, r_in1 q, i1_0, if_false, if_pos q12, r_worth hf]
          rfl
      · obtain ⟨w, hw, rfl⟩ := wi_n (M := 12) (by decide) q
        have hw' : w < 14 := by omega
        refine ⟨k, E, A, T, up A 39 0 0, Rel_thr hR 0, Or.inl ⟨some (.int (A 40 (8 + 14 * f + w))), rfl, fun L => ⟨L, ?_⟩, fun L => ⟨L, ?_, rfl⟩, up_ii⟩⟩
        · simp -implicitDefEqProofs only [x_X11_look, g_X11_look_0, g_X11_look_19, c_f1 hf, q_U, if_neg q.1, if_neg q.2, c_k1, if_neg q12, hv_0_1, hv_4_1, hc_9, lget hw' hf, Rel_l hR w f hw' hf, q_I]
        · simp -implicitDefEqProofs only [x_X12_look, g_X12_look_0, g_X12_look_33, hp_39_0, r_f1 hf, q_I, hc_39, r_thr0, i0_0, if_true, r_in1 q, i1_0, if_false, if_neg q12, r_of hf hw']
          rfl
    · refine ⟨k, E, A, T, up A 39 0 2, Rel_thr hR 2, Or.inr ⟨3, by decide, fun L => ⟨L, ?_⟩, fun L => ⟨L, some (.int 0), rfl, ?_, rfl⟩, up_ii⟩⟩
      · by_cases q1 : y < 0
        · simp -implicitDefEqProofs only [x_X11_look, g_X11_look_0, g_X11_look_19, c_f1 hf, q_U, if_pos q1, c_k0, q_Ue]
        · have q2 : 12 < y := Decidable.byContradiction fun q2 => q ⟨q1, q2⟩
          simp -implicitDefEqProofs only [x_X11_look, g_X11_look_0, g_X11_look_19, c_f1 hf, q_U, if_neg q1, if_pos q2, c_k0, q_Ue]
      · simp -implicitDefEqProofs only [x_X12_look, g_X12_look_0, g_X12_look_33, hp_39_0, r_f1 hf, q_I, hc_39, r_thr0, i0_0, if_true, r_in0 q, r_thr1, i1_0, if_false, up_up]
end LedB
