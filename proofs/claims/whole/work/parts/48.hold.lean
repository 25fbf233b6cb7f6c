/-! notice; what stands of a holding (laid by gen_led.py) -/
section HoldB
variable {S : sT} {d c : Nat} {k : Value} {E : List dsc} {A : fA} {L : fL} {T : fT} {W : fW}
theorem c_nh1 {j n : Nat} (hn' : A 11 0 = nI n) (hj : j < n) (hn : n < 2 ^ 31) : ex S (d + 2) 168 [.ref 0, .int (nI j)] (Hh k E A L T) = some (.inl none, Hh k E A L T) := by
  simp -implicitDefEqProofs only [x_X11_needHolding, g_X11_needHolding_0, hv_0_1, hv_4_2, hg_11_0, hn', c_ix1 hj hn, q_U]
theorem c_nh0 {x : Int32} {n : Nat} (hn' : A 11 0 = nI n) (hx : x < 0 ∨ nI n ≤ x) : ex S (d + 2) 168 [.ref 0, .int x] (Hh k E A L T) = some (.inr (xnm 0), Hh k E A L T) := by
  simp -implicitDefEqProofs only [x_X11_needHolding, g_X11_needHolding_0, hv_0_1, hv_4_2, hg_11_0, hn', c_ix0 hx, q_Ue]
theorem r_nh1 {j n : Nat} (hn' : A 40 1683 = nI n) (hw : wi (nI j) 0 (nI n - 1)) : ex S (d + 2) 171 [.ref 39, .int (nI j)] (Hh k E A L T) = some (.inl (some (.int 0)), Hh k E A L T) := by
  simp -implicitDefEqProofs only [x_X12_noHolding, g_X12_noHolding_0, hv_39_1, aw_40_1683, hn', r_in1 hw, q_I, i1_0, if_false, q_z0]
theorem r_nh0 {x : Int32} {n : Nat} (hn' : A 40 1683 = nI n) (hw : ¬ wi x 0 (nI n - 1)) : ex S (d + 2) 171 [.ref 39, .int x] (Hh k E A L T) = some (.inl (some (.int 1)), Hh k E A L T) := by
  simp -implicitDefEqProofs only [x_X12_noHolding, g_X12_noHolding_0, hv_39_1, aw_40_1683, hn', r_in0 hw, q_I, i0_0, if_true, q_z1]
theorem p_notice (hR : Rel c k E A T) (x : Int32) : PI c S (d + 6) k E A T 169 173 [.int x] cdF := by
  have hI := Rel_w hR
  have h1 := hI.2.2.2.2.1.1
  have h24 := hI.2.2.2.2.1.2.1
  have l1 : A 11 0 = nI (hn (A 40)) := (Rel_h hR).1.trans h1
  have w1 : up A 39 0 0 40 1683 = nI (hn (A 40)) := h1
  rcases idx_c x (n := hn (A 40)) (by omega) with ⟨h, hh, rfl, hw⟩ | ⟨hx, hw⟩
  · have hC := (Rel_h hR).2.1 h hh
    have hH := hI.2.2.2.2.1.2.2 h hh
    have h2 : h < 24 := by omega
    by_cases hk : A 40 (1684 + 11 * h + 0) = 1
    · obtain ⟨-, -, -, -, -, -, a6, a7, -, -, -⟩ := hH
      by_cases hf : A 40 (1684 + 11 * h + 8) = 1
      · have e1 : ¬ A 40 (1684 + 11 * h + 8) = 0 := by rw [hf]; decide
        have e2 : up A 12 (240 + h) 1 = A := by
          funext r i; simp -implicitDefEqProofs only [up]; split
          · rename_i q; obtain ⟨q1, q2⟩ := q; subst q1 q2
            rw [hC.2.2.2.2.2.2.2.2.2.2.1, hf]
          · rfl
        refine ⟨k, E, A, T, up A 39 0 0, Rel_thr hR 0, Or.inl ⟨some (.int 0), rfl, fun L => ⟨L, ?_⟩, fun L => ⟨L, ?_, rfl⟩, up_ii⟩⟩
        · simp -implicitDefEqProofs only [x_X11_notice, g_X11_notice_0, g_X11_notice_26, hc_0, c_nh1 l1 hh (show hn (A 40) < 2 ^ 31 by omega), q_U, hv_0_1, hv_4_2, hc_11, gH_0 hC h2, q_I, if_pos hk, c_kd1, gH_10 hC h2, if_neg e1, ts_10 h2, q_z0, e2]
        · simp -implicitDefEqProofs only [x_X12_notice, g_X12_notice_0, g_X12_notice_34, hp_39_0, hc_39, r_nh1 w1 hw, q_I, r_thr0, i0_0, if_true, ri_0 h2, ri_8 h2, u40_39, if_pos hk, if_pos hf, q_z0]
      · have hf0 : A 40 (1684 + 11 * h + 8) = 0 := a6.resolve_right hf
        have e3 : ¬ nI (fo (A 40) h) = 0 := fun q => hf (a7 hk (by
          have := cntF_le (fun f => A 40 (8 + 14 * f + 10) = nI h) 48
          exact (nI_eq (a := fo (A 40) h) (b := 0) (by unfold fo; omega) (by decide)).mp q))
        refine ⟨k, E, up A 12 (240 + h) 1, T, up (up (up A 12 (240 + h) 1) 39 0 0) 40 (1684 + 11 * h + 8) (kp 1), Rel_by hR (Fr_up (by decide) (by decide)) Fg_up ?_ ?_, Or.inl ⟨some (.int 1), rfl, fun L => ⟨L, ?_⟩, fun L => ⟨L, ?_, rfl⟩, rfl⟩⟩
        · rw [up40, show kp 1 = 1 by decide]; exact kH_10 hI hh hR.2.1
        · rw [up40, show kp 1 = 1 by decide]; exact Iv_c (Nat.le_succ c) (jH_8 hI hh rfl)
        · simp -implicitDefEqProofs only [x_X11_notice, g_X11_notice_0, g_X11_notice_26, hc_0, c_nh1 l1 hh (show hn (A 40) < 2 ^ 31 by omega), q_U, hv_0_1, hv_4_2, hc_11, gH_0 hC h2, q_I, if_pos hk, c_kd1, gH_10 hC h2, if_pos hf0, ts_10 h2, q_z1]
        · have w2 : up (up A 12 (240 + h) 1) 39 0 0 40 1683 = nI (hn (A 40)) := h1
          simp -implicitDefEqProofs only [x_X12_notice, g_X12_notice_0, g_X12_notice_34, hp_39_0, hc_39, r_nh1 w2 hw, q_I, r_thr0, i0_0, if_true, ri_0 h2, ri_8 h2, u40_39, u40_12, if_pos hk, if_neg hf, r_fieldsOf, if_neg e3, rs_8 h2, q_U, q_z1]
    · refine ⟨k, E, A, T, up A 39 0 2, Rel_thr hR 2, Or.inr ⟨2, by decide, fun L => ⟨L, ?_⟩, fun L => ⟨L, some (.int 0), rfl, ?_, rfl⟩, up_ii⟩⟩
      · simp -implicitDefEqProofs only [x_X11_notice, g_X11_notice_0, g_X11_notice_26, hc_0, c_nh1 l1 hh (show hn (A 40) < 2 ^ 31 by omega), q_U, hv_0_1, hv_4_2, hc_11, gH_0 hC h2, q_I, if_neg hk, c_kd0, q_Ue]
      · simp -implicitDefEqProofs only [x_X12_notice, g_X12_notice_0, g_X12_notice_34, hp_39_0, hc_39, r_nh1 w1 hw, q_I, r_thr0, r_thr1, i0_0, i1_0, if_true, if_false, ri_0 h2, u40_39, if_neg hk, q_z0, up_up]
  · refine ⟨k, E, A, T, up A 39 0 1, Rel_thr hR 1, Or.inr ⟨0, by decide, fun L => ⟨L, ?_⟩, fun L => ⟨L, some (.int 0), rfl, ?_, rfl⟩, up_ii⟩⟩
    · simp -implicitDefEqProofs only [x_X11_notice, g_X11_notice_0, hc_0, c_nh0 l1 hx, q_Ue]
    · simp -implicitDefEqProofs only [x_X12_notice, g_X12_notice_0, hp_39_0, hc_39, r_nh0 w1 hw, q_I, r_thr1, i1_0, if_false, q_z0, up_up]
theorem fo_lt (W : fW) (h : Nat) : fo W h < 2 ^ 31 := by
  have := cntF_le (fun f => W (8 + 14 * f + 10) = nI h) 48
  unfold fo; omega
theorem p_led (hR : Rel c k E A T) (x y : Int32) : PI c S (d + 6) k E A T 264 266 [.int x, .int y] cdB := by
  have hI := Rel_w hR
  have h1 := hI.2.2.2.2.1.1
  have h24 := hI.2.2.2.2.1.2.1
  have l1 : A 11 0 = nI (hn (A 40)) := (Rel_h hR).1.trans h1
  have w1 : up A 39 0 0 40 1683 = nI (hn (A 40)) := h1
  rcases idx_c x (n := hn (A 40)) (by omega) with ⟨h, hh, rfl, hw⟩ | ⟨hx, hw⟩
  · have hC := (Rel_h hR).2.1 h hh
    have h2 : h < 24 := by omega
    by_cases q : wi y 0 10
    · have q1 := q.1
      have q2 := q.2
      rcases sm_10 q with rfl | rfl | rfl | rfl | rfl | rfl | rfl | rfl | rfl | rfl | rfl
      · refine ⟨k, E, A, T, up A 39 0 0, Rel_thr hR 0, Or.inl ⟨some (.int (A 40 (1684 + 11 * h + 0))), rfl, fun L => ⟨L, ?_⟩, fun L => ⟨L, ?_, rfl⟩, up_ii⟩⟩
        · simp -implicitDefEqProofs only [x_X11_led, g_X11_led_0, hc_0, c_nh1 l1 hh (show hn (A 40) < 2 ^ 31 by omega), q_U, if_neg q1, if_neg q2, c_k1, hv_0_1, hv_4_2, hc_11, gH_0 hC h2, q_I]
        · simp -implicitDefEqProofs only [x_X12_led, g_X12_led_0, g_X12_led_80, hp_39_0, hc_39, r_nh1 w1 hw, q_I, r_thr0, i0_0, if_true, ri_0 h2, u40_39]
      · refine ⟨k, E, A, T, up A 39 0 0, Rel_thr hR 0, Or.inl ⟨some (.int (nI (fo (A 40) h))), rfl, fun L => ⟨L, ?_⟩, fun L => ⟨L, ?_, rfl⟩, up_ii⟩⟩
        · simp -implicitDefEqProofs only [x_X11_led, g_X11_led_0, hc_0, c_nh1 l1 hh (show hn (A 40) < 2 ^ 31 by omega), q_U, if_neg q1, if_neg q2, c_k1, hv_0_1, hv_4_2, hc_11, gH_1 hC h2, q_I]
        · simp -implicitDefEqProofs only [x_X12_led, g_X12_led_0, g_X12_led_87, hp_39_0, hc_39, r_nh1 w1 hw, q_I, r_thr0, i0_0, if_true, li_1_0, if_false, r_fieldsOf, u40_39]
      · refine ⟨k, E, A, T, up A 39 0 0, Rel_thr hR 0, Or.inl ⟨some (.int (A 40 (1684 + 11 * h + 1))), rfl, fun L => ⟨L, ?_⟩, fun L => ⟨L, ?_, rfl⟩, up_ii⟩⟩
        · simp -implicitDefEqProofs only [x_X11_led, g_X11_led_0, hc_0, c_nh1 l1 hh (show hn (A 40) < 2 ^ 31 by omega), q_U, if_neg q1, if_neg q2, c_k1, hv_0_1, hv_4_2, hc_11, gH_2 hC h2, q_I]
        · simp -implicitDefEqProofs only [x_X12_led, g_X12_led_0, g_X12_led_93, hp_39_0, hc_39, r_nh1 w1 hw, q_I, r_thr0, i0_0, if_true, li_2_0, li_2_1, if_false, ri_1 h2, u40_39]
      · refine ⟨k, E, A, T, up A 39 0 0, Rel_thr hR 0, Or.inl ⟨some (.int (A 40 (1684 + 11 * h + 2))), rfl, fun L => ⟨L, ?_⟩, fun L => ⟨L, ?_, rfl⟩, up_ii⟩⟩
        · simp -implicitDefEqProofs only [x_X11_led, g_X11_led_0, hc_0, c_nh1 l1 hh (show hn (A 40) < 2 ^ 31 by omega), q_U, if_neg q1, if_neg q2, c_k1, hv_0_1, hv_4_2, hc_11, gH_3 hC h2, q_I]
        · simp -implicitDefEqProofs only [x_X12_led, g_X12_led_0, g_X12_led_100, hp_39_0, hc_39, r_nh1 w1 hw, q_I, r_thr0, i0_0, if_true, li_3_0, li_3_1, li_3_2, if_false, ri_2 h2, u40_39]
      · refine ⟨k, E, A, T, up A 39 0 0, Rel_thr hR 0, Or.inl ⟨some (.int (A 40 (1684 + 11 * h + 3))), rfl, fun L => ⟨L, ?_⟩, fun L => ⟨L, ?_, rfl⟩, up_ii⟩⟩
        · simp -implicitDefEqProofs only [x_X11_led, g_X11_led_0, hc_0, c_nh1 l1 hh (show hn (A 40) < 2 ^ 31 by omega), q_U, if_neg q1, if_neg q2, c_k1, hv_0_1, hv_4_2, hc_11, gH_4 hC h2, q_I]
        · simp -implicitDefEqProofs only [x_X12_led, g_X12_led_0, g_X12_led_107, hp_39_0, hc_39, r_nh1 w1 hw, q_I, r_thr0, i0_0, if_true, li_4_0, li_4_1, li_4_2, li_4_3, if_false, ri_3 h2, u40_39]
      · refine ⟨k, E, A, T, up A 39 0 0, Rel_thr hR 0, Or.inl ⟨some (.int (A 40 (1684 + 11 * h + 4))), rfl, fun L => ⟨L, ?_⟩, fun L => ⟨L, ?_, rfl⟩, up_ii⟩⟩
        · simp -implicitDefEqProofs only [x_X11_led, g_X11_led_0, hc_0, c_nh1 l1 hh (show hn (A 40) < 2 ^ 31 by omega), q_U, if_neg q1, if_neg q2, c_k1, hv_0_1, hv_4_2, hc_11, gH_5 hC h2, q_I]
        · simp -implicitDefEqProofs only [x_X12_led, g_X12_led_0, g_X12_led_114, hp_39_0, hc_39, r_nh1 w1 hw, q_I, r_thr0, i0_0, if_true, li_5_0, li_5_1, li_5_2, li_5_3, li_5_4, if_false, ri_4 h2, u40_39]
      · refine ⟨k, E, A, T, up A 39 0 0, Rel_thr hR 0, Or.inl ⟨some (.int (if fo (A 40) h = 0 then 1 else 0)), rfl, fun L => ⟨L, ?_⟩, fun L => ⟨L, ?_, rfl⟩, up_ii⟩⟩
        · simp -implicitDefEqProofs only [x_X11_led, g_X11_led_0, hc_0, c_nh1 l1 hh (show hn (A 40) < 2 ^ 31 by omega), q_U, if_neg q1, if_neg q2, c_k1, hv_0_1, hv_4_2, hc_11, gH_6 hC h2, q_I]
        · simp -implicitDefEqProofs only [x_X12_led, g_X12_led_0, g_X12_led_121, hp_39_0, hc_39, r_nh1 w1 hw, q_I, r_thr0, i0_0, if_true, li_6_0, li_6_1, li_6_2, li_6_3, li_6_4, li_6_5, if_false, r_fieldsOf, u40_39]
          have e9 : (nI (fo (A 40) h) = 0) ↔ fo (A 40) h = 0 := nI_eq (b := 0) (fo_lt _ _) (by decide)
          by_cases e8 : fo (A 40) h = 0
          · rw [if_pos (e9.mpr e8), if_pos e8]
          · rw [if_neg (fun q => e8 (e9.mp q)), if_neg e8]
      · refine ⟨k, E, A, T, up A 39 0 0, Rel_thr hR 0, Or.inl ⟨some (.int (A 40 (1684 + 11 * h + 5))), rfl, fun L => ⟨L, ?_⟩, fun L => ⟨L, ?_, rfl⟩, up_ii⟩⟩
        · simp -implicitDefEqProofs only [x_X11_led, g_X11_led_0, hc_0, c_nh1 l1 hh (show hn (A 40) < 2 ^ 31 by omega), q_U, if_neg q1, if_neg q2, c_k1, hv_0_1, hv_4_2, hc_11, gH_7 hC h2, q_I]
        · simp -implicitDefEqProofs only [x_X12_led, g_X12_led_0, g_X12_led_135, hp_39_0, hc_39, r_nh1 w1 hw, q_I, r_thr0, i0_0, if_true, li_7_0, li_7_1, li_7_2, li_7_3, li_7_4, li_7_5, li_7_6, if_false, ri_5 h2, u40_39]
      · refine ⟨k, E, A, T, up A 39 0 0, Rel_thr hR 0, Or.inl ⟨some (.int (A 40 (1684 + 11 * h + 6))), rfl, fun L => ⟨L, ?_⟩, fun L => ⟨L, ?_, rfl⟩, up_ii⟩⟩
        · simp -implicitDefEqProofs only [x_X11_led, g_X11_led_0, hc_0, c_nh1 l1 hh (show hn (A 40) < 2 ^ 31 by omega), q_U, if_neg q1, if_neg q2, c_k1, hv_0_1, hv_4_2, hc_11, gH_8 hC h2, q_I]
        · simp -implicitDefEqProofs only [x_X12_led, g_X12_led_0, g_X12_led_142, hp_39_0, hc_39, r_nh1 w1 hw, q_I, r_thr0, i0_0, if_true, li_8_0, li_8_1, li_8_2, li_8_3, li_8_4, li_8_5, li_8_6, li_8_7, if_false, ri_6 h2, u40_39]
      · refine ⟨k, E, A, T, up A 39 0 0, Rel_thr hR 0, Or.inl ⟨some (.int (A 40 (1684 + 11 * h + 7))), rfl, fun L => ⟨L, ?_⟩, fun L => ⟨L, ?_, rfl⟩, up_ii⟩⟩
        · simp -implicitDefEqProofs only [x_X11_led, g_X11_led_0, hc_0, c_nh1 l1 hh (show hn (A 40) < 2 ^ 31 by omega), q_U, if_neg q1, if_neg q2, c_k1, hv_0_1, hv_4_2, hc_11, gH_9 hC h2, q_I]
        · simp -implicitDefEqProofs only [x_X12_led, g_X12_led_0, g_X12_led_150, hp_39_0, hc_39, r_nh1 w1 hw, q_I, r_thr0, i0_0, if_true, li_9_0, li_9_1, li_9_2, li_9_3, li_9_4, li_9_5, li_9_6, li_9_7, li_9_8, if_false, ri_7 h2, u40_39]
      · refine ⟨k, E, A, T, up A 39 0 0, Rel_thr hR 0, Or.inl ⟨some (.int (A 40 (1684 + 11 * h + 8))), rfl, fun L => ⟨L, ?_⟩, fun L => ⟨L, ?_, rfl⟩, up_ii⟩⟩
        · simp -implicitDefEqProofs only [x_X11_led, g_X11_led_0, hc_0, c_nh1 l1 hh (show hn (A 40) < 2 ^ 31 by omega), q_U, if_neg q1, if_neg q2, c_k1, hv_0_1, hv_4_2, hc_11, gH_10 hC h2, q_I]
        · simp -implicitDefEqProofs only [x_X12_led, g_X12_led_0, g_X12_led_158, hp_39_0, hc_39, r_nh1 w1 hw, q_I, r_thr0, i0_0, if_true, li_10_0, li_10_1, li_10_2, li_10_3, li_10_4, li_10_5, li_10_6, li_10_7, li_10_8, li_10_9, if_false, ri_8 h2, u40_39]
    · refine ⟨k, E, A, T, up A 39 0 2, Rel_thr hR 2, Or.inr ⟨3, by decide, fun L => ⟨L, ?_⟩, fun L => ⟨L, some (.int 0), rfl, ?_, rfl⟩, up_ii⟩⟩
      · by_cases q1 : y < 0
        · simp -implicitDefEqProofs only [x_X11_led, g_X11_led_0, hc_0, c_nh1 l1 hh (show hn (A 40) < 2 ^ 31 by omega), q_U, if_pos q1, c_k0, q_Ue]
        · have q2 : 10 < y := Decidable.byContradiction fun q2 => q ⟨q1, q2⟩
          simp -implicitDefEqProofs only [x_X11_led, g_X11_led_0, hc_0, c_nh1 l1 hh (show hn (A 40) < 2 ^ 31 by omega), q_U, if_neg q1, if_pos q2, c_k0, q_Ue]
      · have n0 : ¬ y = 0 := fun e => q (by rw [e]; exact ⟨by decide, by decide⟩)
        have n1 : ¬ y = 1 := fun e => q (by rw [e]; exact ⟨by decide, by decide⟩)
        have n2 : ¬ y = 2 := fun e => q (by rw [e]; exact ⟨by decide, by decide⟩)
        have n3 : ¬ y = 3 := fun e => q (by rw [e]; exact ⟨by decide, by decide⟩)
        have n4 : ¬ y = 4 := fun e => q (by rw [e]; exact ⟨by decide, by decide⟩)
        have n5 : ¬ y = 5 := fun e => q (by rw [e]; exact ⟨by decide, by decide⟩)
        have n6 : ¬ y = 6 := fun e => q (by rw [e]; exact ⟨by decide, by decide⟩)
        have n7 : ¬ y = 7 := fun e => q (by rw [e]; exact ⟨by decide, by decide⟩)
        have n8 : ¬ y = 8 := fun e => q (by rw [e]; exact ⟨by decide, by decide⟩)
        have n9 : ¬ y = 9 := fun e => q (by rw [e]; exact ⟨by decide, by decide⟩)
        have n10 : ¬ y = 10 := fun e => q (by rw [e]; exact ⟨by decide, by decide⟩)
        simp -implicitDefEqProofs only [x_X12_led, g_X12_led_0, g_X12_led_166, hp_39_0, hc_39, r_nh1 w1 hw, q_I, r_thr0, i0_0, if_true, if_neg n0, if_neg n1, if_neg n2, if_neg n3, if_neg n4, if_neg n5, if_neg n6, if_neg n7, if_neg n8, if_neg n9, if_neg n10, up_up]
  · refine ⟨k, E, A, T, up A 39 0 1, Rel_thr hR 1, Or.inr ⟨0, by decide, fun L => ⟨L, ?_⟩, fun L => ⟨L, some (.int 0), rfl, ?_, rfl⟩, up_ii⟩⟩
    · simp -implicitDefEqProofs only [x_X11_led, g_X11_led_0, hc_0, c_nh0 l1 hx, q_Ue]
    · simp -implicitDefEqProofs only [x_X12_led, g_X12_led_0, hp_39_0, hc_39, r_nh0 w1 hw, q_I, r_thr1, i1_0, if_false, up_up]
end HoldB
