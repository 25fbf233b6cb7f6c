/-! may (laid by gen_may.py) -/
section MayB
variable {S : sT} {d c : Nat} {k : Value} {E : List dsc} {A : fA} {L : fL} {T : fT} {W : fW}
theorem p_may (hR : Rel c k E A T) (y x : Int32) : PK c S (d + 8) k E A T 289 293 [.int y, .int x] cdB := by
  have hI := Rel_w hR
  have h36 := Rel_36 hR
  have hXw := Xw_of hI
  rcases fld_c x with hx | ⟨f, hf, rfl⟩
  · refine PK_e (e := 0) (x := 1) hR rfl (fun L => ?_) (fun M => ⟨some (.int 0), rfl, ?_⟩)
    · simp -implicitDefEqProofs only [x_X11_may, g_X11_may_0, c_f0 hx, q_Ue]
    · simp -implicitDefEqProofs only [x_X12_may, g_X12_may_0, hp_39_0, r_f0 hx, q_I, hc_39, r_thr1, i1_0, if_false, q_z0, up_up]
  · have j1 : Iv (c + 1) (A 40) := Iv_c (Nat.le_succ c) hI
    have f36 : Fr A (upR A 36 (prR (A 40) (A 36) (pn (A 40)))) := Fr_36
    have l36 : LkA 4 k E (upR A 36 (prR (A 40) (A 36) (pn (A 40)))) T (A 40) := Lk_36 hR.2.1
    by_cases q : wi y 0 9
    · obtain ⟨n, hn, rfl⟩ := wh_c (n := 9) (by decide) q
      have g1 := q.1
      have g2 := q.2
      obtain rfl | rfl | rfl | rfl | rfl | rfl | rfl | rfl | rfl | rfl : n = 0 ∨ n = 1 ∨ n = 2 ∨ n = 3 ∨ n = 4 ∨ n = 5 ∨ n = 6 ∨ n = 7 ∨ n = 8 ∨ n = 9 := by omega
      · refine PK_v (v := some (.int (mostW (A 40) 10))) (V := A 40) hR j1 (fun L => ⟨A, L, ?_, Fr_refl, hR.2.1⟩) (fun B M hB => ?_)
        · have e := c_years (S := S) (d := d + 2) (L := L) hI hR.2.1
          rw [x_X11_may, g_X11_may_0]
          simp -implicitDefEqProofs only [c_f1 hf, q_U, if_neg g1, if_neg g2, c_k1, show (nI 0 = 0) = True by decide, if_true, if_false]
          rw [g_X11_may_56]
          simp -implicitDefEqProofs only [hv_0_1, hc_4, e, q_I]
        · obtain ⟨B1, e1, e2⟩ := r_most (S := S) (d := d + 1) (k := k) (E := E) (A := up B 39 0 0) (L := M) (T := T) (s := 10) (by rw [u40_39, hB]; exact hI)
          rw [u40_39, hB] at e1
          refine ⟨B1, M, ?_, rfl, Fo_g e2, (e2.1 40 (by decide) (by decide)).trans (u40_39.trans hB)⟩
          rw [x_X12_may, g_X12_may_0]
          simp -implicitDefEqProofs only [hp_39_0, r_f1 hf, q_I, hc_39, r_thr0, if_true, if_false, show (nI 0 = 0) = True by decide]
          rw [g_X12_may_76]
          simp -implicitDefEqProofs only [hc_39, e1, q_I]
      · have hfl := fl_ne (s := 11) (Fc := fcF (A 40) f (fc0 (A 40) (A 40 1) 0)) hXw
        rw [show flW (A 40) 11 (fcF (A 40) f (fc0 (A 40) (A 40 1) 0)) = fF (A 40) 11 f from rfl] at hfl
        refine PK_v (v := some (.int (if fF (A 40) 11 f = -1 then 0 else 1))) (V := A 40) hR j1 (fun L => ?_) (fun B M hB => ?_)
        · obtain ⟨L1, e⟩ := c_lets (S := S) (d := d + 2) (L := L) (s := 11) (f := f) hI hR.2.1 h36 (by unfold rg; decide) hf
          rw [show vb 11 = 18 by decide] at e
          refine ⟨_, L1, ?_, f36, l36⟩
          rw [x_X11_may, g_X11_may_0]
          simp -implicitDefEqProofs only [c_f1 hf, q_U, if_neg g1, if_neg g2, c_k1, show (nI 1 = 0) = False by decide, show (nI 1 = 1) = True by decide, if_true, if_false]
          rw [g_X11_may_64]
          simp -implicitDefEqProofs only [hv_0_1, hc_4, e, q_I]
          split <;> rfl
        · obtain ⟨B1, M1, e1, e2, e3⟩ := r_firstF (S := S) (d := d + 2) (k := k) (E := E) (A := up B 39 0 0) (L := M) (T := T) (s := 11) (f := f) (by rw [u40_39, hB]; exact hI) hf
          rw [u40_39, hB] at e1
          refine ⟨B1, M1, ?_, e3 48 (by decide) (by decide), Fo_g e2, (e2.1 40 (by decide) (by decide)).trans (u40_39.trans hB)⟩
          rw [x_X12_may, g_X12_may_0]
          simp -implicitDefEqProofs only [hp_39_0, r_f1 hf, q_I, hc_39, r_thr0, if_true, if_false, show (nI 1 = 0) = False by decide, show (nI 1 = 1) = True by decide]
          rw [g_X12_may_83]
          simp -implicitDefEqProofs only [hc_39, e1, q_I, hfl]
          split <;> rfl
      · refine PK_v (v := some (.int (mostW (A 40) 12))) (V := A 40) hR j1 (fun L => ⟨A, L, ?_, Fr_refl, hR.2.1⟩) (fun B M hB => ?_)
        · have e := c_borrow (S := S) (d := d + 2) (L := L) hI hR.2.1
          rw [x_X11_may, g_X11_may_0]
          simp -implicitDefEqProofs only [c_f1 hf, q_U, if_neg g1, if_neg g2, c_k1, show (nI 2 = 0) = False by decide, show (nI 2 = 1) = False by decide, show (nI 2 = 2) = True by decide, if_true, if_false]
          rw [g_X11_may_84]
          simp -implicitDefEqProofs only [hv_0_1, hc_4, e, q_I]
        · obtain ⟨B1, e1, e2⟩ := r_most (S := S) (d := d + 1) (k := k) (E := E) (A := up B 39 0 0) (L := M) (T := T) (s := 12) (by rw [u40_39, hB]; exact hI)
          rw [u40_39, hB] at e1
          refine ⟨B1, M, ?_, rfl, Fo_g e2, (e2.1 40 (by decide) (by decide)).trans (u40_39.trans hB)⟩
          rw [x_X12_may, g_X12_may_0]
          simp -implicitDefEqProofs only [hp_39_0, r_f1 hf, q_I, hc_39, r_thr0, if_true, if_false, show (nI 2 = 0) = False by decide, show (nI 2 = 1) = False by decide, show (nI 2 = 2) = True by decide]
          rw [g_X12_may_99]
          simp -implicitDefEqProofs only [hc_39, e1, q_I]
      · have hfl := fl_ne (s := 13) (Fc := fcF (A 40) f (fc0 (A 40) (A 40 1) 0)) hXw
        rw [show flW (A 40) 13 (fcF (A 40) f (fc0 (A 40) (A 40 1) 0)) = fF (A 40) 13 f from rfl] at hfl
        refine PK_v (v := some (.int (if fF (A 40) 13 f = -1 then 0 else 1))) (V := A 40) hR j1 (fun L => ?_) (fun B M hB => ?_)
        · obtain ⟨L1, e⟩ := c_lets (S := S) (d := d + 2) (L := L) (s := 13) (f := f) hI hR.2.1 h36 (by unfold rg; decide) hf
          rw [show vb 13 = 20 by decide] at e
          refine ⟨_, L1, ?_, f36, l36⟩
          rw [x_X11_may, g_X11_may_0]
          simp -implicitDefEqProofs only [c_f1 hf, q_U, if_neg g1, if_neg g2, c_k1, show (nI 3 = 0) = False by decide, show (nI 3 = 1) = False by decide, show (nI 3 = 2) = False by decide, show (nI 3 = 3) = True by decide, if_true, if_false]
          rw [g_X11_may_92]
          simp -implicitDefEqProofs only [hv_0_1, hc_4, e, q_I]
          split <;> rfl
        · obtain ⟨B1, M1, e1, e2, e3⟩ := r_firstF (S := S) (d := d + 2) (k := k) (E := E) (A := up B 39 0 0) (L := M) (T := T) (s := 13) (f := f) (by rw [u40_39, hB]; exact hI) hf
          rw [u40_39, hB] at e1
          refine ⟨B1, M1, ?_, e3 48 (by decide) (by decide), Fo_g e2, (e2.1 40 (by decide) (by decide)).trans (u40_39.trans hB)⟩
          rw [x_X12_may, g_X12_may_0]
          simp -implicitDefEqProofs only [hp_39_0, r_f1 hf, q_I, hc_39, r_thr0, if_true, if_false, show (nI 3 = 0) = False by decide, show (nI 3 = 1) = False by decide, show (nI 3 = 2) = False by decide, show (nI 3 = 3) = True by decide]
          rw [g_X12_may_106]
          simp -implicitDefEqProofs only [hc_39, e1, q_I, hfl]
          split <;> rfl
      · refine PK_v (v := some (.int (chW (A 40)))) (V := A 40) hR j1 (fun L => ?_) (fun B M hB => ?_)
        · obtain ⟨L1, e⟩ := c_charges (S := S) (d := d + 2) (L := L) hI hR.2.1 h36
          refine ⟨_, L1, ?_, f36, l36⟩
          rw [x_X11_may, g_X11_may_0]
          simp -implicitDefEqProofs only [c_f1 hf, q_U, if_neg g1, if_neg g2, c_k1, show (nI 4 = 0) = False by decide, show (nI 4 = 1) = False by decide, show (nI 4 = 2) = False by decide, show (nI 4 = 3) = False by decide, show (nI 4 = 4) = True by decide, if_true, if_false]
          rw [g_X11_may_112]
          simp -implicitDefEqProofs only [hv_0_1, hc_4, e, q_I]
        · obtain ⟨B1, M1, e1, e2, e3⟩ := r_charges (S := S) (d := d + 2) (k := k) (E := E) (A := up B 39 0 0) (L := M) (T := T) (by rw [u40_39, hB]; exact hI)
          rw [u40_39, hB] at e1
          refine ⟨B1, M1, ?_, e3 48 (by decide) (by decide), Fo_g e2, (e2.1 40 (by decide) (by decide)).trans (u40_39.trans hB)⟩
          rw [x_X12_may, g_X12_may_0]
          simp -implicitDefEqProofs only [hp_39_0, r_f1 hf, q_I, hc_39, r_thr0, if_true, if_false, show (nI 4 = 0) = False by decide, show (nI 4 = 1) = False by decide, show (nI 4 = 2) = False by decide, show (nI 4 = 3) = False by decide, show (nI 4 = 4) = True by decide]
          rw [g_X12_may_122]
          simp -implicitDefEqProofs only [hc_39, e1, q_I]
      · refine PK_v (v := some (.int (partW (A 40) 0))) (V := A 40) hR j1 (fun L => ⟨A, L, ?_, Fr_refl, hR.2.1⟩) (fun B M hB => ?_)
        · have e := c_part (S := S) (d := d + 3) (L := L) (th := 0) hI hR.2.1
          rw [show (0 : Int32) + 12 = (12 + nI 5) - 5 by decide] at e
          rw [x_X11_may, g_X11_may_0]
          simp -implicitDefEqProofs only [c_f1 hf, q_U, if_neg g1, if_neg g2, c_k1, show (nI 5 = 0) = False by decide, show (nI 5 = 1) = False by decide, show (nI 5 = 2) = False by decide, show (nI 5 = 3) = False by decide, show (nI 5 = 4) = False by decide, if_true, if_false]
          rw [g_X11_may_120]
          simp -implicitDefEqProofs only [hv_0_1, hc_4, e, q_I]
        · obtain ⟨B1, e1, e2⟩ := r_part (S := S) (d := d + 1) (k := k) (E := E) (A := up B 39 0 0) (L := M) (T := T) (th := 0) (by rw [u40_39, hB]; exact hI)
          rw [u40_39, hB] at e1
          refine ⟨B1, M, ?_, rfl, Fo_g e2, (e2.1 40 (by decide) (by decide)).trans (u40_39.trans hB)⟩
          rw [x_X12_may, g_X12_may_0]
          simp -implicitDefEqProofs only [hp_39_0, r_f1 hf, q_I, hc_39, r_thr0, if_true, if_false, show (nI 5 = 0) = False by decide, show (nI 5 = 1) = False by decide, show (nI 5 = 2) = False by decide, show (nI 5 = 3) = False by decide, show (nI 5 = 4) = False by decide, show (nI 5 = 5) = True by decide]
          rw [g_X12_may_127]
          simp -implicitDefEqProofs only [hc_39, show nI 5 - 5 = (0 : Int32) by decide, e1, q_I]
      · refine PK_v (v := some (.int (partW (A 40) 1))) (V := A 40) hR j1 (fun L => ⟨A, L, ?_, Fr_refl, hR.2.1⟩) (fun B M hB => ?_)
        · have e := c_part (S := S) (d := d + 3) (L := L) (th := 1) hI hR.2.1
          rw [show (1 : Int32) + 12 = (12 + nI 6) - 5 by decide] at e
          rw [x_X11_may, g_X11_may_0]
          simp -implicitDefEqProofs only [c_f1 hf, q_U, if_neg g1, if_neg g2, c_k1, show (nI 6 = 0) = False by decide, show (nI 6 = 1) = False by decide, show (nI 6 = 2) = False by decide, show (nI 6 = 3) = False by decide, show (nI 6 = 4) = False by decide, if_true, if_false]
          rw [g_X11_may_120]
          simp -implicitDefEqProofs only [hv_0_1, hc_4, e, q_I]
        · obtain ⟨B1, e1, e2⟩ := r_part (S := S) (d := d + 1) (k := k) (E := E) (A := up B 39 0 0) (L := M) (T := T) (th := 1) (by rw [u40_39, hB]; exact hI)
          rw [u40_39, hB] at e1
          refine ⟨B1, M, ?_, rfl, Fo_g e2, (e2.1 40 (by decide) (by decide)).trans (u40_39.trans hB)⟩
          rw [x_X12_may, g_X12_may_0]
          simp -implicitDefEqProofs only [hp_39_0, r_f1 hf, q_I, hc_39, r_thr0, if_true, if_false, show (nI 6 = 0) = False by decide, show (nI 6 = 1) = False by decide, show (nI 6 = 2) = False by decide, show (nI 6 = 3) = False by decide, show (nI 6 = 4) = False by decide, show (nI 6 = 5) = False by decide, show (nI 6 = 6) = True by decide]
          rw [g_X12_may_127]
          simp -implicitDefEqProofs only [hc_39, show nI 6 - 5 = (1 : Int32) by decide, e1, q_I]
      · refine PK_v (v := some (.int (partW (A 40) 2))) (V := A 40) hR j1 (fun L => ⟨A, L, ?_, Fr_refl, hR.2.1⟩) (fun B M hB => ?_)
        · have e := c_part (S := S) (d := d + 3) (L := L) (th := 2) hI hR.2.1
          rw [show (2 : Int32) + 12 = (12 + nI 7) - 5 by decide] at e
          rw [x_X11_may, g_X11_may_0]
          simp -implicitDefEqProofs only [c_f1 hf, q_U, if_neg g1, if_neg g2, c_k1, show (nI 7 = 0) = False by decide, show (nI 7 = 1) = False by decide, show (nI 7 = 2) = False by decide, show (nI 7 = 3) = False by decide, show (nI 7 = 4) = False by decide, if_true, if_false]
          rw [g_X11_may_120]
          simp -implicitDefEqProofs only [hv_0_1, hc_4, e, q_I]
        · obtain ⟨B1, e1, e2⟩ := r_part (S := S) (d := d + 1) (k := k) (E := E) (A := up B 39 0 0) (L := M) (T := T) (th := 2) (by rw [u40_39, hB]; exact hI)
          rw [u40_39, hB] at e1
          refine ⟨B1, M, ?_, rfl, Fo_g e2, (e2.1 40 (by decide) (by decide)).trans (u40_39.trans hB)⟩
          rw [x_X12_may, g_X12_may_0]
          simp -implicitDefEqProofs only [hp_39_0, r_f1 hf, q_I, hc_39, r_thr0, if_true, if_false, show (nI 7 = 0) = False by decide, show (nI 7 = 1) = False by decide, show (nI 7 = 2) = False by decide, show (nI 7 = 3) = False by decide, show (nI 7 = 4) = False by decide, show (nI 7 = 5) = False by decide, show (nI 7 = 6) = False by decide, show (nI 7 = 7) = True by decide]
          rw [g_X12_may_127]
          simp -implicitDefEqProofs only [hc_39, show nI 7 - 5 = (2 : Int32) by decide, e1, q_I]
      · refine PK_v (v := some (.int (partW (A 40) 3))) (V := A 40) hR j1 (fun L => ⟨A, L, ?_, Fr_refl, hR.2.1⟩) (fun B M hB => ?_)
        · have e := c_part (S := S) (d := d + 3) (L := L) (th := 3) hI hR.2.1
          rw [show (3 : Int32) + 12 = (12 + nI 8) - 5 by decide] at e
          rw [x_X11_may, g_X11_may_0]
          simp -implicitDefEqProofs only [c_f1 hf, q_U, if_neg g1, if_neg g2, c_k1, show (nI 8 = 0) = False by decide, show (nI 8 = 1) = False by decide, show (nI 8 = 2) = False by decide, show (nI 8 = 3) = False by decide, show (nI 8 = 4) = False by decide, if_true, if_false]
          rw [g_X11_may_120]
          simp -implicitDefEqProofs only [hv_0_1, hc_4, e, q_I]
        · obtain ⟨B1, e1, e2⟩ := r_part (S := S) (d := d + 1) (k := k) (E := E) (A := up B 39 0 0) (L := M) (T := T) (th := 3) (by rw [u40_39, hB]; exact hI)
          rw [u40_39, hB] at e1
          refine ⟨B1, M, ?_, rfl, Fo_g e2, (e2.1 40 (by decide) (by decide)).trans (u40_39.trans hB)⟩
          rw [x_X12_may, g_X12_may_0]
          simp -implicitDefEqProofs only [hp_39_0, r_f1 hf, q_I, hc_39, r_thr0, if_true, if_false, show (nI 8 = 0) = False by decide, show (nI 8 = 1) = False by decide, show (nI 8 = 2) = False by decide, show (nI 8 = 3) = False by decide, show (nI 8 = 4) = False by decide, show (nI 8 = 5) = False by decide, show (nI 8 = 6) = False by decide, show (nI 8 = 7) = False by decide, show (nI 8 = 8) = True by decide]
          rw [g_X12_may_127]
          simp -implicitDefEqProofs only [hc_39, show nI 8 - 5 = (3 : Int32) by decide, e1, q_I]
      · refine PK_v (v := some (.int (partW (A 40) 4))) (V := A 40) hR j1 (fun L => ⟨A, L, ?_, Fr_refl, hR.2.1⟩) (fun B M hB => ?_)
        · have e := c_part (S := S) (d := d + 3) (L := L) (th := 4) hI hR.2.1
          rw [show (4 : Int32) + 12 = (12 + nI 9) - 5 by decide] at e
          rw [x_X11_may, g_X11_may_0]
          simp -implicitDefEqProofs only [c_f1 hf, q_U, if_neg g1, if_neg g2, c_k1, show (nI 9 = 0) = False by decide, show (nI 9 = 1) = False by decide, show (nI 9 = 2) = False by decide, show (nI 9 = 3) = False by decide, show (nI 9 = 4) = False by decide, if_true, if_false]
          rw [g_X11_may_120]
          simp -implicitDefEqProofs only [hv_0_1, hc_4, e, q_I]
        · obtain ⟨B1, e1, e2⟩ := r_part (S := S) (d := d + 1) (k := k) (E := E) (A := up B 39 0 0) (L := M) (T := T) (th := 4) (by rw [u40_39, hB]; exact hI)
          rw [u40_39, hB] at e1
          refine ⟨B1, M, ?_, rfl, Fo_g e2, (e2.1 40 (by decide) (by decide)).trans (u40_39.trans hB)⟩
          rw [x_X12_may, g_X12_may_0]
          simp -implicitDefEqProofs only [hp_39_0, r_f1 hf, q_I, hc_39, r_thr0, if_true, if_false, show (nI 9 = 0) = False by decide, show (nI 9 = 1) = False by decide, show (nI 9 = 2) = False by decide, show (nI 9 = 3) = False by decide, show (nI 9 = 4) = False by decide, show (nI 9 = 5) = False by decide, show (nI 9 = 6) = False by decide, show (nI 9 = 7) = False by decide, show (nI 9 = 8) = False by decide, show (nI 9 = 9) = True by decide]
          rw [g_X12_may_127]
          simp -implicitDefEqProofs only [hc_39, show nI 9 - 5 = (4 : Int32) by decide, e1, q_I]
    · have nz : ¬ y = 0 ∧ ¬ y = 1 ∧ ¬ y = 2 ∧ ¬ y = 3 ∧ ¬ y = 4 ∧ ¬ y = 5 ∧ ¬ y = 6 ∧ ¬ y = 7 ∧ ¬ y = 8 ∧ ¬ y = 9 := by
        refine ⟨?_, ?_, ?_, ?_, ?_, ?_, ?_, ?_, ?_, ?_⟩ <;> (rintro rfl; exact q (by unfold wi; decide))
      obtain ⟨z0, z1, z2, z3, z4, z5, z6, z7, z8, z9⟩ := nz
      refine PK_e (e := 3) (x := 2) hR rfl (fun L => ?_) (fun M => ⟨some (.int 0), rfl, ?_⟩)
      · rw [x_X11_may, g_X11_may_0]
        simp -implicitDefEqProofs only [c_f1 hf, q_U]
        by_cases q1 : y < 0
        · simp -implicitDefEqProofs only [if_pos q1, c_k0, q_Ue]
        · have q2 : 9 < y := Decidable.byContradiction fun q2 => q ⟨q1, q2⟩
          simp -implicitDefEqProofs only [if_neg q1, if_pos q2, c_k0, q_Ue]
      · rw [x_X12_may, g_X12_may_0]
        simp -implicitDefEqProofs only [hp_39_0, r_f1 hf, q_I, hc_39, r_thr0, if_true, if_neg z0, if_neg z1, if_neg z2, if_neg z3, if_neg z4, if_neg z5, if_neg z6, if_neg z7, if_neg z8, if_neg z9]
        rw [g_X12_may_135]
        simp -implicitDefEqProofs only [hp_39_0, up_up]
end MayB
