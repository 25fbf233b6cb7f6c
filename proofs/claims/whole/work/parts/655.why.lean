/-! may and why -/
section WhyB
variable {S : sT} {d c : Nat} {k : Value} {E : List dsc} {A : fA} {L : fL} {T : fT} {W : fW}
theorem fl_ne {s : Int32} {Fc : Nat → Int64} (hX : Xw W) : flW W s Fc < 0 ↔ flW W s Fc = -1 := by
  unfold flW
  have key : ∀ q i, i + q ≤ (FW W).length → (fwN W s Fc q i < 0 ↔ fwN W s Fc q i = -1) := by
    intro q
    induction q with
    | zero => intro i _; unfold fwN; decide
    | succ q ih =>
      intro i hi
      unfold fwN
      by_cases c1 : ¬ fhT W (fl W i) s Fc = -1
      · rw [if_pos c1]
        obtain ⟨f1, f2⟩ := fl_at (W := W) (i := i) (by omega)
        have h12 := hX.1
        obtain ⟨nl, nc, hw⟩ := hX.2 _ f2
        have hl := lnT_eq hw
        have h16 := hw.2.1
        unfold fhT at c1 ⊢
        rcases fnd_c (hm W (tx (fl W i)) s Fc) (lnT W (fl W i)) 0 with ⟨h1, -⟩ | ⟨j, h1, h2, h3, -⟩
        · exact absurd h1 c1
        · rw [h3, show (16 : Int32) = nI 16 from rfl, nI_mul, nI_add]
          constructor
          · intro q; exact absurd q (nI_pos (by omega))
          · intro q; exact absurd q (nI_m1 (by omega))
      · rw [if_neg c1]; exact ih (i + 1) (by omega)
  exact key _ _ (by have := lk_le (W := W) (s := s) (FW W).length; omega)
theorem Rel_36 (hR : Rel c k E A T) : A 36 0 = 0 ∧ A 36 5 = 0 := hR.2.2.2.2.2.1
theorem wh_c {x : Int32} {n : Nat} (hn : n < 100) : wi x 0 (nI n) → ∃ j, j ≤ n ∧ x = nI j := fun h => by
  obtain ⟨j, h1, h2⟩ := wi_n (by omega) h; exact ⟨j, h1, h2⟩
theorem p_why (hR : Rel c k E A T) (y x : Int32) : PK c S (d + 7) k E A T 295 297 [.int y, .int x] cdB := by
  have hI := Rel_w hR
  have h36 := Rel_36 hR
  rcases fld_c x with hx | ⟨f, hf, rfl⟩
  · refine PK_e (e := 0) (x := 1) hR rfl (fun L => ?_) (fun M => ⟨some (.int 0), rfl, ?_⟩)
    · simp -implicitDefEqProofs only [x_X11_why, g_X11_why_0, c_f0 hx, q_Ue]
    · simp -implicitDefEqProofs only [x_X12_why, g_X12_why_0, hp_39_0, r_f0 hx, q_I, hc_39, r_thr1, i1_0, if_false, q_z0, up_up]
  · have j1 : Iv (c + 1) (A 40) := Iv_c (Nat.le_succ c) hI
    have f36 : Fr A (upR A 36 (prR (A 40) (A 36) (pn (A 40)))) := Fr_36
    have l36 : LkA 4 k E (upR A 36 (prR (A 40) (A 36) (pn (A 40)))) T (A 40) := Lk_36 hR.2.1
    by_cases q : wi y 0 4
    · obtain ⟨n, hn, rfl⟩ := wh_c (n := 4) (by decide) q
      have g1 := q.1
      have g2 := q.2
      obtain rfl | rfl | rfl | rfl | rfl : n = 0 ∨ n = 1 ∨ n = 2 ∨ n = 3 ∨ n = 4 := by omega
      · refine PK_v (v := some (.int (llW (A 40) 10 0))) (V := A 40) hR j1 (fun L => ⟨A, L, ?_, Fr_refl, hR.2.1⟩) (fun B M hB => ?_)
        · have e := c_ll0 (S := S) (d := d + 2) (L := L) (s := 10) (by unfold rg; decide) (by decide) hI hR.2.1
          rw [show vb 10 = 17 by decide] at e
          rw [x_X11_why, g_X11_why_0]
          simp -implicitDefEqProofs only [c_f1 hf, q_U, if_neg g1, if_neg g2, c_k1, show (nI 0 = 0) = True by decide, if_true]
          rw [g_X11_why_52]
          simp -implicitDefEqProofs only [hv_0_1, hc_4, e, q_I]
        · obtain ⟨B1, e1, e2⟩ := r_lastLine (S := S) (d := d + 1) (k := k) (E := E) (A := up B 39 0 0) (L := M) (T := T) (s := 10) (th := 0) (by rw [u40_39, hB]; exact (hp_of hI).1) (by rw [u40_39, hB]; exact Xw_of hI)
          rw [u40_39, hB] at e1
          refine ⟨B1, M, ?_, rfl, Fo_g e2, (e2.1 40 (by decide) (by decide)).trans (u40_39.trans hB)⟩
          rw [x_X12_why, g_X12_why_0]
          simp -implicitDefEqProofs only [hp_39_0, r_f1 hf, q_I, hc_39, r_thr0, if_true, show (nI 0 = 0) = True by decide]
          rw [g_X12_why_56]
          simp -implicitDefEqProofs only [hc_39, e1, q_I]
      · refine PK_v (v := some (.int (fF (A 40) 11 f))) (V := A 40) hR j1 (fun L => ?_) (fun B M hB => ?_)
        · obtain ⟨L1, e⟩ := c_lets (S := S) (d := d + 1) (L := L) (s := 11) (f := f) hI hR.2.1 h36 (by unfold rg; decide) hf
          rw [show vb 11 = 18 by decide] at e
          refine ⟨_, L1, ?_, f36, l36⟩
          rw [x_X11_why, g_X11_why_0]
          simp -implicitDefEqProofs only [c_f1 hf, q_U, if_neg g1, if_neg g2, c_k1, show (nI 1 = 0) = False by decide, show (nI 1 = 1) = True by decide, if_true, if_false]
          rw [g_X11_why_63]
          simp -implicitDefEqProofs only [hv_0_1, hc_4, e, q_I]
        · obtain ⟨B1, M1, e1, e2, e3⟩ := r_firstF (S := S) (d := d + 1) (k := k) (E := E) (A := up B 39 0 0) (L := M) (T := T) (s := 11) (f := f) (by rw [u40_39, hB]; exact hI) hf
          rw [u40_39, hB] at e1
          refine ⟨B1, M1, ?_, e3 48 (by decide) (by decide), Fo_g e2, (e2.1 40 (by decide) (by decide)).trans (u40_39.trans hB)⟩
          rw [x_X12_why, g_X12_why_0]
          simp -implicitDefEqProofs only [hp_39_0, r_f1 hf, q_I, hc_39, r_thr0, if_true, if_false, show (nI 1 = 0) = False by decide, show (nI 1 = 1) = True by decide]
          rw [g_X12_why_64]
          simp -implicitDefEqProofs only [hc_39, e1, q_I]
      · refine PK_v (v := some (.int (llW (A 40) 12 0))) (V := A 40) hR j1 (fun L => ⟨A, L, ?_, Fr_refl, hR.2.1⟩) (fun B M hB => ?_)
        · have e := c_ll0 (S := S) (d := d + 2) (L := L) (s := 12) (by unfold rg; decide) (by decide) hI hR.2.1
          rw [show vb 12 = 19 by decide] at e
          rw [x_X11_why, g_X11_why_0]
          simp -implicitDefEqProofs only [c_f1 hf, q_U, if_neg g1, if_neg g2, c_k1, show (nI 2 = 0) = False by decide, show (nI 2 = 1) = False by decide, show (nI 2 = 2) = True by decide, if_true, if_false]
          rw [g_X11_why_74]
          simp -implicitDefEqProofs only [hv_0_1, hc_4, e, q_I]
        · obtain ⟨B1, e1, e2⟩ := r_lastLine (S := S) (d := d + 1) (k := k) (E := E) (A := up B 39 0 0) (L := M) (T := T) (s := 12) (th := 0) (by rw [u40_39, hB]; exact (hp_of hI).1) (by rw [u40_39, hB]; exact Xw_of hI)
          rw [u40_39, hB] at e1
          refine ⟨B1, M, ?_, rfl, Fo_g e2, (e2.1 40 (by decide) (by decide)).trans (u40_39.trans hB)⟩
          rw [x_X12_why, g_X12_why_0]
          simp -implicitDefEqProofs only [hp_39_0, r_f1 hf, q_I, hc_39, r_thr0, if_true, if_false, show (nI 2 = 0) = False by decide, show (nI 2 = 1) = False by decide, show (nI 2 = 2) = True by decide]
          rw [g_X12_why_72]
          simp -implicitDefEqProofs only [hc_39, e1, q_I]
      · refine PK_v (v := some (.int (fF (A 40) 13 f))) (V := A 40) hR j1 (fun L => ?_) (fun B M hB => ?_)
        · obtain ⟨L1, e⟩ := c_lets (S := S) (d := d + 1) (L := L) (s := 13) (f := f) hI hR.2.1 h36 (by unfold rg; decide) hf
          rw [show vb 13 = 20 by decide] at e
          refine ⟨_, L1, ?_, f36, l36⟩
          rw [x_X11_why, g_X11_why_0]
          simp -implicitDefEqProofs only [c_f1 hf, q_U, if_neg g1, if_neg g2, c_k1, show (nI 3 = 0) = False by decide, show (nI 3 = 1) = False by decide, show (nI 3 = 2) = False by decide, show (nI 3 = 3) = True by decide, if_true, if_false]
          rw [g_X11_why_85]
          simp -implicitDefEqProofs only [hv_0_1, hc_4, e, q_I]
        · obtain ⟨B1, M1, e1, e2, e3⟩ := r_firstF (S := S) (d := d + 1) (k := k) (E := E) (A := up B 39 0 0) (L := M) (T := T) (s := 13) (f := f) (by rw [u40_39, hB]; exact hI) hf
          rw [u40_39, hB] at e1
          refine ⟨B1, M1, ?_, e3 48 (by decide) (by decide), Fo_g e2, (e2.1 40 (by decide) (by decide)).trans (u40_39.trans hB)⟩
          rw [x_X12_why, g_X12_why_0]
          simp -implicitDefEqProofs only [hp_39_0, r_f1 hf, q_I, hc_39, r_thr0, if_true, if_false, show (nI 3 = 0) = False by decide, show (nI 3 = 1) = False by decide, show (nI 3 = 2) = False by decide, show (nI 3 = 3) = True by decide]
          rw [g_X12_why_80]
          simp -implicitDefEqProofs only [hc_39, e1, q_I]
      · refine PK_v (v := some (.int (fE (A 40) 15))) (V := A 40) hR j1 (fun L => ?_) (fun B M hB => ?_)
        · obtain ⟨L1, e⟩ := c_firstCh (S := S) (d := d + 1) (L := L) hI hR.2.1 h36
          refine ⟨_, L1, ?_, f36, l36⟩
          rw [x_X11_why, g_X11_why_0]
          simp -implicitDefEqProofs only [c_f1 hf, q_U, if_neg g1, if_neg g2, c_k1, show (nI 4 = 0) = False by decide, show (nI 4 = 1) = False by decide, show (nI 4 = 2) = False by decide, show (nI 4 = 3) = False by decide, if_true, if_false]
          rw [g_X11_why_96]
          simp -implicitDefEqProofs only [hv_0_1, hc_4, e, q_I]
        · obtain ⟨B1, M1, e1, e2, e3⟩ := r_firstE (S := S) (d := d + 1) (k := k) (E := E) (A := up B 39 0 0) (L := M) (T := T) (s := 15) (by rw [u40_39, hB]; exact hI)
          rw [u40_39, hB] at e1
          refine ⟨B1, M1, ?_, e3 48 (by decide) (by decide), Fo_g e2, (e2.1 40 (by decide) (by decide)).trans (u40_39.trans hB)⟩
          rw [x_X12_why, g_X12_why_0]
          simp -implicitDefEqProofs only [hp_39_0, r_f1 hf, q_I, hc_39, r_thr0, if_true, if_false, show (nI 4 = 0) = False by decide, show (nI 4 = 1) = False by decide, show (nI 4 = 2) = False by decide, show (nI 4 = 3) = False by decide, show (nI 4 = 4) = True by decide]
          rw [g_X12_why_88]
          simp -implicitDefEqProofs only [hc_39, e1, q_I]
    · have nz : ¬ y = 0 ∧ ¬ y = 1 ∧ ¬ y = 2 ∧ ¬ y = 3 ∧ ¬ y = 4 := by
        refine ⟨?_, ?_, ?_, ?_, ?_⟩ <;> (rintro rfl; exact q (by unfold wi; decide))
      obtain ⟨z0, z1, z2, z3, z4⟩ := nz
      refine PK_e (e := 3) (x := 2) hR rfl (fun L => ?_) (fun M => ⟨some (.int 0), rfl, ?_⟩)
      · rw [x_X11_why, g_X11_why_0]
        simp -implicitDefEqProofs only [c_f1 hf, q_U]
        by_cases q1 : y < 0
        · simp -implicitDefEqProofs only [if_pos q1, c_k0, q_Ue]
        · have q2 : 4 < y := Decidable.byContradiction fun q2 => q ⟨q1, q2⟩
          simp -implicitDefEqProofs only [if_neg q1, if_pos q2, c_k0, q_Ue]
      · rw [x_X12_why, g_X12_why_0]
        simp -implicitDefEqProofs only [hp_39_0, r_f1 hf, q_I, hc_39, r_thr0, if_true, if_neg z0, if_neg z1, if_neg z2, if_neg z3, if_neg z4]
        rw [g_X12_why_96]
        simp -implicitDefEqProofs only [hp_39_0, up_up]
end WhyB
