/-! cut and sell -/
section CutB
variable {S : sT} {d c : Nat} {k : Value} {E : List dsc} {A : fA} {L : fL} {T : fT} {W : fW}
theorem c_cut54 {f : Nat} {b x3 : Int32} {o : Option Value} {m : Nat} (hf : f < 48) (hc : c < 1000000) (hI : Iv c W) (hm : W 6 = nI m) (h31 : m < 2 ^ 31) (h0 : LkA 4 k E A T W) (g : Nat) : ∃ A', bd S (ex S (d + 5)) dflT E_X11_cut (g + 1) 54 [some (.ref 0), some (.int (nI f)), some (.int b), some (.int x3), o] [] (Hh k E A L T) = some (.inl (some (.int (W (8 + 14 * f + 7) * W (8 + 14 * f + 7)))), Hh k E A' L T) ∧ Fr A A' ∧ LkA 4 k E A' T (upd (comW (if x3 = 0 then errW W 1 (W (8 + 14 * f + 7) * W (8 + 14 * f + 7)) else W) 2 (W (8 + 14 * f + 7) * W (8 + 14 * f + 7))) (8 + 14 * f + 7) 0) := by
  have ct := c_timber (S := S) (d := d + 2) (k := k) (E := E) (L := L) (T := T) h0.2.1 hf
  generalize W (8 + 14 * f + 7) * W (8 + 14 * f + 7) = y at *
  rw [g_X11_cut_54]
  simp -implicitDefEqProofs only [hv_0_1, hv_4_1, hc_9, ct, q_I]
  by_cases q : x3 = 0
  · rw [if_pos q, if_pos q]
    obtain ⟨A1, r1, l1, f1⟩ := c_noteW (S := S) (d := d + 2) (L := L) (kd := 1) (x := y) hI hm h31 h0
    have hI1 : Iv (c + 1) (errW W 1 y) := jErr hI hc
    obtain ⟨A2, r2, l2, f2⟩ := c_takeIn (S := S) (d := d + 1) (L := L) (th := 2) (x := y) hI1 l1
    rw [show (2 : Int32) + 12 = 14 from rfl] at r2
    refine ⟨up A2 10 (336 + f) 0, ?_, Fr_tr f1 (Fr_tr f2 (Fr_up (by decide) (by decide))), kL_7 (jCom hI1) hf l2⟩
    simp -implicitDefEqProofs only [hv_0_1, hv_4_1, hc_4, r1, q_U, r2, hc_9, ls_7 hf]
  · rw [if_neg q, if_neg q]
    obtain ⟨A2, r2, l2, f2⟩ := c_takeIn (S := S) (d := d + 1) (L := L) (th := 2) (x := y) hI h0
    rw [show (2 : Int32) + 12 = 14 from rfl] at r2
    refine ⟨up A2 10 (336 + f) 0, ?_, Fr_tr f2 (Fr_up (by decide) (by decide)), kL_7 (jCom hI) hf l2⟩
    simp -implicitDefEqProofs only [hv_0_1, hv_4_1, hc_4, q_U, r2, hc_9, ls_7 hf]
theorem r_cut67 {f : Nat} {b x3 : Int32} {o : Option Value} {m : Nat} (hf : f < 48) (hI : Iv c (A 40)) (hm : A 40 6 = nI m) (h31 : m < 2 ^ 31) (g : Nat) : ∃ A', bd S (ex S (d + 7)) dflT E_X12_cut (g + 1) 67 [some (.ref 39), some (.int (nI f)), some (.int b), some (.int x3), o] [] (Hh k E A L T) = some (.inl (some (.int (A 40 (8 + 14 * f + 7) * A 40 (8 + 14 * f + 7)))), Hh k E A' L T) ∧ Fg A A' ∧ A' 40 = upd (comW (if x3 = 0 then errW (A 40) 1 (A 40 (8 + 14 * f + 7) * A 40 (8 + 14 * f + 7)) else A 40) 2 (A 40 (8 + 14 * f + 7) * A 40 (8 + 14 * f + 7))) (8 + 14 * f + 7) 0 := by
  have e7 : ∀ M : fL, ex S (d + 7) 31 [.ref 39, .int (nI f), .int 7] (Hh k E A M T) = some (.inl (some (.int (A 40 (8 + 14 * f + 7)))), Hh k E A M T) := fun M => ro_7 hf
  generalize hy : A 40 (8 + 14 * f + 7) = z at *
  rw [g_X12_cut_67]
  simp -implicitDefEqProofs only [hc_39, e7, q_I, hv_39_1, ra_7, sn_40 (show 8 + 14 * f + 7 < 35877 by omega)]
  have w40 : up A 40 (8 + 14 * f + 7) 0 40 = upd (A 40) (8 + 14 * f + 7) 0 := up40
  obtain ⟨B, r1, r2, r3⟩ := r_comes (S := S) (d := d) (k := k) (E := E) (L := L) (T := T) (A := up A 40 (8 + 14 * f + 7) 0) (th := 2) (x := z * z) (c := c) (by rw [w40]; exact jL_7 hI hf (b32 _))
  rw [w40, com_upd (by omega) (by omega) (by omega) (by omega)] at r2
  have b6 : B 40 6 = nI m := by rw [r2, upd_o (by omega)]; unfold comW; rw [upd_o (by omega), upd_o (by omega)]; exact hm
  simp -implicitDefEqProofs only [r1, q_U]
  by_cases q : x3 = 0
  · rw [if_pos q, if_pos q]
    obtain ⟨B2, e1, e2, e3⟩ := r_errs (S := S) (d := d + 5) (k := k) (E := E) (L := L) (T := T) (A := B) (kd := 1) (x := z * z) b6 h31
    refine ⟨B2, ?_, Fg_tr Fg_up (Fg_tr r3 e3), ?_⟩
    · simp -implicitDefEqProofs only [hc_39, e1, q_U]
    · have hm2 : comW (A 40) 2 (z * z) 6 = nI m := by unfold comW; rw [upd_o (by omega), upd_o (by omega)]; exact hm
      rw [e2, r2, err_upd hm2 h31 (by omega) (by omega) (by omega) (by omega), err_com hm h31]
  · rw [if_neg q, if_neg q]
    exact ⟨B, rfl, Fg_tr Fg_up r3, r2⟩
theorem p_cut (hc : c < 1000000) (hR : Rel c k E A T) (x b : Int32) : PK c S (d + 9) k E A T 298 300 [.int x, .int b] cdF := by
  have hI := Rel_w hR
  have h36 := Rel_36 hR
  rcases fld_c x with hx | ⟨f, hf, rfl⟩
  · refine PK_e (e := 0) (x := 1) hR rfl (fun L => ?_) (fun M => ⟨some (.int 0), rfl, ?_⟩)
    · simp -implicitDefEqProofs only [x_X11_cut, g_X11_cut_0, c_f0 hx, q_Ue]
    · simp -implicitDefEqProofs only [x_X12_cut, g_X12_cut_0, hp_39_0, r_f0 hx, q_I, hc_39, r_thr1, i1_0, if_false, q_z0, up_up]
  · have hF := hI.2.1 f hf
    have h24 := hI.2.2.2.2.1.2.1
    have ck : ∀ L, ex S (d + 8) 160 [.ref 4, .int (nI f)] (Hh k E A L T) = some (.inl (some (.int (kindW (A 40) f))), Hh k E A L T) := fun L => c_kindAt (Rel_l hR) (Rel_h hR).2.1 hF h24 hf
    have rk : ∀ (B : fA) M, B 40 = A 40 → ex S (d + 8) 166 [.ref 39, .int (nI f)] (Hh k E (up B 39 0 0) M T) = some (.inl (some (.int (kindW (A 40) f))), Hh k E (up B 39 0 0) M T) := fun B M hB => by
      have := r_kindOf (S := S) (d := d + 5) (k := k) (E := E) (A := up B 39 0 0) (L := M) (T := T) (f := f) (by rw [u40_39, hB]; exact hF) (by rw [u40_39, hB]; exact h24) hf
      rw [u40_39, hB] at this; exact this
    by_cases qk : kindW (A 40) f = 3
    · have j1 : Iv (c + 1) (A 40) := Iv_c (Nat.le_succ c) hI
      have f36 : Fr A (upR A 36 (prR (A 40) (A 36) (pn (A 40)))) := Fr_36
      have l36 : LkA 4 k E (upR A 36 (prR (A 40) (A 36) (pn (A 40)))) T (A 40) := Lk_36 hR.2.1
      have hfl := fl_ne (s := 11) (Fc := fcF (A 40) f (fc0 (A 40) (A 40 1) 0)) (Xw_of hI)
      rw [show flW (A 40) 11 (fcF (A 40) f (fc0 (A 40) (A 40 1) 0)) = fF (A 40) 11 f from rfl] at hfl
      obtain ⟨m, hmc, em⟩ := hI.2.2.2.2.2.1.2.2.2.2.2
      have cle : ∀ L, ∃ L1, ex S (d + 8) 286 [.ref 4, .int 18, .int (nI f)] (Hh k E A L T) = some (.inl (some (.int (fF (A 40) 11 f))), Hh k E (upR A 36 (prR (A 40) (A 36) (pn (A 40)))) L1 T) := fun L => by
        obtain ⟨L1, e⟩ := c_lets (S := S) (d := d + 3) (L := L) (s := 11) (f := f) hI hR.2.1 h36 (by unfold rg; decide) hf
        rw [show vb 11 = 18 by decide] at e
        exact ⟨L1, e⟩
      have rle : ∀ (B : fA) M, B 40 = A 40 → ∃ B1 M1, ex S (d + 8) 292 [.ref 39, .int 11, .int (nI f)] (Hh k E (up B 39 0 0) M T) = some (.inl (some (.int (fF (A 40) 11 f))), Hh k E B1 M1 T) ∧ Fg (up B 39 0 0) B1 ∧ B1 40 = A 40 ∧ M1 48 = M 48 := fun B M hB => by
        obtain ⟨B1, M1, e1, e2, e3⟩ := r_firstF (S := S) (d := d + 3) (k := k) (E := E) (A := up B 39 0 0) (L := M) (T := T) (s := 11) (f := f) (by rw [u40_39, hB]; exact hI) hf
        rw [u40_39, hB] at e1
        exact ⟨B1, M1, e1, Fo_g e2, (e2.1 40 (by decide) (by decide)).trans (u40_39.trans hB), e3 48 (by decide) (by decide)⟩
      have go : ∀ x3 : Int32, Iv (c + 1) (upd (comW (if x3 = 0 then errW (A 40) 1 (A 40 (8 + 14 * f + 7) * A 40 (8 + 14 * f + 7)) else A 40) 2 (A 40 (8 + 14 * f + 7) * A 40 (8 + 14 * f + 7))) (8 + 14 * f + 7) 0) := fun x3 => by
        refine jL_7 (jCom ?_) hf (b32 _)
        split
        · exact jErr hI hc
        · exact j1
      by_cases q1 : fF (A 40) 11 f = -1
      · by_cases qb : b = 0
        · refine PK_v (v := some (.int (-1))) (V := A 40) hR j1 (fun L => ?_) (fun B M hB => ?_)
          · obtain ⟨L1, e⟩ := cle L
            refine ⟨_, L1, ?_, f36, l36⟩
            rw [x_X11_cut, g_X11_cut_0]
            simp -implicitDefEqProofs only [c_f1 hf, q_U, hv_0_1, hc_4, ck, q_I, if_pos qk]
            rw [g_X11_cut_21]
            simp -implicitDefEqProofs only [c_kd1, q_U, hv_0_1, hc_4, e, q_I, if_pos q1, if_true, if_pos qb]
          · obtain ⟨B1, M1, e1, e2, e3, e4⟩ := rle B M hB
            refine ⟨B1, M1, ?_, e4, e2, e3⟩
            rw [x_X12_cut, g_X12_cut_0]
            simp -implicitDefEqProofs only [hp_39_0, r_f1 hf, q_I, hc_39, r_thr0, if_true, rk B _ hB, if_pos qk]
            rw [g_X12_cut_32]
            simp -implicitDefEqProofs only [hc_39, r_thr0, q_I, if_true, e1, if_pos (hfl.mpr q1), if_pos qb]
        · refine PK_v (v := some (.int (A 40 (8 + 14 * f + 7) * A 40 (8 + 14 * f + 7)))) hR (go 0) (fun L => ?_) (fun B M hB => ?_)
          · obtain ⟨L1, e⟩ := cle L
            obtain ⟨A1, r1, r2, r3⟩ := c_cut54 (S := S) (d := d + 3) (k := k) (E := E) (L := L1) (T := T) (b := b) (x3 := 0) (o := none) hf hc hI em (by omega) l36 99997
            refine ⟨A1, L1, ?_, Fr_tr f36 r2, r3⟩
            rw [x_X11_cut, g_X11_cut_0]
            simp -implicitDefEqProofs only [c_f1 hf, q_U, hv_0_1, hc_4, ck, q_I, if_pos qk]
            rw [g_X11_cut_21]
            simp -implicitDefEqProofs only [c_kd1, q_U, hv_0_1, hc_4, e, q_I, if_pos q1, if_true, if_neg qb]
            exact r1
          · obtain ⟨B1, M1, e1, e2, e3, e4⟩ := rle B M hB
            obtain ⟨B2, r1, r2, r3⟩ := r_cut67 (S := S) (d := d + 1) (k := k) (E := E) (A := B1) (L := M1) (T := T) (b := b) (x3 := 0) (o := none) (c := c) (m := m) hf (by rw [e3]; exact hI) (by rw [e3]; exact em) (by omega) 99997
            rw [e3] at r1 r3
            refine ⟨B2, M1, ?_, e4, Fg_tr e2 r2, r3⟩
            rw [x_X12_cut, g_X12_cut_0]
            simp -implicitDefEqProofs only [hp_39_0, r_f1 hf, q_I, hc_39, r_thr0, if_true, rk B _ hB, if_pos qk]
            rw [g_X12_cut_32]
            simp -implicitDefEqProofs only [hc_39, r_thr0, q_I, if_true, e1, if_pos (hfl.mpr q1), if_neg qb]
            exact r1
      · refine PK_v (v := some (.int (A 40 (8 + 14 * f + 7) * A 40 (8 + 14 * f + 7)))) hR (go 1) (fun L => ?_) (fun B M hB => ?_)
        · obtain ⟨L1, e⟩ := cle L
          obtain ⟨A1, r1, r2, r3⟩ := c_cut54 (S := S) (d := d + 3) (k := k) (E := E) (L := L1) (T := T) (b := b) (x3 := 1) (o := none) hf hc hI em (by omega) l36 99997
          refine ⟨A1, L1, ?_, Fr_tr f36 r2, r3⟩
          rw [x_X11_cut, g_X11_cut_0]
          simp -implicitDefEqProofs only [c_f1 hf, q_U, hv_0_1, hc_4, ck, q_I, if_pos qk]
          rw [g_X11_cut_21]
          simp -implicitDefEqProofs only [c_kd1, q_U, hv_0_1, hc_4, e, q_I, if_neg q1, i1_0, if_false]
          exact r1
        · obtain ⟨B1, M1, e1, e2, e3, e4⟩ := rle B M hB
          obtain ⟨B2, r1, r2, r3⟩ := r_cut67 (S := S) (d := d + 1) (k := k) (E := E) (A := B1) (L := M1) (T := T) (b := b) (x3 := 1) (o := none) (c := c) (m := m) hf (by rw [e3]; exact hI) (by rw [e3]; exact em) (by omega) 99997
          rw [e3] at r1 r3
          refine ⟨B2, M1, ?_, e4, Fg_tr e2 r2, r3⟩
          rw [x_X12_cut, g_X12_cut_0]
          simp -implicitDefEqProofs only [hp_39_0, r_f1 hf, q_I, hc_39, r_thr0, if_true, rk B _ hB, if_pos qk]
          rw [g_X12_cut_32]
          simp -implicitDefEqProofs only [hc_39, r_thr0, q_I, if_true, e1, if_neg (fun r => q1 (hfl.mp r)), i1_0, if_false]
          exact r1
    · refine PK_e (e := 2) (x := 2) hR rfl (fun L => ?_) (fun M => ⟨some (.int 0), rfl, ?_⟩)
      · rw [x_X11_cut, g_X11_cut_0]
        simp -implicitDefEqProofs only [c_f1 hf, q_U, hv_0_1, hc_4, ck, q_I, if_neg qk]
        rw [g_X11_cut_21]
        simp -implicitDefEqProofs only [c_kd0, q_Ue]
      · rw [x_X12_cut, g_X12_cut_0]
        simp -implicitDefEqProofs only [hp_39_0, r_f1 hf, q_I, hc_39, r_thr0, if_true, rk A _ rfl, if_neg qk]
        rw [g_X12_cut_32]
        simp -implicitDefEqProofs only [hc_39, r_thr1, q_I, i1_0, if_false, up_up]
end CutB
