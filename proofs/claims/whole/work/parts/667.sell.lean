/-! sell -/
section SellB
variable {S : sT} {d c : Nat} {k : Value} {E : List dsc} {A : fA} {L : fL} {T : fT} {W : fW}
theorem com_o {th x : Int32} {i : Nat} (h1 : i ≠ 1) (h2 : i ≠ 2) : comW W th x i = W i := by unfold comW; rw [upd_o h1, upd_o h2]
theorem c_sell67 {f : Nat} {b x3 : Int32} {o : Option Value} {m : Nat} (hf : f < 48) (hc : c < 1000000) (hI : Iv c W) (hh : W (8 + 14 * f + 10) = -1) (hm : W 6 = nI m) (h31 : m < 2 ^ 31) (h0 : LkA 4 k E A T W) (g : Nat) : ∃ A', bd S (ex S (d + 5)) dflT E_X11_sell (g + 1) 67 [some (.ref 0), some (.int (nI f)), some (.int b), some (.int x3), o] [] (Hh k E A L T) = some (.inl (some (.int (worthW W f))), Hh k E A' L T) ∧ Fr A A' ∧ LkA 4 k E A' T (upd (comW (if x3 = 0 then errW W 3 (worthW W f) else W) 4 (worthW W f)) (8 + 14 * f + 11) 1) := by
  have ct := c_worth (S := S) (d := d + 1) (k := k) (E := E) (L := L) (T := T) h0.2.1 hf
  generalize worthW W f = y at *
  rw [g_X11_sell_67]
  simp -implicitDefEqProofs only [hv_0_1, hv_4_1, hc_9, ct, q_I]
  by_cases q : x3 = 0
  · rw [if_pos q, if_pos q]
    obtain ⟨A1, r1, l1, f1⟩ := c_noteW (S := S) (d := d + 2) (L := L) (kd := 3) (x := y) hI hm h31 h0
    have hI1 : Iv (c + 1) (errW W 3 y) := jErr hI hc
    obtain ⟨A2, r2, l2, f2⟩ := c_takeIn (S := S) (d := d + 1) (L := L) (th := 4) (x := y) hI1 l1
    rw [show (4 : Int32) + 12 = 16 from rfl] at r2
    refine ⟨up A2 10 (528 + f) 1, ?_, Fr_tr f1 (Fr_tr f2 (Fr_up (by decide) (by decide))), kL_11 (jCom hI1) hf l2⟩
    simp -implicitDefEqProofs only [hv_0_1, hv_4_1, hc_4, r1, q_U, r2, hc_9, ls_11 hf]
  · rw [if_neg q, if_neg q]
    obtain ⟨A2, r2, l2, f2⟩ := c_takeIn (S := S) (d := d + 1) (L := L) (th := 4) (x := y) hI h0
    rw [show (4 : Int32) + 12 = 16 from rfl] at r2
    refine ⟨up A2 10 (528 + f) 1, ?_, Fr_tr f2 (Fr_up (by decide) (by decide)), kL_11 (jCom hI) hf l2⟩
    simp -implicitDefEqProofs only [hv_0_1, hv_4_1, hc_4, q_U, r2, hc_9, ls_11 hf]
theorem r_sell77 {f : Nat} {b x3 : Int32} {o : Option Value} {m : Nat} (hf : f < 48) (hI : Iv c (A 40)) (hm : A 40 6 = nI m) (h31 : m < 2 ^ 31) (g : Nat) : ∃ A', bd S (ex S (d + 7)) dflT E_X12_sell (g + 1) 77 [some (.ref 39), some (.int (nI f)), some (.int b), some (.int x3), o] [] (Hh k E A L T) = some (.inl (some (.int (worthW (A 40) f))), Hh k E A' L T) ∧ Fg A A' ∧ A' 40 = upd (comW (if x3 = 0 then errW (A 40) 3 (worthW (A 40) f) else A 40) 4 (worthW (A 40) f)) (8 + 14 * f + 11) 1 := by
  have e7 := r_worth (S := S) (d := d + 4) (k := k) (E := E) (A := A) (L := L) (T := T) hf
  generalize hy : worthW (A 40) f = z at *
  obtain ⟨B, r1, r2, r3⟩ := r_comes (S := S) (d := d) (k := k) (E := E) (L := L) (T := T) (A := A) (th := 4) (x := z) (c := c) hI
  rw [g_X12_sell_77]
  simp -implicitDefEqProofs only [hc_39, e7, q_I, r1, q_U, hv_39_1, ra_11, sn_40 (show 8 + 14 * f + 11 < 35877 by omega)]
  have w40 : up B 40 (8 + 14 * f + 11) 1 40 = upd (comW (A 40) 4 z) (8 + 14 * f + 11) 1 := by rw [up40, r2]
  by_cases q : x3 = 0
  · rw [if_pos q, if_pos q]
    obtain ⟨B2, e1, e2, e3⟩ := r_errs (S := S) (d := d + 5) (k := k) (E := E) (L := L) (T := T) (A := up B 40 (8 + 14 * f + 11) 1) (kd := 3) (x := z) (m := m) (by rw [w40, upd_o (by omega), com_o (by omega) (by omega)]; exact hm) h31
    refine ⟨B2, ?_, Fg_tr r3 (Fg_tr Fg_up e3), ?_⟩
    · simp -implicitDefEqProofs only [hc_39, e1, q_U]
    · have hm2 : comW (A 40) 4 z 6 = nI m := by rw [com_o (by omega) (by omega)]; exact hm
      rw [e2, w40, err_upd hm2 h31 (by omega) (by omega) (by omega) (by omega), err_com hm h31]
  · rw [if_neg q, if_neg q]
    exact ⟨up B 40 (8 + 14 * f + 11) 1, rfl, Fg_tr r3 Fg_up, w40⟩
theorem p_sell (hc : c < 1000000) (hR : Rel c k E A T) (x b : Int32) : PK c S (d + 9) k E A T 314 316 [.int x, .int b] cdH := by
  have hI := Rel_w hR
  have h36 := Rel_36 hR
  rcases fld_c x with hx | ⟨f, hf, rfl⟩
  · refine PK_e (e := 0) (x := 1) hR rfl (fun L => ?_) (fun M => ⟨some (.int 0), rfl, ?_⟩)
    · simp -implicitDefEqProofs only [x_X11_sell, g_X11_sell_0, c_f0 hx, q_Ue]
    · simp -implicitDefEqProofs only [x_X12_sell, g_X12_sell_0, hp_39_0, r_f0 hx, q_I, hc_39, r_thr1, i1_0, if_false, q_z0, up_up, hg_39_0, up_ii]
  · have hF := hI.2.1 f hf
    have j1 : Iv (c + 1) (A 40) := Iv_c (Nat.le_succ c) hI
    obtain ⟨-, -, -, -, -, -, -, -, -, ho, hs, -⟩ := id hF
    have hn24 := hI.2.2.2.2.1.2.1
    by_cases hs1 : A 40 (8 + 14 * f + 11) = 1
    · refine PK_v (v := some (.int (-1))) (V := A 40) hR j1 (fun L => ⟨A, L, ?_, Fr_refl, hR.2.1⟩) (fun B M hB => ⟨up B 39 0 0, M, ?_, rfl, Fg_refl, u40_39.trans hB⟩)
      · simp -implicitDefEqProofs only [x_X11_sell, g_X11_sell_0, c_f1 hf, q_U, hv_0_1, hv_4_1, hc_9, c_sold (Rel_l hR) hF hf, hs1, q_I, i1_0, if_false]
      · have w : up B 39 0 0 40 (8 + 14 * f + 11) = 1 := by rw [u40_39, hB]; exact hs1
        simp -implicitDefEqProofs only [x_X12_sell, g_X12_sell_0, hp_39_0, r_f1 hf, q_I, hc_39, r_thr0, if_true, ro_11 hf, w, hg_39_0, up_ii]
    · have hs0 : A 40 (8 + 14 * f + 11) = 0 := hs.resolve_right (fun q => hs1 q.1)
      by_cases hh : A 40 (8 + 14 * f + 10) = -1
      · have f36 : Fr A (upR A 36 (prR (A 40) (A 36) (pn (A 40)))) := Fr_36
        have l36 : LkA 4 k E (upR A 36 (prR (A 40) (A 36) (pn (A 40)))) T (A 40) := Lk_36 hR.2.1
        have hfl := fl_ne (s := 13) (Fc := fcF (A 40) f (fc0 (A 40) (A 40 1) 0)) (Xw_of hI)
        rw [show flW (A 40) 13 (fcF (A 40) f (fc0 (A 40) (A 40 1) 0)) = fF (A 40) 13 f from rfl] at hfl
        obtain ⟨m, hmc, em⟩ := hI.2.2.2.2.2.1.2.2.2.2.2
        have cle : ∀ L, ∃ L1, ex S (d + 8) 286 [.ref 4, .int 20, .int (nI f)] (Hh k E A L T) = some (.inl (some (.int (fF (A 40) 13 f))), Hh k E (upR A 36 (prR (A 40) (A 36) (pn (A 40)))) L1 T) := fun L => by
          obtain ⟨L1, e⟩ := c_lets (S := S) (d := d + 3) (L := L) (s := 13) (f := f) hI hR.2.1 h36 (by unfold rg; decide) hf
          rw [show vb 13 = 20 by decide] at e
          exact ⟨L1, e⟩
        have rle : ∀ (B : fA) M, B 40 = A 40 → ∃ B1 M1, ex S (d + 8) 292 [.ref 39, .int 13, .int (nI f)] (Hh k E (up B 39 0 0) M T) = some (.inl (some (.int (fF (A 40) 13 f))), Hh k E B1 M1 T) ∧ Fg (up B 39 0 0) B1 ∧ B1 40 = A 40 ∧ M1 48 = M 48 := fun B M hB => by
          obtain ⟨B1, M1, e1, e2, e3⟩ := r_firstF (S := S) (d := d + 3) (k := k) (E := E) (A := up B 39 0 0) (L := M) (T := T) (s := 13) (f := f) (by rw [u40_39, hB]; exact hI) hf
          rw [u40_39, hB] at e1
          exact ⟨B1, M1, e1, Fo_g e2, (e2.1 40 (by decide) (by decide)).trans (u40_39.trans hB), e3 48 (by decide) (by decide)⟩
        have go : ∀ x3 : Int32, Iv (c + 1) (upd (comW (if x3 = 0 then errW (A 40) 3 (worthW (A 40) f) else A 40) 4 (worthW (A 40) f)) (8 + 14 * f + 11) 1) := fun x3 => by
          refine jL_11 (jCom ?_) hf (Or.inr ⟨rfl, ?_⟩)
          · split
            · exact jErr hI hc
            · exact j1
          · rw [com_o (by omega) (by omega)]
            split
            · rw [err_o em (by omega) (by omega) (by omega)]; exact hh
            · exact hh
        have ws : ∀ B : fA, B 40 = A 40 → ¬ up B 39 0 0 40 (8 + 14 * f + 11) = 1 := fun B hB => by rw [u40_39, hB]; exact hs1
        have wh : ∀ B : fA, B 40 = A 40 → up B 39 0 0 40 (8 + 14 * f + 10) < 0 := fun B hB => by rw [u40_39, hB, hh]; decide
        by_cases q1 : fF (A 40) 13 f = -1
        · by_cases qb : b = 0
          · refine PK_v (v := some (.int (-1))) (V := A 40) hR j1 (fun L => ?_) (fun B M hB => ?_)
            · obtain ⟨L1, e⟩ := cle L
              refine ⟨_, L1, ?_, f36, l36⟩
              rw [x_X11_sell, g_X11_sell_0]
              simp -implicitDefEqProofs only [c_f1 hf, q_U, hv_0_1, hv_4_1, hc_9, c_sold (Rel_l hR) hF hf, hs0, q_I, if_true, gL_10 (Rel_l hR) hf, hh, hc_4, e, if_pos q1, if_pos qb]
            · obtain ⟨B1, M1, e1, e2, e3, e4⟩ := rle B M hB
              refine ⟨B1, M1, ?_, e4, e2, e3⟩
              rw [x_X12_sell, g_X12_sell_0]
              simp -implicitDefEqProofs only [hp_39_0, r_f1 hf, q_I, hc_39, r_thr0, if_true, ro_11 hf, if_neg (ws B hB), ro_10 hf, if_pos (wh B hB), e1, if_pos (hfl.mpr q1), if_pos qb]
          · refine PK_v (v := some (.int (worthW (A 40) f))) hR (go 0) (fun L => ?_) (fun B M hB => ?_)
            · obtain ⟨L1, e⟩ := cle L
              obtain ⟨A1, r1, r2, r3⟩ := c_sell67 (S := S) (d := d + 3) (k := k) (E := E) (L := L1) (T := T) (b := b) (x3 := 0) (o := none) hf hc hI hh em (by omega) l36 99998
              refine ⟨A1, L1, ?_, Fr_tr f36 r2, r3⟩
              rw [x_X11_sell, g_X11_sell_0]
              simp -implicitDefEqProofs only [c_f1 hf, q_U, hv_0_1, hv_4_1, hc_9, c_sold (Rel_l hR) hF hf, hs0, q_I, if_true, gL_10 (Rel_l hR) hf, hh, hc_4, e, if_pos q1, if_neg qb]
              exact r1
            · obtain ⟨B1, M1, e1, e2, e3, e4⟩ := rle B M hB
              obtain ⟨B2, r1, r2, r3⟩ := r_sell77 (S := S) (d := d + 1) (k := k) (E := E) (A := B1) (L := M1) (T := T) (b := b) (x3 := 0) (o := none) (c := c) (m := m) hf (by rw [e3]; exact hI) (by rw [e3]; exact em) (by omega) 99998
              rw [e3] at r1 r3
              refine ⟨B2, M1, ?_, e4, Fg_tr e2 r2, r3⟩
              rw [x_X12_sell, g_X12_sell_0]
              simp -implicitDefEqProofs only [hp_39_0, r_f1 hf, q_I, hc_39, r_thr0, if_true, ro_11 hf, if_neg (ws B hB), ro_10 hf, if_pos (wh B hB), e1, if_pos (hfl.mpr q1), if_neg qb]
              exact r1
        · refine PK_v (v := some (.int (worthW (A 40) f))) hR (go 1) (fun L => ?_) (fun B M hB => ?_)
          · obtain ⟨L1, e⟩ := cle L
            obtain ⟨A1, r1, r2, r3⟩ := c_sell67 (S := S) (d := d + 3) (k := k) (E := E) (L := L1) (T := T) (b := b) (x3 := 1) (o := none) hf hc hI hh em (by omega) l36 99998
            refine ⟨A1, L1, ?_, Fr_tr f36 r2, r3⟩
            rw [x_X11_sell, g_X11_sell_0]
            simp -implicitDefEqProofs only [c_f1 hf, q_U, hv_0_1, hv_4_1, hc_9, c_sold (Rel_l hR) hF hf, hs0, q_I, if_true, gL_10 (Rel_l hR) hf, hh, hc_4, e, if_neg q1, i1_0, if_false]
            exact r1
          · obtain ⟨B1, M1, e1, e2, e3, e4⟩ := rle B M hB
            obtain ⟨B2, r1, r2, r3⟩ := r_sell77 (S := S) (d := d + 1) (k := k) (E := E) (A := B1) (L := M1) (T := T) (b := b) (x3 := 1) (o := none) (c := c) (m := m) hf (by rw [e3]; exact hI) (by rw [e3]; exact em) (by omega) 99998
            rw [e3] at r1 r3
            refine ⟨B2, M1, ?_, e4, Fg_tr e2 r2, r3⟩
            rw [x_X12_sell, g_X12_sell_0]
            simp -implicitDefEqProofs only [hp_39_0, r_f1 hf, q_I, hc_39, r_thr0, if_true, ro_11 hf, if_neg (ws B hB), ro_10 hf, if_pos (wh B hB), e1, if_neg (fun r => q1 (hfl.mp r)), i1_0, if_false]
            exact r1
      · have hge : ¬ A 40 (8 + 14 * f + 10) < 0 := by
          rcases ho with ⟨h, -⟩ | ⟨h, h1, h2, -⟩
          · exact absurd h hh
          · rw [h2]; exact nI_pos (by omega)
        refine PK_v (v := some (.int (-1))) (V := A 40) hR j1 (fun L => ⟨A, L, ?_, Fr_refl, hR.2.1⟩) (fun B M hB => ⟨up B 39 0 0, M, ?_, rfl, Fg_refl, u40_39.trans hB⟩)
        · simp -implicitDefEqProofs only [x_X11_sell, g_X11_sell_0, c_f1 hf, q_U, hv_0_1, hv_4_1, hc_9, c_sold (Rel_l hR) hF hf, hs0, q_I, if_true, gL_10 (Rel_l hR) hf, if_neg hh]
        · have ws : ¬ up B 39 0 0 40 (8 + 14 * f + 11) = 1 := by rw [u40_39, hB]; exact hs1
          have wh : ¬ up B 39 0 0 40 (8 + 14 * f + 10) < 0 := by rw [u40_39, hB]; exact hge
          simp -implicitDefEqProofs only [x_X12_sell, g_X12_sell_0, hp_39_0, r_f1 hf, q_I, hc_39, r_thr0, if_true, ro_11 hf, if_neg ws, ro_10 hf, if_neg wh, hg_39_0, up_ii]
end SellB
