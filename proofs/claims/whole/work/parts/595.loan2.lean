/-! loans: the call -/
section LoanC
variable {S : sT} {d c : Nat} {k : Value} {E : List dsc} {A : fA} {L : fL} {T : fT} {W : fW}
theorem c_rm1 {h : pH} : ex S (d + 1) 277 [.int 1] h = some (.inl none, h) := by
  rw [x_X11_needRoom, g_X11_needRoom_0, if_neg (by decide)]
theorem c_rm0 {h : pH} : ex S (d + 1) 277 [.int 0] h = some (.inr (xnm 4), h) := by
  rw [x_X11_needRoom, g_X11_needRoom_0, if_pos rfl]
theorem lo_part {n y : Nat} (h1 : 1 ≤ n) (h2 : n ≤ 100000) (h3 : 1 ≤ y) (h4 : y ≤ 40) : ((nI n + nI y) - 1) / nI y = nI ((n + y - 1) / y) ∧ (n + y - 1) / y ≤ 100000 := by
  obtain ⟨z, rfl⟩ : ∃ z, y = z + 1 := ⟨y - 1, by omega⟩
  refine ⟨?_, ?_⟩
  · rw [nI_add, show n + (z + 1) = (n + z) + 1 by omega, nI_pred, pk_div (by omega) (by omega) (by omega)]
    rw [show n + z + 1 - 1 = n + z by omega]
  · have : (n + (z + 1) - 1) / (z + 1) ≤ n := by
      have h : n + (z + 1) - 1 ≤ n * (z + 1) := by
        have : n * (z + 1) = n * z + n := by rw [Nat.mul_add]; omega
        have : z ≤ n * z := Nat.le_mul_of_pos_left z (by omega)
        omega
      calc (n + (z + 1) - 1) / (z + 1) ≤ n * (z + 1) / (z + 1) := Nat.div_le_div_right h
        _ = n := Nat.mul_div_cancel _ (by omega)
    omega
theorem c_lend {n r : Int32} {y : Nat} (hG : LkG (A 22) (A 23) (A 24) (A 25) (A 26) W) (h1 : W 1948 = nI (ln W)) (hl : ln W < 12) (hy : 1 ≤ y) (hy2 : y < 2 ^ 31) : ex S (d + 3) 302 [.ref 22, .int n, .int r, .int (nI y)] (Hh k E A L T) = some (.inl (some (.int (nI (ln W)))), Hh k E (loA A (ln W) n r (((n + nI y) - 1) / nI y) (kp ((W 2).toInt64 + n.toInt64))) L T) := by
  obtain ⟨⟨m0, m1, m2, m3, m4, m5, m6, m8⟩, n1, n2⟩ := hG
  have l1 : A 22 8 = nI (ln W) := m8.trans h1
  have g0 : ¬ (12 : Int32) ≤ nI (ln W) := nI_ge hl (by decide)
  have g1 : (1 : Int32) ≤ nI y := nI_le (a := 1) hy hy2
  have e0 : up (up (up A 24 (ln W) r) 25 (ln W) (((n + nI y) - 1) / nI y)) 26 (ln W) n 22 1 = W 2 := by rw [up_ne (by decide), up_ne (by decide), up_ne (by decide)]; exact m1
  simp -implicitDefEqProofs only [x_X3_lend, g_X3_lend_0, hg_22_8, l1, if_neg g0, if_pos g1, hv_22_9, sn_24 hl, up_ne (show (22 : Nat) ≠ 24 by decide), hv_22_10, dv_ne (nI_ne0 (n := y) (by omega) hy2), sn_25 hl, up_ne (show (22 : Nat) ≠ 25 by decide), hv_22_11, sn_26 hl, hc_22]
  rw [c_addC (W := W) e0]
  simp -implicitDefEqProofs only [q_U, hg_22_8, up_rr (show (8 : Nat) ≠ 1 by decide), up_ne (show (22 : Nat) ≠ 24 by decide), up_ne (show (22 : Nat) ≠ 25 by decide), up_ne (show (22 : Nat) ≠ 26 by decide), l1, nI_p1, hp_22_8, up_ii, nI_pred, loA]
theorem r_lend {n r : Int32} {y : Nat} {x4 x5 : Int32} {o : Option Value} (h1 : A 40 1948 = nI (ln (A 40))) (hl : ln (A 40) < 12) (hy : 1 ≤ y) (hy2 : y < 2 ^ 31) (g : Nat) : ∃ B, bd S (ex S (d + 3)) dflT E_X12_loan (g + 1) 112 [some (.ref 39), some (.int n), some (.int r), some (.int (nI y)), some (.int x4), some (.int x5), o] [] (Hh k E A L T) = (if x5 = 0 then cU (ex S (d + 3) 154 [.ref 39, .int 2, .int n] (Hh k E B L T)) (fun h => some (.inl (some (.int (nI (ln (A 40))))), h)) else some (.inl (some (.int (nI (ln (A 40))))), Hh k E B L T)) ∧ B 40 = loW (A 40) n r (((n + nI y) - 1) / nI y) ∧ Fg A B := by
  generalize hL : ln (A 40) = l at *
  refine ⟨up (up (up (up (up A 40 1948 (nI (l + 1))) 40 (1949 + 4 * l) n) 40 (1949 + 4 * l + 1) r) 40 (1949 + 4 * l + 2) (((n + nI y) - 1) / nI y)) 40 2 (kp ((A 40 2).toInt64 + n.toInt64)), ?_, ?_, Fg_tr Fg_up (Fg_tr Fg_up (Fg_tr Fg_up (Fg_tr Fg_up Fg_up)))⟩
  · have f2 : up (up (up (up A 40 1948 (nI (l + 1))) 40 (1949 + 4 * l) n) 40 (1949 + 4 * l + 1) r) 40 (1949 + 4 * l + 2) (((n + nI y) - 1) / nI y) 40 2 = A 40 2 := by rw [up_rr (by omega), up_rr (by omega), up_rr (by omega), up_rr (by decide)]
    rw [g_X12_loan_112]
    simp -implicitDefEqProofs only [hv_39_1, aw_40_1948, h1, q_nr, nI_p1, sw_40_1948, ix_1949, nI_p2, sn_40 (show 1949 + 4 * l < 35877 by omega), sn_40 (show 1949 + 4 * l + 1 < 35877 by omega), sn_40 (show 1949 + 4 * l + 2 < 35877 by omega), dv_ne (nI_ne0 (n := y) (by omega) hy2), hc_39, r_cap, f2, q_U]
  · rw [up40, up40, up40, up40, up40]; unfold loW; rw [hL]
theorem p_loan (hc : c < 1000000) (hR : Rel c k E A T) (n r y b : Int32) : PK c S (d + 9) k E A T 303 306 [.int n, .int r, .int y, .int b] cdG := by
  have hI := Rel_w hR
  have hL := hI.2.2.2.2.2.2.1
  have h1 := hL.1
  have h12 := hL.2.1
  obtain ⟨m, hm, em⟩ := hI.2.2.2.2.2.1.2.2.2.2.2
  have m8 : A 22 8 = nI (ln (A 40)) := (Rel_g hR).1.2.2.2.2.2.2.2.trans h1
  by_cases q1 : wi n 1 100000
  · by_cases q2 : wi r 0 2000
    · by_cases q3 : wi y 1 40
      · obtain ⟨n', hn', rfl⟩ := wi_n (M := 100000) (by decide) (show wi n 0 100000 from ⟨fun q => q1.1 (Int32.lt_trans q (by decide)), q1.2⟩)
        obtain ⟨y', hy', rfl⟩ := wi_n (M := 40) (by decide) (show wi y 0 40 from ⟨fun q => q3.1 (Int32.lt_trans q (by decide)), q3.2⟩)
        have hn1 : 1 ≤ n' := by
          rcases Nat.eq_zero_or_pos n' with q | q
          · subst q; exact absurd (by decide) q1.1
          · exact q
        have hy1 : 1 ≤ y' := by
          rcases Nat.eq_zero_or_pos y' with q | q
          · subst q; exact absurd (by decide) q3.1
          · exact q
        obtain ⟨ep, hp⟩ := lo_part hn1 hn' hy1 hy'
        by_cases hl : ln (A 40) < 12
        · have g0 : ¬ (12 : Int32) ≤ nI (ln (A 40)) := nI_ge hl (by decide)
          have g1 : ¬ nI (ln (A 40)) = 12 := fun q => by rw [show (12 : Int32) = nI 12 from rfl, nI_eq (by omega) (by decide)] at q; omega
          have hV : Iv c (loW (A 40) (nI n') r (((nI n' + nI y') - 1) / nI y')) := jLo hI hl (rg_nI (by omega) (by omega)) (rg_wi q2) (by rw [ep]; exact rg_nI (by omega) (by omega))
          have co : ∀ L, ex S (d + 8) 301 [.ref 22] (Hh k E A L T) = some (.inl (some (.int (owW (A 40)))), Hh k E A L T) := fun L => c_owed (Rel_g hR) hL
          have cb : ∀ L, ex S (d + 8) 287 [.ref 4] (Hh k E A L T) = some (.inl (some (.int (mostW (A 40) 12))), Hh k E A L T) := fun L => c_borrow hI hR.2.1
          by_cases may : mostW (A 40) 12 < owW (A 40) + nI n'
          · by_cases hb : b = 0
            · intro L
              obtain ⟨B, e1, e2⟩ := r_most (S := S) (d := d + 2) (k := k) (E := E) (L := L) (T := T) (A := up A 39 0 0) (s := 12) hI
              refine ⟨k, E, A, L, T, Or.inl ⟨some (.int (-1)), rfl, ?_, fun M => ?_⟩⟩
              · simp -implicitDefEqProofs only [x_X11_loan, g_X11_loan_0, g_X11_loan_42, c_in1 q1, c_in1 q2, c_in1 q3, q_U, hv_0_1, hv_4_4, hg_22_8, m8, if_neg g0, c_rm1, hc_22, co, q_I, hc_4, cb, if_pos may, if_true, if_pos hb]
              · obtain ⟨B, e1, e2⟩ := r_most (S := S) (d := d + 2) (k := k) (E := E) (L := M) (T := T) (A := up A 39 0 0) (s := 12) hI
                have e40 : B 40 = A 40 := (e2.1 40 (by decide) (by decide)).trans u40_39
                have w1 : up A 39 0 0 40 1948 = nI (ln (A 40)) := h1
                have ro : ex S (d + 8) 305 [.ref 39] (Hh k E (up A 39 0 0) M T) = some (.inl (some (.int (owW (A 40)))), Hh k E (up A 39 0 0) M T) := r_owed (A := up A 39 0 0) hL
                rw [u40_39] at e1
                refine ⟨B, M, ?_, rfl, (e2.2 0 (by decide)).trans up_ii, Rel_by hR Fr_refl (Fo_g e2) (by rw [e40]; exact hR.2.1) (by rw [e40]; exact Iv_c (Nat.le_succ c) hI)⟩
                simp -implicitDefEqProofs only [x_X12_loan, g_X12_loan_0, g_X12_loan_43, g_X12_loan_69, hp_39_0, r_in1 q1, r_in1 q2, r_in1 q3, q_I, i1_0, if_false, hc_39, r_thr0, i0_0, if_true, hv_39_1, aw_40_1948, w1, if_neg g1, ro, e1, if_pos may, if_pos hb]
            · intro L
              obtain ⟨A0, run0, hL0, hF0⟩ := c_noteW (S := S) (d := d + 5) (L := L) (kd := 2) (x := nI n') hI em (by omega) hR.2.1
              have el : ln (errW (A 40) 2 (nI n')) = ln (A 40) := ln_c (err_o em (by omega) (by decide) (by decide))
              have hU : Iv (c + 1) (errW (A 40) 2 (nI n')) := jErr hI hc
              have cl := c_lend (S := S) (d := d + 5) (k := k) (E := E) (L := L) (T := T) (n := nI n') (r := r) (y := y') (W := errW (A 40) 2 (nI n')) hL0.2.2.2.1 hU.2.2.2.2.2.2.1.1 (by rw [el]; exact hl) hy1 (by omega)
              have kl := kLo (n := nI n') (r := r) (p := ((nI n' + nI y') - 1) / nI y') hU (by rw [el]; exact hl) hL0
              rw [el] at cl kl
              have hVV : Iv (c + 1) (loW (errW (A 40) 2 (nI n')) (nI n') r (((nI n' + nI y') - 1) / nI y')) := jLo hU (by rw [el]; exact hl) (rg_nI (by omega) (by omega)) (rg_wi q2) (by rw [ep]; exact rg_nI (by omega) (by omega))
              generalize hA1 : loA A0 (ln (A 40)) (nI n') r (((nI n' + nI y') - 1) / nI y') (kp ((errW (A 40) 2 (nI n') 2).toInt64 + (nI n').toInt64)) = A1 at cl kl
              have hF1 : Fr A A1 := Fr_tr hF0 (by rw [← hA1]; unfold loA; exact Fr_tr (Fr_up (by decide) (by decide)) (Fr_tr (Fr_up (by decide) (by decide)) (Fr_tr (Fr_up (by decide) (by decide)) (Fr_tr (Fr_up (by decide) (by decide)) (Fr_up (by decide) (by decide))))))
              have a40 : A1 40 = A 40 := hF1.1 40 (by decide)
              refine ⟨k, E, A1, L, T, Or.inl ⟨some (.int (nI (ln (A 40)))), rfl, ?_, fun M => ?_⟩⟩
              · simp -implicitDefEqProofs only [x_X11_loan, g_X11_loan_0, g_X11_loan_42, g_X11_loan_86, c_in1 q1, c_in1 q2, c_in1 q3, q_U, hv_0_1, hv_4_4, hg_22_8, m8, if_neg g0, c_rm1, hc_22, co, q_I, hc_4, cb, if_pos may, if_true, if_neg hb, run0, cl]
              · have w40 : up A1 39 0 0 40 = A 40 := by rw [u40_39, a40]
                obtain ⟨B, e1, e2⟩ := r_most (S := S) (d := d + 2) (k := k) (E := E) (L := M) (T := T) (A := up A1 39 0 0) (s := 12) (by rw [w40]; exact hI)
                have e40 : B 40 = A 40 := (e2.1 40 (by decide) (by decide)).trans w40
                have w1 : up A1 39 0 0 40 1948 = nI (ln (A 40)) := by rw [w40]; exact h1
                have ro : ex S (d + 8) 305 [.ref 39] (Hh k E (up A1 39 0 0) M T) = some (.inl (some (.int (owW (A 40)))), Hh k E (up A1 39 0 0) M T) := by have := r_owed (S := S) (d := d + 6) (k := k) (E := E) (L := M) (T := T) (A := up A1 39 0 0) (by rw [w40]; exact hL); rw [w40] at this; exact this
                rw [w40] at e1
                obtain ⟨B2, e3, e4, e5⟩ := r_lend (S := S) (d := d + 5) (k := k) (E := E) (L := M) (T := T) (A := B) (n := nI n') (r := r) (y := y') (x4 := b) (x5 := 0) (o := none) (by rw [e40]; exact h1) (by rw [e40]; exact hl) hy1 (by omega) 99996
                rw [e40] at e3 e4
                have b6 : B2 40 6 = nI m := by rw [e4, lo_o (by decide) (by decide) hl]; exact em
                obtain ⟨B3, e6, e7, e8⟩ := r_errs (S := S) (d := d + 6) (k := k) (E := E) (L := M) (T := T) (A := B2) (kd := 2) (x := nI n') b6 (by omega)
                have e9 : B3 40 = loW (errW (A 40) 2 (nI n')) (nI n') r (((nI n' + nI y') - 1) / nI y') := by rw [e7, e4, err_lo em (by omega) hl]
                have hG : Fg (up A1 39 0 0) B3 := Fg_tr (Fo_g e2) (Fg_tr e5 e8)
                refine ⟨B3, M, ?_, rfl, hG.2.1, Rel_by hR hF1 hG (by rw [e9]; exact kl) (by rw [e9]; exact hVV)⟩
                have e3' : bd S (ex S (d + 8)) dflT E_X12_loan 99997 112 [some (.ref 39), some (.int (nI n')), some (.int r), some (.int (nI y')), some (.int b), some (.int 0), none] [] (Hh k E B M T) = _ := e3
                simp -implicitDefEqProofs only [x_X12_loan, g_X12_loan_0, g_X12_loan_43, g_X12_loan_69, hp_39_0, r_in1 q1, r_in1 q2, r_in1 q3, q_I, i1_0, if_false, hc_39, r_thr0, i0_0, if_true, hv_39_1, aw_40_1948, w1, if_neg g1, ro, e1, if_pos may, if_neg hb, e3', e6, q_U]
          · intro L
            have cl := c_lend (S := S) (d := d + 5) (k := k) (E := E) (L := L) (T := T) (n := nI n') (r := r) (y := y') (W := A 40) (Rel_g hR) h1 hl hy1 (by omega)
            have kl := kLo (n := nI n') (r := r) (p := ((nI n' + nI y') - 1) / nI y') hI hl hR.2.1
            generalize hA1 : loA A (ln (A 40)) (nI n') r (((nI n' + nI y') - 1) / nI y') (kp ((A 40 2).toInt64 + (nI n').toInt64)) = A1 at cl kl
            have hF1 : Fr A A1 := by rw [← hA1]; unfold loA; exact Fr_tr (Fr_up (by decide) (by decide)) (Fr_tr (Fr_up (by decide) (by decide)) (Fr_tr (Fr_up (by decide) (by decide)) (Fr_tr (Fr_up (by decide) (by decide)) (Fr_up (by decide) (by decide)))))
            have a40 : A1 40 = A 40 := hF1.1 40 (by decide)
            refine ⟨k, E, A1, L, T, Or.inl ⟨some (.int (nI (ln (A 40)))), rfl, ?_, fun M => ?_⟩⟩
            · simp -implicitDefEqProofs only [x_X11_loan, g_X11_loan_0, g_X11_loan_42, g_X11_loan_86, c_in1 q1, c_in1 q2, c_in1 q3, q_U, hv_0_1, hv_4_4, hg_22_8, m8, if_neg g0, c_rm1, hc_22, co, q_I, hc_4, cb, if_neg may, i1_0, if_false, cl]
            · have w40 : up A1 39 0 0 40 = A 40 := by rw [u40_39, a40]
              obtain ⟨B, e1, e2⟩ := r_most (S := S) (d := d + 2) (k := k) (E := E) (L := M) (T := T) (A := up A1 39 0 0) (s := 12) (by rw [w40]; exact hI)
              have e40 : B 40 = A 40 := (e2.1 40 (by decide) (by decide)).trans w40
              have w1 : up A1 39 0 0 40 1948 = nI (ln (A 40)) := by rw [w40]; exact h1
              have ro : ex S (d + 8) 305 [.ref 39] (Hh k E (up A1 39 0 0) M T) = some (.inl (some (.int (owW (A 40)))), Hh k E (up A1 39 0 0) M T) := by have := r_owed (S := S) (d := d + 6) (k := k) (E := E) (L := M) (T := T) (A := up A1 39 0 0) (by rw [w40]; exact hL); rw [w40] at this; exact this
              rw [w40] at e1
              obtain ⟨B2, e3, e4, e5⟩ := r_lend (S := S) (d := d + 5) (k := k) (E := E) (L := M) (T := T) (A := B) (n := nI n') (r := r) (y := y') (x4 := b) (x5 := 1) (o := none) (by rw [e40]; exact h1) (by rw [e40]; exact hl) hy1 (by omega) 99996
              rw [e40] at e3 e4
              have hG : Fg (up A1 39 0 0) B2 := Fg_tr (Fo_g e2) e5
              refine ⟨B2, M, ?_, rfl, hG.2.1, Rel_by hR hF1 hG (by rw [e4]; exact kl) (by rw [e4]; exact Iv_c (Nat.le_succ c) hV)⟩
              have e3' : bd S (ex S (d + 8)) dflT E_X12_loan 99997 112 [some (.ref 39), some (.int (nI n')), some (.int r), some (.int (nI y')), some (.int b), some (.int 1), none] [] (Hh k E B M T) = _ := e3
              simp -implicitDefEqProofs only [x_X12_loan, g_X12_loan_0, g_X12_loan_43, g_X12_loan_69, hp_39_0, r_in1 q1, r_in1 q2, r_in1 q3, q_I, i1_0, if_false, hc_39, r_thr0, i0_0, if_true, hv_39_1, aw_40_1948, w1, if_neg g1, ro, e1, if_neg may, e3']
        · have hl' : ln (A 40) = 12 := by omega
          refine PI_K ⟨k, E, A, T, up A 39 0 2, Rel_thr hR 2, Or.inr ⟨4, by decide, fun L => ⟨L, ?_⟩, fun L => ⟨L, some (.int 0), rfl, ?_, rfl⟩, up_ii⟩⟩
          · have g0 : (12 : Int32) ≤ nI (ln (A 40)) := by rw [hl']; decide
            simp -implicitDefEqProofs only [x_X11_loan, g_X11_loan_0, g_X11_loan_42, c_in1 q1, c_in1 q2, c_in1 q3, q_U, hv_0_1, hv_4_4, hg_22_8, m8, if_pos g0, c_rm0, q_Ue]
          · have w1 : up A 39 0 0 40 1948 = 12 := by rw [u40_39, h1, hl']; rfl
            simp -implicitDefEqProofs only [x_X12_loan, g_X12_loan_0, g_X12_loan_43, g_X12_loan_69, hp_39_0, r_in1 q1, r_in1 q2, r_in1 q3, q_I, i1_0, if_false, hc_39, r_thr0, r_thr1, i0_0, if_true, hv_39_1, aw_40_1948, w1, up_up]
      · refine PI_K ⟨k, E, A, T, up A 39 0 1, Rel_thr hR 1, Or.inr ⟨1, by decide, fun L => ⟨L, ?_⟩, fun L => ⟨L, some (.int 0), rfl, ?_, rfl⟩, up_ii⟩⟩
        · simp -implicitDefEqProofs only [x_X11_loan, g_X11_loan_0, c_in1 q1, c_in1 q2, c_in0 q3, q_U, q_Ue]
        · simp -implicitDefEqProofs only [x_X12_loan, g_X12_loan_0, g_X12_loan_43, hp_39_0, r_in1 q1, r_in1 q2, r_in0 q3, q_I, i0_0, i1_0, if_true, if_false, hc_39, r_thr1, up_up]
    · refine PI_K ⟨k, E, A, T, up A 39 0 1, Rel_thr hR 1, Or.inr ⟨1, by decide, fun L => ⟨L, ?_⟩, fun L => ⟨L, some (.int 0), rfl, ?_, rfl⟩, up_ii⟩⟩
      · simp -implicitDefEqProofs only [x_X11_loan, g_X11_loan_0, c_in1 q1, c_in0 q2, q_U, q_Ue]
      · simp -implicitDefEqProofs only [x_X12_loan, g_X12_loan_0, g_X12_loan_43, hp_39_0, r_in1 q1, r_in0 q2, q_I, i0_0, i1_0, if_true, if_false, hc_39, r_thr1, up_up]
  · refine PI_K ⟨k, E, A, T, up A 39 0 1, Rel_thr hR 1, Or.inr ⟨1, by decide, fun L => ⟨L, ?_⟩, fun L => ⟨L, some (.int 0), rfl, ?_, rfl⟩, up_ii⟩⟩
    · simp -implicitDefEqProofs only [x_X11_loan, g_X11_loan_0, c_in0 q1, q_Ue]
    · simp -implicitDefEqProofs only [x_X12_loan, g_X12_loan_0, g_X12_loan_43, hp_39_0, r_in0 q1, q_I, i0_0, i1_0, if_true, if_false, hc_39, r_thr1, up_up]
end LoanC
