/-! what was wrong is noted; works; loans -/
section WrongB
variable {S : sT} {d c : Nat} {k : Value} {E : List dsc} {A : fA} {L : fL} {T : fT} {W : fW}
def errW (W : fW) (kd x : Int32) : fW := if W 6 < 60 then upd (upd (upd (upd (upd W 6 (W 6 + 1)) (1997 + 4 * (W 6).toNatClampNeg) kd) (1997 + 4 * (W 6).toNatClampNeg + 1) x) (1997 + 4 * (W 6).toNatClampNeg + 2) (W 0)) (1997 + 4 * (W 6).toNatClampNeg + 3) (W 5) else upd W 6 (W 6 + 1)
theorem err_o {kd x : Int32} {m : Nat} (hm : W 6 = nI m) (h31 : m < 2 ^ 31) {j : Nat} (h1 : j ≠ 6) (h2 : j < 1997 ∨ 2237 ≤ j) : errW W kd x j = W j := by
  unfold errW
  by_cases q : W 6 < 60
  · have q' : m < 60 := by rw [hm, show (60 : Int32) = nI 60 from rfl, nI_ltI h31 (by decide)] at q; exact q
    have em : (W 6).toNatClampNeg = m := by rw [hm, nI_clamp h31]
    rw [if_pos q, em, upd_o (by omega), upd_o (by omega), upd_o (by omega), upd_o (by omega), upd_o h1]
  · rw [if_neg q, upd_o h1]
theorem err_6 {kd x : Int32} {m : Nat} (hm : W 6 = nI m) (h31 : m < 2 ^ 31) : errW W kd x 6 = nI (m + 1) := by
  unfold errW
  have em : (W 6).toNatClampNeg = m := by rw [hm, nI_clamp h31]
  by_cases q : W 6 < 60
  · rw [if_pos q, em, upd_o (by omega), upd_o (by omega), upd_o (by omega), upd_o (by omega), upd_s, hm, nI_p1]
  · rw [if_neg q, upd_s, hm, nI_p1]
theorem jErr {kd x : Int32} (hI : Iv c W) (hc : c < 1000000) : Iv (c + 1) (errW W kd x) := by
  obtain ⟨i0, i1, i2, i3, i4, i5, i6, i7, i8, i9, i10⟩ := hI
  obtain ⟨a1, a2, a3, a4, a5, m, hm, em⟩ := i5
  have e : ∀ j, j ≠ 6 → (j < 1997 ∨ 2237 ≤ j) → errW W kd x j = W j := fun j h1 h2 => err_o em (by omega) h1 h2
  have hG : IvGs (c + 1) (errW W kd x) := by
    unfold IvGs
    rw [e 1 (by omega) (by omega), e 2 (by omega) (by omega), e 3 (by omega) (by omega), e 4 (by omega) (by omega), e 7 (by omega) (by omega), err_6 em (by omega)]
    exact ⟨a1, a2, a3, a4, a5, m + 1, by omega, rfl⟩
  exact ⟨Iv0_c (e 0 (by omega) (by omega)) i0, IvF_c (fun i hi => e i (by omega) (by omega)) i4.2.1 i1, IvRn_c (fun i h1 h2 => e i (by omega) (by omega)) i2, IvPr_c (by rw [e 0 (by omega) (by omega)]; exact Int32.lt_irrefl) (fun i h1 h2 => e i (by omega) (by omega)) i3, IvHs_c (fun i hi => e i (by omega) (by omega)) i4, hG, IvLn_c (fun i h1 h2 => e i (by omega) (by omega)) i6, IvJb_c (fun i h1 h2 => e i (by omega) (by omega)) i7, IvTb_c (fun i h1 h2 => e i (by omega) (by omega)) i8, IvRw_c (e _ (by omega) (by omega)) i9, IvXs_c (fun i h1 h2 => e i (by omega) (by omega)) i10⟩
theorem r_errs {kd x : Int32} {m : Nat} (hm : A 40 6 = nI m) (h31 : m < 2 ^ 31) : ∃ B, ex S (d + 2) 154 [.ref 39, .int kd, .int x] (Hh k E A L T) = some (.inl none, Hh k E B L T) ∧ B 40 = errW (A 40) kd x ∧ Fg A B := by
  have em : (A 40 6).toNatClampNeg = m := by rw [hm, nI_clamp h31]
  unfold errW
  rw [em, hm]
  by_cases q : nI m < 60
  · have q' : m < 60 := by rw [show (60 : Int32) = nI 60 from rfl, nI_ltI h31 (by decide)] at q; exact q
    refine ⟨up (up (up (up (up A 40 6 (nI (m + 1))) 40 (1997 + 4 * m) kd) 40 (1997 + 4 * m + 1) x) 40 (1997 + 4 * m + 2) (A 40 0)) 40 (1997 + 4 * m + 3) (A 40 5), ?_, ?_, Fg_tr Fg_up (Fg_tr Fg_up (Fg_tr Fg_up (Fg_tr Fg_up Fg_up)))⟩
    · have f1 : up (up (up A 40 6 (nI (m + 1))) 40 (1997 + 4 * m) kd) 40 (1997 + 4 * m + 1) x 40 0 = A 40 0 := by rw [up_rr (by omega), up_rr (by omega), up_rr (by decide)]
      have f2 : up (up (up (up A 40 6 (nI (m + 1))) 40 (1997 + 4 * m) kd) 40 (1997 + 4 * m + 1) x) 40 (1997 + 4 * m + 2) (A 40 0) 40 5 = A 40 5 := by rw [up_rr (by omega), up_rr (by omega), up_rr (by omega), up_rr (by decide)]
      simp -implicitDefEqProofs only [x_X12_errs, g_X12_errs_0, hv_39_1, aw_40_6, hm, q_nr, nI_p1, sw_40_6, if_pos q, ix_1997, nI_p2, nI_p3, sn_40 (show 1997 + 4 * m < 35877 by omega), sn_40 (show 1997 + 4 * m + 1 < 35877 by omega), sn_40 (show 1997 + 4 * m + 2 < 35877 by omega), sn_40 (show 1997 + 4 * m + 3 < 35877 by omega), hc_39, r_season, q_I, f1, aw_40_5, f2]
    · rw [if_pos q, up40, up40, up40, up40, up40, nI_p1]
  · refine ⟨up A 40 6 (nI (m + 1)), ?_, ?_, Fg_up⟩
    · simp -implicitDefEqProofs only [x_X12_errs, g_X12_errs_0, hv_39_1, aw_40_6, hm, q_nr, nI_p1, sw_40_6, if_neg q]
    · rw [if_neg q, up40, nI_p1]
theorem c_noteW {kd x : Int32} {m : Nat} (hI : Iv c W) (hm : W 6 = nI m) (h31 : m < 2 ^ 31) (h0 : LkA 4 k E A T W) : ∃ A', ex S (d + 3) 98 [.ref 4, .int kd, .int x] (Hh k E A L T) = some (.inl none, Hh k E A' L T) ∧ LkA 4 k E A' T (errW W kd x) ∧ Fr A A' := by
  obtain ⟨i0, i1, i2, i3, i4, i5, i6, i7, i8, i9, i10⟩ := hI
  obtain ⟨l0, l1, l2, l3, l4, l5, l6, l7⟩ := id h0
  obtain ⟨⟨m0, m1, m2, m3, m4, m5, m6, m8⟩, n1, n2⟩ : LkG (A 22) (A 23) (A 24) (A 25) (A 26) W := l3
  have hs : A 4 7 = W 0 := l0
  have g6 : A 22 6 = nI m := m6.trans hm
  have e : ∀ j, j ≠ 6 → (j < 1997 ∨ 2237 ≤ j) → errW W kd x j = W j := fun j h1 h2 => err_o hm h31 h1 h2
  have em : (W 6).toNatClampNeg = m := by rw [hm, nI_clamp h31]
  have q60 : (60 : Int32) ≤ nI m ↔ ¬ m < 60 := by rw [show (60 : Int32) = nI 60 from rfl, nI_leI (by decide) h31]; omega
  by_cases q' : m < 60
  · have q : ¬ (60 : Int32) ≤ nI m := fun r => (q60.mp r) q'
    have qW : W 6 < 60 := by rw [hm]; exact Int32.not_le.mp q
    refine ⟨up (up (up (up (up A 23 (m * 4) kd) 23 (m * 4 + 1) x) 23 (m * 4 + 2) (W 0)) 23 (m * 4 + 3) (W 5)) 22 6 (nI (m + 1)), ?_, ?_, Fr_tr (Fr_up (by decide) (by decide)) (Fr_tr (Fr_up (by decide) (by decide)) (Fr_tr (Fr_up (by decide) (by decide)) (Fr_tr (Fr_up (by decide) (by decide)) (Fr_up (by decide) (by decide)))))⟩
    · simp -implicitDefEqProofs only [x_X0_noteWrong, g_X0_noteWrong_0, hv_4_4, hg_4_7, hs, hc_22, x_X3_note, g_X3_note_0, hg_22_6, g6, if_neg q, hv_22_7, mr_4, nI_p1, nI_p2, nI_p3, sn_23 (show m * 4 < 240 by omega), sn_23 (show m * 4 + 1 < 240 by omega), sn_23 (show m * 4 + 2 < 240 by omega), sn_23 (show m * 4 + 3 < 240 by omega), up_ne (show (22 : Nat) ≠ 23 by decide), hg_22_5, m5, hp_22_6, q_U]
    · have hA : ∀ r, outK k r → up (up (up (up (up A 23 (m * 4) kd) 23 (m * 4 + 1) x) 23 (m * 4 + 2) (W 0)) 23 (m * 4 + 3) (W 5)) 22 6 (nI (m + 1)) r = A r := fun r hr => by have := hr.1; rw [up_ne (by omega), up_ne (by omega), up_ne (by omega), up_ne (by omega), up_ne (by omega)]
      refine ⟨l0.trans (e 0 (by omega) (by omega)).symm, LkL_c (fun i h1 h2 => e i (by omega) (by omega)) l1, LkM_c i3.2.1 (fun i h1 h2 => e i (by omega) (by omega)) l2, ?_, LkP_c (fun i h1 h2 => e i (by omega) (by omega)) l4, LkR_c (fun i h1 h2 => e i (by omega) (by omega)) l5, LkH_A (LkH_c i4.2.1 (fun i hi => e i (by omega) (by omega)) l6) hA, LkX_A (LkX_c i10.2.1 (fun i h1 h2 => e i (by omega) (by omega)) l7) hA⟩
      have r22 : up (up (up (up (up A 23 (m * 4) kd) 23 (m * 4 + 1) x) 23 (m * 4 + 2) (W 0)) 23 (m * 4 + 3) (W 5)) 22 6 (nI (m + 1)) (4 + 18) = upd (A 22) 6 (nI (m + 1)) := by show up _ 22 6 _ 22 = _; rw [up_eq, up_ne (by decide), up_ne (by decide), up_ne (by decide), up_ne (by decide)]
      have r23 : up (up (up (up (up A 23 (m * 4) kd) 23 (m * 4 + 1) x) 23 (m * 4 + 2) (W 0)) 23 (m * 4 + 3) (W 5)) 22 6 (nI (m + 1)) (4 + 19) = upd (upd (upd (upd (A 23) (m * 4) kd) (m * 4 + 1) x) (m * 4 + 2) (W 0)) (m * 4 + 3) (W 5) := by show up _ 22 6 _ 23 = _; rw [up_ne (by decide), up_eq, up_eq, up_eq, up_eq]
      refine ⟨?_, fun i hi => ?_, fun l hl => by rw [e _ (by omega) (by omega), e _ (by omega) (by omega), e _ (by omega) (by omega)]; exact n2 l hl⟩
      · rw [r22, e 1 (by omega) (by omega), e 2 (by omega) (by omega), e 3 (by omega) (by omega), e 4 (by omega) (by omega), e 7 (by omega) (by omega), e 5 (by omega) (by omega), e 1948 (by omega) (by omega), err_6 hm h31, upd_s, upd_o (by decide), upd_o (by decide), upd_o (by decide), upd_o (by decide), upd_o (by decide), upd_o (by decide), upd_o (by decide)]
        exact ⟨m0, m1, m2, m3, m4, m5, rfl, m8⟩
      · rw [r23]
        unfold errW
        rw [if_pos qW, em]
        simp -implicitDefEqProofs only [upd]
        have c0 : (i = m * 4) ↔ (1997 + i = 1997 + 4 * m) := by omega
        have c1 : (i = m * 4 + 1) ↔ (1997 + i = 1997 + 4 * m + 1) := by omega
        have c2 : (i = m * 4 + 2) ↔ (1997 + i = 1997 + 4 * m + 2) := by omega
        have c3 : (i = m * 4 + 3) ↔ (1997 + i = 1997 + 4 * m + 3) := by omega
        simp -implicitDefEqProofs only [c0, c1, c2, c3]
        have c6 : ¬ 1997 + i = 6 := by omega
        rw [if_neg c6, n1 i hi]
  · have q : (60 : Int32) ≤ nI m := q60.mpr q'
    have qW : ¬ W 6 < 60 := by rw [hm]; exact Int32.not_lt.mpr q
    refine ⟨up A 22 6 (nI (m + 1)), ?_, ?_, Fr_up (by decide) (by decide)⟩
    · simp -implicitDefEqProofs only [x_X0_noteWrong, g_X0_noteWrong_0, hv_4_4, hg_4_7, hs, hc_22, x_X3_note, g_X3_note_0, hg_22_6, g6, if_pos q, nI_p1, hp_22_6, q_U]
    · unfold errW
      rw [if_neg qW, hm, nI_p1]
      exact kG_6 ⟨i0, i1, i2, i3, i4, i5, i6, i7, i8, i9, i10⟩ h0
end WrongB
