/-! numbers that stand in lines; what comes of a thing; what was wrong -/
section NumsB
variable {S : sT} {d c : Nat} {k : Value} {E : List dsc} {A : fA} {L : fL} {T : fT} {W : fW}
/-- the number in a line that is told as 16 times its text and its own -/
def numW (W : fW) (x : Int32) : Int32 := if 0 ≤ x then W (tx (x.toNatClampNeg / 16) + 2 + 6 * (x.toNatClampNeg % 16) + 1) else 0
theorem cl_c {s th : Int32} (hX : Xw W) {j : Nat} (hj : j ≤ (FW W).length) : cl W s th j = -1 ∨ ∃ t n, t < xn W ∧ n < lnT W t ∧ n < 16 ∧ cl W s th j = nI (16 * t + n) ∧ W (tx t + 2 + 6 * n) = s := by
  induction j with
  | zero => exact Or.inl rfl
  | succ j ih =>
    have e : cl W s th (j + 1) = if ¬ lsT W (fl W j) s th = -1 then 16 * nI (fl W j) + lsT W (fl W j) s th else if stT W (fl W j) s = true then -1 else cl W s th j := rfl
    rw [e]
    by_cases q : ¬ lsT W (fl W j) s th = -1
    · rw [if_pos q]
      right
      obtain ⟨f1, f2⟩ := fl_at (W := W) (i := j) (by omega)
      obtain ⟨nl, nc, hw⟩ := hX.2 _ f2
      have hl := lnT_eq hw
      have h16 := hw.2.1
      rcases lst_cc (ml W (fl W j) s th) (lnT W (fl W j)) with ⟨h1, -⟩ | ⟨n, h1, h2, h3, -⟩
      · exact absurd h1 q
      · refine ⟨fl W j, n, f2, h1, by omega, ?_, ?_⟩
        · unfold lsT; rw [h2, show (16 : Int32) = nI 16 from rfl, pk_mul, nI_add]
        · unfold ml at h3; simp -implicitDefEqProofs only [Bool.and_eq_true, decide_eq_true_eq] at h3; exact h3.1
    · rw [if_neg q]
      split
      · exact Or.inl rfl
      · exact ih (by omega)
theorem ll_c {s th : Int32} (hX : Xw W) : llW W s th = -1 ∨ ∃ t n, t < xn W ∧ n < lnT W t ∧ n < 16 ∧ llW W s th = nI (16 * t + n) ∧ W (tx t + 2 + 6 * n) = s := cl_c hX (Nat.le_refl _)
theorem num_nI {t n : Nat} (ht : t < 100) (hn : n < 16) : numW W (nI (16 * t + n)) = W (tx t + 2 + 6 * n + 1) := by
  unfold numW
  rw [if_pos (nI_pos' (by omega)), nI_clamp (by omega), show (16 * t + n) / 16 = t by omega, show (16 * t + n) % 16 = n by omega]
theorem c_num {s th : Int32} (hX : LkX k E A (A 5) (T 6) (A 7) (A 8) W) (hp : W 2650 = nI (xn W) ∧ xn W ≤ 12) (hw : Xw W) : ex S (d + 2) 92 [.ref 5, .int (llW W s th)] (Hh k E A L T) = some (.inl (some (.int (numW W (llW W s th)))), Hh k E A L T) := by
  rw [x_X9_numberIn, g_X9_numberIn_0]
  rcases ll_c (s := s) (th := th) hw with e | ⟨t, n, h1, h2, h3, e, -⟩
  · rw [e, if_pos (by decide)]; rfl
  · obtain ⟨p1, p2⟩ := hp
    have g0 : ¬ nI (16 * t + n) < 0 := nI_pos (by omega)
    have g1 : nI (16 * t + n) < nI (16 * xn W) := nI_lt (by omega) (by omega)
    have d1 : nI (16 * t + n) / 16 = nI t := by
      rw [show (16 : Int32) = nI 16 from rfl, pk_div (by omega) (by decide) (by decide), show (16 * t + n) / 16 = t by omega]
    have d2 : nI (16 * t + n) - nI t * 16 = nI n := by
      rw [← d1, show (16 : Int32) = nI 16 from rfl, pk_rem (by omega) (by decide) (by decide), show (16 * t + n) % 16 = n by omega]
    obtain ⟨-, a, f3, f4⟩ := hX.2.2.1 t h1
    obtain ⟨b, nl, nc, f5⟩ := TR_X f4
    have hnl : n < nl := by rw [← lnT_eq f5.2.2.2.1]; exact h2
    rw [e, num_nI (by omega) h3, if_neg g0]
    simp -implicitDefEqProofs only [hg_5_0, hX.1, p1, show (16 : Int32) * nI (xn W) = nI (16 * xn W) from by rw [show (16 : Int32) = nI 16 from rfl, pk_mul], if_pos g1, hv_5_1, dv_16, d1, an_6 (show t < 12 by omega), f3, q_rf, q_iR, q_zr, d2, tc f5.1, c_tg1 f5 hnl, q_I]
theorem r_num {s th : Int32} (hw : Xw (A 40)) : ex S (d + 3) 145 [.ref 39, .int (llW (A 40) s th)] (Hh k E A L T) = some (.inl (some (.int (numW (A 40) (llW (A 40) s th)))), Hh k E A L T) := by
  rw [x_X12_numberOf, g_X12_numberOf_0]
  have h12 := hw.1
  rcases ll_c (s := s) (th := th) hw with e | ⟨t, n, h1, h2, h3, e, -⟩
  · rw [e, if_neg (by decide)]; rfl
  · have g0 : 0 ≤ nI (16 * t + n) := nI_pos' (by omega)
    have d1 : nI (16 * t + n) / 16 = nI t := by
      rw [show (16 : Int32) = nI 16 from rfl, pk_div (by omega) (by decide) (by decide), show (16 * t + n) / 16 = t by omega]
    have d2 : nI (16 * t + n) - nI t * 16 = nI n := by
      rw [← d1, show (16 : Int32) = nI 16 from rfl, pk_rem (by omega) (by decide) (by decide), show (16 * t + n) % 16 = n by omega]
    rw [e, num_nI (by omega) h3, if_pos g0]
    simp -implicitDefEqProofs only [hv_39_1, dv_16, d1, d2, r_lat, q_I, nI_p1, an_40 (show tx t + 2 + 6 * n + 1 < 35877 by unfold tx; omega)]
theorem num_rg {s th : Int32} (hI : Iv c W) (hs : rg s 10 15) : rg (numW W (llW W s th)) 0 999999 ∧ (s = 14 → rg (numW W (llW W s th)) 0 100) := by
  rcases ll_c (s := s) (th := th) (Xw_of hI) with e | ⟨t, n, h1, h2, h3, e, e2⟩
  · rw [e, show numW W (-1) = 0 from rfl]; constructor
    · unfold rg; decide
    · intro _; unfold rg; decide
  · have := (Xw_of hI).1
    obtain ⟨nl, nc, w⟩ := (Xw_of hI).2 t h1
    rw [lnT_eq w] at h2
    obtain ⟨-, a2, a3, -⟩ := w.2.2.2 n h2
    rw [e, num_nI (by omega) h3]
    exact ⟨a2, fun q => a3 (Or.inr (Or.inr (e2.trans q)))⟩
def partW (W : fW) (th : Int32) : Int32 := numW W (llW W 14 th)
theorem hp_of (hI : Iv c W) : W 2650 = nI (xn W) ∧ xn W ≤ 12 := ⟨hI.2.2.2.2.2.2.2.2.2.2.1, hI.2.2.2.2.2.2.2.2.2.2.2.1⟩
theorem c_llP {th : Int32} (hI : Iv c W) (hX : LkX k E A (A 5) (T 6) (A 7) (A 8) W) : ex S (d + 3) 90 [.ref 5, .int (W 0), .int 21, .int (th + 12)] (Hh k E A L T) = some (.inl (some (.int (llW W 14 th))), Hh k E A L T) := c_lastLine (s := 14) hX (hp_of hI) (by unfold rg; decide)
theorem c_part {th : Int32} (hI : Iv c W) (h0 : LkA 4 k E A T W) : ex S (d + 4) 288 [.ref 4, .int (th + 12)] (Hh k E A L T) = some (.inl (some (.int (partW W th))), Hh k E A L T) := by
  have hX : LkX k E A (A 5) (T 6) (A 7) (A 8) W := h0.2.2.2.2.2.2.2
  have hs : A 4 7 = W 0 := h0.1
  simp -implicitDefEqProofs only [x_X0_partOf, g_X0_partOf_0, hv_4_0, hg_4_7, hs, hc_5, c_llP hI hX, q_I, c_num hX (hp_of hI) (Xw_of hI)]
  rfl
theorem r_part {th : Int32} (hI : Iv c (A 40)) : ∃ B, ex S (d + 6) 247 [.ref 39, .int th] (Hh k E A L T) = some (.inl (some (.int (partW (A 40) th))), Hh k E B L T) ∧ Fo A B := by
  obtain ⟨B, e1, e2⟩ := r_lastLine (S := S) (d := d) (k := k) (E := E) (L := L) (T := T) (s := 14) (th := th) (hp_of hI).1 (Xw_of hI)
  have e40 : B 40 = A 40 := e2.1 40 (by decide) (by decide)
  refine ⟨B, ?_, e2⟩
  have rn := r_num (S := S) (d := d + 2) (k := k) (E := E) (L := L) (T := T) (A := B) (s := 14) (th := th) (by rw [e40]; exact Xw_of hI)
  rw [e40] at rn
  simp -implicitDefEqProofs only [x_X12_partOf, g_X12_partOf_0, hc_39, e1, q_I, rn]
  rfl
/-- coins that come of a thing -/
def cmQ (W : fW) (th x : Int32) : Int64 := (x.toInt64 * (partW W th).toInt64) / 100
def comW (W : fW) (th x : Int32) : fW := upd (upd W 2 (kp ((W 2).toInt64 + cmQ W th x))) 1 (kp ((W 1).toInt64 + (x.toInt64 - cmQ W th x)))
theorem cmQ_c {th x : Int32} (hI : Iv c W) : 0 ≤ x.toInt ∧ 0 ≤ (cmQ W th x).toInt ∧ (cmQ W th x).toInt ≤ x.toInt ∨ x.toInt < 0 ∧ x.toInt ≤ (cmQ W th x).toInt ∧ (cmQ W th x).toInt ≤ 0 := by
  have hp := (num_rg (th := th) hI (s := 14) (by unfold rg; decide)).2 rfl
  obtain ⟨p1, p2⟩ := hp
  have hb := b32 x
  unfold cmQ partW
  generalize numW W (llW W 14 th) = p at *
  have e100 : (100 : Int64).toInt = 100 := rfl
  by_cases hx : 0 ≤ x.toInt
  · left
    have h1 : 0 ≤ x.toInt * p.toInt := Int.mul_nonneg hx p1
    have h2 : x.toInt * p.toInt ≤ x.toInt * 100 := Int.mul_le_mul_of_nonneg_left p2 hx
    have m1 : (x.toInt64 * p.toInt64).toInt = x.toInt * p.toInt := by
      rw [m64 (by rw [w64, w64]; omega) (by rw [w64, w64]; omega), w64, w64]
    have d1 : (x.toInt64 * p.toInt64 / 100).toInt = x.toInt * p.toInt / 100 := by
      rw [Int64.toInt_div, m1, e100, Int.tdiv_eq_ediv_of_nonneg h1]
      unfold Int.bmod; simp -implicitDefEqProofs only [Nat.reducePow]; split <;> omega
    rw [d1]
    exact ⟨hx, by omega, by omega⟩
  · right
    obtain ⟨z, hz⟩ : ∃ z, x.toInt = -z := ⟨-x.toInt, by omega⟩
    rw [hz] at hb hx ⊢
    have h1 : 0 ≤ z * p.toInt := Int.mul_nonneg (by omega) p1
    have h2 : z * p.toInt ≤ z * 100 := Int.mul_le_mul_of_nonneg_left p2 (by omega)
    have m1 : (x.toInt64 * p.toInt64).toInt = -(z * p.toInt) := by
      rw [m64 (by rw [w64, w64, hz, Int.neg_mul]; omega) (by rw [w64, w64, hz, Int.neg_mul]; omega), w64, w64, hz, Int.neg_mul]
    have d1 : (x.toInt64 * p.toInt64 / 100).toInt = -(z * p.toInt / 100) := by
      rw [Int64.toInt_div, m1, e100, Int.neg_tdiv, Int.tdiv_eq_ediv_of_nonneg h1]
      unfold Int.bmod; simp -implicitDefEqProofs only [Nat.reducePow]; split <;> omega
    rw [d1]
    exact ⟨by omega, by omega, by omega⟩
theorem r64 {j : Int64} (h : -2147483648 ≤ j.toInt ∧ j.toInt ≤ 2147483647) : j.toInt32.toInt64 = j := by
  apply Int64.toInt_inj.mp
  rw [w64, Int64.toInt_toInt32]
  unfold Int.bmod; simp -implicitDefEqProofs only [Nat.reducePow]; split <;> omega
theorem cmQ_r {th x : Int32} (hI : Iv c W) : (cmQ W th x).toInt32.toInt64 = cmQ W th x ∧ (x - (cmQ W th x).toInt32).toInt64 = x.toInt64 - cmQ W th x := by
  have h1 := cmQ_c (th := th) (x := x) hI
  have hb := b32 x
  have e1 := r64 (j := cmQ W th x) ⟨by omega, by omega⟩
  refine ⟨e1, ?_⟩
  have e2 : (cmQ W th x).toInt32.toInt = (cmQ W th x).toInt := by rw [← w64, e1]
  apply Int64.toInt_inj.mp
  rw [w64, s32 (by rw [e2]; omega) (by rw [e2]; omega), e2, s64 (by rw [w64]; omega) (by rw [w64]; omega), w64]
theorem c_takeIn {th x : Int32} (hI : Iv c W) (h0 : LkA 4 k E A T W) : ∃ A', ex S (d + 4) 212 [.ref 4, .int (th + 12), .int x] (Hh k E A L T) = some (.inl none, Hh k E A' L T) ∧ LkA 4 k E A' T (comW W th x) ∧ Fr A A' := by
  have hX : LkX k E A (A 5) (T 6) (A 7) (A 8) W := h0.2.2.2.2.2.2.2
  have hs : A 4 7 = W 0 := h0.1
  obtain ⟨⟨m0, m1, -⟩, -, -⟩ : LkG (A 22) (A 23) (A 24) (A 25) (A 26) W := h0.2.2.2.1
  have j2 : Iv c (upd W 2 (kp ((W 2).toInt64 + cmQ W th x))) := jG_2 hI (kp_rg _)
  have k2 := kG_1 (x := kp ((W 2).toInt64 + cmQ W th x)) hI h0
  have k1 := kG_0 (x := kp ((W 1).toInt64 + (x.toInt64 - cmQ W th x))) j2 k2
  refine ⟨_, ?_, k1, Fr_tr (Fr_up (by decide) (by decide)) (Fr_up (by decide) (by decide))⟩
  have e0 : up A 22 1 (kp ((W 2).toInt64 + cmQ W th x)) 22 0 = W 1 := by rw [up_rr (by decide)]; exact m0
  simp -implicitDefEqProofs only [x_X0_takeIn, g_X0_takeIn_0, hv_4_0, hg_4_7, hs, hc_5, c_llP hI hX, q_I, c_num hX (hp_of hI) (Xw_of hI), dvJ_100, hv_4_4, hc_22]
  rw [show (x.toInt64 * (numW W (llW W 14 th)).toInt64) / 100 = cmQ W th x from rfl, c_addC (W := W) m1]
  simp -implicitDefEqProofs only [q_U, hv_4_4, hc_22]
  rw [c_addI (W := W) e0]
  simp -implicitDefEqProofs only [q_U]
theorem r_comes {th x : Int32} (hI : Iv c (A 40)) : ∃ B, ex S (d + 7) 249 [.ref 39, .int th, .int x] (Hh k E A L T) = some (.inl none, Hh k E B L T) ∧ B 40 = comW (A 40) th x ∧ Fg A B := by
  obtain ⟨B, e1, e2⟩ := r_part (S := S) (d := d) (k := k) (E := E) (L := L) (T := T) (th := th) hI
  have e40 : B 40 = A 40 := e2.1 40 (by decide) (by decide)
  obtain ⟨q1, q2⟩ := cmQ_r (th := th) (x := x) hI
  refine ⟨up (up B 40 2 (kp ((A 40 2).toInt64 + cmQ (A 40) th x))) 40 1 (kp ((A 40 1).toInt64 + (x.toInt64 - cmQ (A 40) th x))), ?_, ?_, Fg_tr (Fo_g e2) (Fg_tr Fg_up Fg_up)⟩
  · simp -implicitDefEqProofs only [x_X12_comes, g_X12_comes_0, hc_39, e1, q_I, dvJ_100]
    rw [show (x.toInt64 * (partW (A 40) th).toInt64) / 100 = cmQ (A 40) th x from rfl, q1, q2]
    simp -implicitDefEqProofs only [r_cap, r_inc, q_U, hc_39, e40, up_rr (show (1 : Nat) ≠ 2 by decide)]
  · rw [up40, up40, e40]; rfl
theorem jCom {th x : Int32} (hI : Iv c W) : Iv c (comW W th x) := jG_1 (jG_2 hI (kp_rg _)) (kp_rg _)
end NumsB
