/-! loans -/
section LoanB
variable {S : sT} {d c : Nat} {k : Value} {E : List dsc} {A : fA} {L : fL} {T : fT} {W : fW}
def owW (W : fW) : Int32 := sumI (fun l => W (1949 + 4 * l)) (ln W)
theorem ow_rg (hL : IvLn W) {n : Nat} (hn : n ≤ 12) : rg (sumI (fun l => W (1949 + 4 * l)) n) 0 (100000 * n) ∧ (sumJ (fun l => (W (1949 + 4 * l)).toInt64) n).toInt = (sumI (fun l => W (1949 + 4 * l)) n).toInt := by
  induction n with
  | zero => exact ⟨by unfold rg sumI; decide, rfl⟩
  | succ n ih =>
    obtain ⟨⟨a1, a2⟩, a3⟩ := ih (by omega)
    obtain ⟨⟨b1, b2⟩, -, -⟩ := hL.2.2 n (by omega)
    have e1 : (sumI (fun l => W (1949 + 4 * l)) n + W (1949 + 4 * n)).toInt = (sumI (fun l => W (1949 + 4 * l)) n).toInt + (W (1949 + 4 * n)).toInt := a32 (by omega) (by omega)
    refine ⟨?_, ?_⟩
    · unfold rg sumI; rw [e1]; omega
    · show (sumJ (fun l => (W (1949 + 4 * l)).toInt64) n + (W (1949 + 4 * n)).toInt64).toInt = (sumI (fun l => W (1949 + 4 * l)) n + W (1949 + 4 * n)).toInt
      rw [e1, a64 (by rw [a3, w64]; omega) (by rw [a3, w64]; omega), a3, w64]
theorem c_owed (hG : LkG (A 22) (A 23) (A 24) (A 25) (A 26) W) (hL : IvLn W) : ex S (d + 1) 301 [.ref 22] (Hh k E A L T) = some (.inl (some (.int (owW W))), Hh k E A L T) := by
  obtain ⟨⟨m0, m1, m2, m3, m4, m5, m6, m8⟩, n1, n2⟩ := hG
  have l1 := hL.1
  have l2 := hL.2.1
  rw [x_X3_owedInAll, g_X3_owedInAll_0]
  unfold owW
  refine loop_Q (α := Unit) (F := fun m i _ => bd S (ex S d) dflT E_X3_owedInAll m 4 [some (.ref 22), some (.int (sumI (fun l => W (1949 + 4 * l)) i)), some (.int (nI i))] [] (Hh k E A L T)) (N := ln W) (P := fun _ _ => True) (Q := fun r => r = some (.inl (some (.int (sumI (fun l => W (1949 + 4 * l)) (ln W)))), Hh k E A L T)) ?_ ?_ (s := ()) trivial (by omega)
  · intro n i _ hi _
    right
    have g0 : ¬ nI (ln W) ≤ nI i := nI_ge hi (by omega)
    simp -implicitDefEqProofs only [g_X3_owedInAll_4, hg_22_8, m8, l1, if_neg g0, hv_22_11, an_26 (show i < 12 by omega), (n2 i (by omega)).1, nI_p1]
    exact ⟨(), rfl, trivial⟩
  · intro n _ _
    rw [g_X3_owedInAll_4]
    simp -implicitDefEqProofs only [hg_22_8, m8, l1, if_pos (Int32.le_refl (nI (ln W)))]
theorem r_owed (hL : IvLn (A 40)) : ex S (d + 2) 305 [.ref 39] (Hh k E A L T) = some (.inl (some (.int (owW (A 40)))), Hh k E A L T) := by
  have l1 := hL.1
  have l2 := hL.2.1
  rw [x_X12_owedOnLoans, g_X12_owedOnLoans_0]
  have ek : kp (sumJ (fun l => (A 40 (1949 + 4 * l)).toInt64) (ln (A 40))) = owW (A 40) := by
    obtain ⟨⟨a1, a2⟩, a3⟩ := ow_rg hL (n := ln (A 40)) l2
    apply i32_ext
    unfold owW
    rw [kp_toInt, a3]
    omega
  refine loop_Q (α := Unit) (F := fun m i _ => bd S (ex S (d + 1)) dflT E_X12_owedOnLoans m 4 [some (.ref 39), some (.long (sumJ (fun l => (A 40 (1949 + 4 * l)).toInt64) i)), none, some (.int (nI i))] [] (Hh k E A L T)) (N := ln (A 40)) (P := fun _ _ => True) (Q := fun r => r = some (.inl (some (.int (owW (A 40)))), Hh k E A L T)) ?_ ?_ (s := ()) trivial (by omega)
  · intro n i _ hi _
    right
    have g0 : ¬ nI (ln (A 40)) ≤ nI i := nI_ge hi (by omega)
    simp -implicitDefEqProofs only [g_X12_owedOnLoans_4, hv_39_1, aw_40_1948, l1, if_neg g0, ix_1949, an_40 (show 1949 + 4 * i < 35877 by omega), nI_p1]
    exact ⟨(), rfl, trivial⟩
  · intro n _ _
    rw [g_X12_owedOnLoans_4]
    simp -implicitDefEqProofs only [hv_39_1, aw_40_1948, l1, if_pos (Int32.le_refl (nI (ln (A 40)))), r_kept, q_I, ek]
def mostW (W : fW) (s : Int32) : Int32 := numW W (llW W s 0)
theorem c_ll0 {s : Int32} (hs : rg s 10 15) (h14 : ¬ s = 14) (hI : Iv c W) (h0 : LkA 4 k E A T W) : ex S (d + 4) 91 [.ref 4, .int (vb s), .int 0] (Hh k E A L T) = some (.inl (some (.int (llW W s 0))), Hh k E A L T) := by
  have hX : LkX k E A (A 5) (T 6) (A 7) (A 8) W := h0.2.2.2.2.2.2.2
  have e : (0 : Int32) = thC s 0 := by unfold thC; rw [if_neg h14]
  have hs7 : A 4 7 = W 0 := h0.1
  have := c_lastLine (S := S) (d := d) (k := k) (E := E) (L := L) (T := T) (th := 0) hX (hp_of hI) hs
  rw [← e] at this
  simp -implicitDefEqProofs only [x_X0_lastLine, g_X0_lastLine_0, hv_4_0, hg_4_7, hs7, hc_5, this, q_I]
theorem c_borrow (hI : Iv c W) (h0 : LkA 4 k E A T W) : ex S (d + 5) 287 [.ref 4] (Hh k E A L T) = some (.inl (some (.int (mostW W 12))), Hh k E A L T) := by
  have hX : LkX k E A (A 5) (T 6) (A 7) (A 8) W := h0.2.2.2.2.2.2.2
  have := c_ll0 (S := S) (d := d) (L := L) (s := 12) (by unfold rg; decide) (by decide) hI h0
  rw [show vb 12 = 19 by decide] at this
  simp -implicitDefEqProofs only [x_X0_mostBorrowed, g_X0_mostBorrowed_0, hv_4_0, hc_4, this, q_I, hc_5, c_num hX (hp_of hI) (Xw_of hI)]
  rfl
theorem c_years (hI : Iv c W) (h0 : LkA 4 k E A T W) : ex S (d + 5) 93 [.ref 4] (Hh k E A L T) = some (.inl (some (.int (mostW W 10))), Hh k E A L T) := by
  have hX : LkX k E A (A 5) (T 6) (A 7) (A 8) W := h0.2.2.2.2.2.2.2
  have := c_ll0 (S := S) (d := d) (L := L) (s := 10) (by unfold rg; decide) (by decide) hI h0
  rw [show vb 10 = 17 by decide] at this
  simp -implicitDefEqProofs only [x_X0_yearsLet, g_X0_yearsLet_0, hv_4_0, hc_4, this, q_I, hc_5, c_num hX (hp_of hI) (Xw_of hI)]
  rfl
theorem r_most {s : Int32} (hI : Iv c (A 40)) : ∃ B, ex S (d + 6) 291 [.ref 39, .int s] (Hh k E A L T) = some (.inl (some (.int (mostW (A 40) s))), Hh k E B L T) ∧ Fo A B := by
  obtain ⟨B, e1, e2⟩ := r_lastLine (S := S) (d := d) (k := k) (E := E) (L := L) (T := T) (s := s) (th := 0) (hp_of hI).1 (Xw_of hI)
  have e40 : B 40 = A 40 := e2.1 40 (by decide) (by decide)
  refine ⟨B, ?_, e2⟩
  have rn := r_num (S := S) (d := d + 2) (k := k) (E := E) (L := L) (T := T) (A := B) (s := s) (th := 0) (by rw [e40]; exact Xw_of hI)
  rw [e40] at rn
  simp -implicitDefEqProofs only [x_X12_mostOf, g_X12_mostOf_0, hc_39, e1, q_I, rn]
  rfl
/-- a loan is taken -/
def loW (W : fW) (n r p : Int32) : fW := upd (upd (upd (upd (upd W 1948 (nI (ln W + 1))) (1949 + 4 * ln W) n) (1949 + 4 * ln W + 1) r) (1949 + 4 * ln W + 2) p) 2 (kp ((W 2).toInt64 + n.toInt64))
theorem lo_o {n r p : Int32} {j : Nat} (h2 : j ≠ 2) (h1 : j < 1948 ∨ 1997 ≤ j) (hl : ln W < 12) : loW W n r p j = W j := by
  unfold loW
  rw [upd_o h2, upd_o (by omega), upd_o (by omega), upd_o (by omega), upd_o (by omega)]
theorem lo_n {n r p : Int32} (hl : ln W < 12) : loW W n r p 1948 = nI (ln W + 1) := by
  unfold loW
  rw [upd_o (by omega), upd_o (by omega), upd_o (by omega), upd_o (by omega), upd_s]
theorem jLo {n r p : Int32} (hI : Iv c W) (hl : ln W < 12) (hn : rg n 0 100000) (hr : rg r 0 2000) (hp : rg p 0 100000) : Iv c (loW W n r p) := by
  obtain ⟨i0, i1, i2, i3, i4, i5, i6, i7, i8, i9, i10⟩ := hI
  have e : ∀ j, j ≠ 2 → (j < 1948 ∨ 1997 ≤ j) → loW W n r p j = W j := fun j h1 h2 => lo_o h1 h2 hl
  have eL : ln (loW W n r p) = ln W + 1 := by unfold ln at *; rw [lo_n hl]; exact nI_clamp (by unfold ln; omega)
  have hL : IvLn (loW W n r p) := by
    obtain ⟨a1, a2, a3⟩ := i6
    unfold IvLn
    rw [eL, lo_n hl]
    refine ⟨rfl, by omega, fun l h12 => ?_⟩
    unfold loW
    by_cases q : l = ln W
    · subst q
      rw [upd_o (by omega), upd_o (by omega), upd_o (by omega), upd_s, upd_o (i := 2) (by omega), upd_o (i := 1949 + 4 * ln W + 2) (by omega), upd_s, upd_o (i := 2) (by omega), upd_s]
      exact ⟨hn, hr, hp⟩
    · rw [upd_o (by omega), upd_o (by omega), upd_o (by omega), upd_o (by omega), upd_o (by omega), upd_o (by omega), upd_o (by omega), upd_o (by omega), upd_o (by omega), upd_o (by omega), upd_o (by omega), upd_o (by omega), upd_o (by omega), upd_o (by omega), upd_o (by omega)]
      exact a3 l h12
  have hG : IvGs c (loW W n r p) := by
    obtain ⟨a1, a2, a3, a4, a5, a6⟩ := i5
    unfold IvGs
    rw [e 1 (by omega) (by omega), e 3 (by omega) (by omega), e 4 (by omega) (by omega), e 7 (by omega) (by omega), e 6 (by omega) (by omega), show loW W n r p 2 = _ from upd_s _ _ _]
    exact ⟨a1, kp_rg _, a3, a4, a5, a6⟩
  exact ⟨Iv0_c (e 0 (by omega) (by omega)) i0, IvF_c (fun i hi => e i (by omega) (by omega)) i4.2.1 i1, IvRn_c (fun i h1 h2 => e i (by omega) (by omega)) i2, IvPr_c (by rw [e 0 (by omega) (by omega)]; exact Int32.lt_irrefl) (fun i h1 h2 => e i (by omega) (by omega)) i3, IvHs_c (fun i hi => e i (by omega) (by omega)) i4, hG, hL, IvJb_c (fun i h1 h2 => e i (by omega) (by omega)) i7, IvTb_c (fun i h1 h2 => e i (by omega) (by omega)) i8, IvRw_c (e _ (by omega) (by omega)) i9, IvXs_c (fun i h1 h2 => e i (by omega) (by omega)) i10⟩
/-- the class's cells for it -/
def loA (A : fA) (l : Nat) (n r p c2 : Int32) : fA := up (up (up (up (up A 24 l r) 25 l p) 26 l n) 22 1 c2) 22 8 (nI (l + 1))
theorem kLo {n r p : Int32} (hI : Iv c W) (hl : ln W < 12) (h0 : LkA 4 k E A T W) : LkA 4 k E (loA A (ln W) n r p (kp ((W 2).toInt64 + n.toInt64))) T (loW W n r p) := by
  obtain ⟨i0, i1, i2, i3, i4, i5, i6, i7, i8, i9, i10⟩ := hI
  obtain ⟨l0, l1, l2, l3, l4, l5, l6, l7⟩ := h0
  obtain ⟨⟨m0, m1, m2, m3, m4, m5, m6, m8⟩, n1, n2⟩ : LkG (A 22) (A 23) (A 24) (A 25) (A 26) W := l3
  have e : ∀ j, j ≠ 2 → (j < 1948 ∨ 1997 ≤ j) → loW W n r p j = W j := fun j h1 h2 => lo_o h1 h2 hl
  have hA : ∀ q, outK k q → loA A (ln W) n r p (kp ((W 2).toInt64 + n.toInt64)) q = A q := fun q hq => by have := hq.1; unfold loA; rw [up_ne (by omega), up_ne (by omega), up_ne (by omega), up_ne (by omega), up_ne (by omega)]
  refine ⟨l0.trans (e 0 (by omega) (by omega)).symm, LkL_c (fun i h1 h2 => e i (by omega) (by omega)) l1, LkM_c i3.2.1 (fun i h1 h2 => e i (by omega) (by omega)) l2, ?_, LkP_c (fun i h1 h2 => e i (by omega) (by omega)) l4, LkR_c (fun i h1 h2 => e i (by omega) (by omega)) l5, LkH_A (LkH_c i4.2.1 (fun i hi => e i (by omega) (by omega)) l6) hA, LkX_A (LkX_c i10.2.1 (fun i h1 h2 => e i (by omega) (by omega)) l7) hA⟩
  have r22 : loA A (ln W) n r p (kp ((W 2).toInt64 + n.toInt64)) (4 + 18) = upd (upd (A 22) 1 (kp ((W 2).toInt64 + n.toInt64))) 8 (nI (ln W + 1)) := by show up (up _ 22 1 _) 22 8 _ 22 = _; rw [up_eq, up_eq, up_ne (by decide), up_ne (by decide), up_ne (by decide)]
  have r24 : loA A (ln W) n r p (kp ((W 2).toInt64 + n.toInt64)) (4 + 20) = upd (A 24) (ln W) r := by show up (up (up (up _ 25 _ _) 26 _ _) 22 1 _) 22 8 _ 24 = _; rw [up_ne (by decide), up_ne (by decide), up_ne (by decide), up_ne (by decide), up_eq]
  have r25 : loA A (ln W) n r p (kp ((W 2).toInt64 + n.toInt64)) (4 + 21) = upd (A 25) (ln W) p := by show up (up (up (up _ 25 _ _) 26 _ _) 22 1 _) 22 8 _ 25 = _; rw [up_ne (by decide), up_ne (by decide), up_ne (by decide), up_eq, up_ne (by decide)]
  have r26 : loA A (ln W) n r p (kp ((W 2).toInt64 + n.toInt64)) (4 + 22) = upd (A 26) (ln W) n := by show up (up (up (up _ 25 _ _) 26 _ _) 22 1 _) 22 8 _ 26 = _; rw [up_ne (by decide), up_ne (by decide), up_eq, up_ne (by decide), up_ne (by decide)]
  refine ⟨?_, fun i hi => by rw [e _ (by omega) (by omega)]; exact n1 i hi, fun l h12 => ?_⟩
  · rw [r22, e 1 (by omega) (by omega), e 3 (by omega) (by omega), e 4 (by omega) (by omega), e 7 (by omega) (by omega), e 5 (by omega) (by omega), e 6 (by omega) (by omega), lo_n hl, show loW W n r p 2 = _ from upd_s _ _ _]
    refine ⟨?_, ?_, ?_, ?_, ?_, ?_, ?_, ?_⟩
    · rw [upd_o (by decide), upd_o (by decide)]; exact m0
    · rw [upd_o (by decide), upd_s]
    · rw [upd_o (by decide), upd_o (by decide)]; exact m2
    · rw [upd_o (by decide), upd_o (by decide)]; exact m3
    · rw [upd_o (by decide), upd_o (by decide)]; exact m4
    · rw [upd_o (by decide), upd_o (by decide)]; exact m5
    · rw [upd_o (by decide), upd_o (by decide)]; exact m6
    · rw [upd_s]
  · rw [r24, r25, r26]
    unfold loW
    by_cases q : l = ln W
    · subst q
      rw [upd_s, upd_s, upd_s, upd_o (by omega), upd_o (by omega), upd_o (by omega), upd_s, upd_o (i := 2) (by omega), upd_o (i := 1949 + 4 * ln W + 2) (by omega), upd_s, upd_o (i := 2) (by omega), upd_s]
      exact ⟨rfl, rfl, rfl⟩
    · rw [upd_o q, upd_o q, upd_o q, upd_o (by omega), upd_o (by omega), upd_o (by omega), upd_o (by omega), upd_o (by omega), upd_o (by omega), upd_o (by omega), upd_o (by omega), upd_o (by omega), upd_o (by omega), upd_o (by omega), upd_o (by omega), upd_o (by omega), upd_o (by omega), upd_o (by omega)]
      exact n2 l h12
/-- what is noted as wrong, and another cell -/
theorem err_upd {kd x y : Int32} {i m : Nat} (hm : W 6 = nI m) (h31 : m < 2 ^ 31) (h0 : i ≠ 0) (h5 : i ≠ 5) (h6 : i ≠ 6) (hi : i < 1997 ∨ 2237 ≤ i) : errW (upd W i y) kd x = upd (errW W kd x) i y := by
  unfold errW
  rw [upd_o (j := 6) (by omega), upd_o (j := 0) (by omega), upd_o (j := 5) (by omega)]
  have em : (W 6).toNatClampNeg = m := by rw [hm, nI_clamp h31]
  by_cases q : W 6 < 60
  · have q' : m < 60 := by rw [hm, show (60 : Int32) = nI 60 from rfl, nI_ltI h31 (by decide)] at q; exact q
    rw [if_pos q, if_pos q, em, upd_cm h6, upd_cm (i := i) (by omega), upd_cm (i := i) (by omega), upd_cm (i := i) (by omega), upd_cm (i := i) (by omega)]
  · rw [if_neg q, if_neg q, upd_cm h6]
theorem err_lo {kd x n r p : Int32} {m : Nat} (hm : W 6 = nI m) (h31 : m < 2 ^ 31) (hl : ln W < 12) : errW (loW W n r p) kd x = loW (errW W kd x) n r p := by
  have e1 : ln (errW W kd x) = ln W := ln_c (err_o hm h31 (by decide) (by decide))
  have e2 : errW W kd x 2 = W 2 := err_o hm h31 (by decide) (by decide)
  unfold loW
  rw [e1, e2]
  rw [err_upd (m := m) (by rw [upd_o (by omega), upd_o (by omega), upd_o (by omega), upd_o (by omega)]; exact hm) h31 (by omega) (by omega) (by omega) (by omega), err_upd (m := m) (by rw [upd_o (by omega), upd_o (by omega), upd_o (by omega)]; exact hm) h31 (by omega) (by omega) (by omega) (by omega), err_upd (m := m) (by rw [upd_o (by omega), upd_o (by omega)]; exact hm) h31 (by omega) (by omega) (by omega) (by omega), err_upd (m := m) (by rw [upd_o (by omega)]; exact hm) h31 (by omega) (by omega) (by omega) (by omega), err_upd (m := m) hm h31 (by omega) (by omega) (by omega) (by omega)]
end LoanB
