/-! rows; heirs; wrongs; what is owing; a field is told and looked at -/
section RowsB
variable {S : sT} {d c : Nat} {k : Value} {E : List dsc} {A : fA} {L : fL} {T : fT} {W : fW}
def cdB (e : Nat) : Int32 := if e = 0 then 1 else if e = 3 then 2 else 0
def cdC (e : Nat) : Int32 := if e = 3 then 1 else 0
def cdD (e : Nat) : Int32 := if e = 0 then 1 else if e = 1 then 2 else 0
def cdE (e : Nat) : Int32 := if e = 0 then 1 else if e = 1 then 2 else if e = 2 then 3 else 0
def cdF (e : Nat) : Int32 := if e = 0 then 1 else if e = 2 then 2 else 0
def cdG (e : Nat) : Int32 := if e = 1 then 1 else if e = 4 then 2 else 0
def cdH (e : Nat) : Int32 := if e = 0 then 1 else 0
theorem idx_c (x : Int32) {n : Nat} (hn : n < 2 ^ 30) : (∃ j, j < n ∧ x = nI j ∧ wi (nI j) 0 (nI n - 1)) ∨ ((x < 0 ∨ nI n ≤ x) ∧ ¬ wi x 0 (nI n - 1)) := by
  have e1 : (nI n - 1).toInt = (n : Int) - 1 := by
    have := pk_sub_toInt (a := n) (b := 1) hn (by decide)
    exact this
  rcases pk_ix x (n := n) (by omega) with h | h | ⟨j, hj, rfl⟩
  · exact Or.inr ⟨Or.inl h, fun q => q.1 h⟩
  · refine Or.inr ⟨Or.inr h, fun q => q.2 ?_⟩
    rw [Int32.lt_iff_toInt_lt, e1]
    rw [Int32.le_iff_toInt_le, nI_toInt (by omega)] at h
    omega
  · refine Or.inl ⟨j, hj, rfl, nI_pos (by omega), ?_⟩
    rw [Int32.lt_iff_toInt_lt, e1, nI_toInt (by omega)]
    omega
theorem c_ix1 {j n : Nat} {h : pH} (hj : j < n) (hn : n < 2 ^ 31) : ex S (d + 1) 19 [.int (nI j), .int (nI n)] h = some (.inl none, h) := by
  rw [x_X11_needIndex, g_X11_needIndex_0, if_neg (nI_pos (by omega)), if_pos (nI_lt hj hn)]
theorem c_ix0 {x y : Int32} {h : pH} (q : x < 0 ∨ y ≤ x) : ex S (d + 1) 19 [.int x, .int y] h = some (.inr (xnm 0), h) := by
  rw [x_X11_needIndex, g_X11_needIndex_0]
  by_cases q1 : x < 0
  · rw [if_pos q1]
  · rw [if_neg q1, if_neg (Int32.not_lt.mpr (q.resolve_left q1))]
theorem p_row (hR : Rel c k E A T) (x y : Int32) : PI c S (d + 5) k E A T 355 358 [.int x, .int y] cdB := by
  obtain ⟨h1, h2⟩ := (Rel_w hR).2.2.2.2.2.2.2.2.2.1
  obtain ⟨l1, l2, l3⟩ := Rel_r hR
  have l1' : A 33 0 = nI (rn (A 40)) := l1.trans h1
  have w1 : up A 39 0 0 40 2265 = nI (rn (A 40)) := h1
  rcases fld_c y with hy | ⟨f, hf, rfl⟩
  · refine ⟨k, E, A, T, up A 39 0 1, Rel_thr hR 1, Or.inr ⟨0, by decide, fun L => ⟨L, ?_⟩, fun L => ⟨L, some (.int 0), rfl, ?_, rfl⟩, up_ii⟩⟩
    · simp -implicitDefEqProofs only [x_X11_row, g_X11_row_0, c_f0 hy, q_Ue]
    · simp -implicitDefEqProofs only [x_X12_row, g_X12_row_0, hp_39_0, r_f0 hy, q_I, hc_39, r_thr1, i1_0, if_false, up_up]
  · rcases idx_c x (n := rn (A 40)) (by omega) with ⟨i, hi, rfl, hw⟩ | ⟨hx, hw⟩
    · refine ⟨k, E, A, T, up A 39 0 0, Rel_thr hR 0, Or.inl ⟨some (.int (A 40 (2266 + (48 * i + f)))), rfl, fun L => ⟨L, ?_⟩, fun L => ⟨L, ?_, rfl⟩, up_ii⟩⟩
      · have g0 : ¬ nI (rn (A 40)) ≤ nI i := nI_ge hi (by omega)
        have g1 : ¬ nI i < 0 := nI_pos (by omega)
        have e1 : A 34 (i * 48 + f) = A 40 (2266 + (48 * i + f)) := by rw [l2 _ (by omega), Nat.mul_comm]
        simp -implicitDefEqProofs only [x_X11_row, g_X11_row_0, c_f1 hf, q_U, if_neg g1, hv_0_1, hv_4_6, hg_33_0, l1', if_neg g0, c_k1, hv_33_1, mr_48, nI_add, an_34 (show i * 48 + f < 192 by omega), e1]
      · simp -implicitDefEqProofs only [x_X12_row, g_X12_row_0, hp_39_0, r_f1 hf, q_I, hc_39, r_thr0, i0_0, if_true, x_X12_noRow, g_X12_noRow_0, hv_39_1, aw_40_2265, w1, r_in1 hw, i1_0, if_false, q_z0, mx_48, show (2266 : Int32) = nI 2266 from rfl, nI_add, Nat.add_assoc, an_40 (show 2266 + (48 * i + f) < 35877 by omega)]
        rfl
    · refine ⟨k, E, A, T, up A 39 0 2, Rel_thr hR 2, Or.inr ⟨3, by decide, fun L => ⟨L, ?_⟩, fun L => ⟨L, some (.int 0), rfl, ?_, rfl⟩, up_ii⟩⟩
      · by_cases q1 : x < 0
        · simp -implicitDefEqProofs only [x_X11_row, g_X11_row_0, c_f1 hf, q_U, if_pos q1, c_k0, q_Ue]
        · simp -implicitDefEqProofs only [x_X11_row, g_X11_row_0, c_f1 hf, q_U, if_neg q1, hv_0_1, hv_4_6, hg_33_0, l1', if_pos (hx.resolve_left q1), c_k0, q_Ue]
      · simp -implicitDefEqProofs only [x_X12_row, g_X12_row_0, hp_39_0, r_f1 hf, q_I, hc_39, r_thr0, i0_0, if_true, x_X12_noRow, g_X12_noRow_0, hv_39_1, aw_40_2265, w1, r_in0 hw, i1_0, if_false, q_z1, r_thr1, up_up]
theorem Rel_tear (hR : Rel c k E A T) {j : Nat} (hj : j < 192) (x : Int32) : Rel (c + 1) k E (up (up (up A 34 j x) 39 0 0) 40 (2266 + j) x) T := by
  obtain ⟨i0, i1, i2, i3, i4, i5, i6, i7, i8, i9, i10⟩ := Rel_w hR
  obtain ⟨l0, l1, l2, l3, l4, l5, l6, l7⟩ := hR.2.1
  have e : ∀ i, i ≠ 2266 + j → up (up (up A 34 j x) 39 0 0) 40 (2266 + j) x 40 i = A 40 i := by intro i hi; simp -implicitDefEqProofs only [up]; (repeat rw [if_neg (by omega)])
  have hA : ∀ r, 49 ≤ r → up (up (up A 34 j x) 39 0 0) 40 (2266 + j) x r = A r := by intro r hr; funext i; simp -implicitDefEqProofs only [up]; (repeat rw [if_neg (by omega)])
  refine Rel_new hR ⟨Iv0_c (e 0 (by omega)) i0, IvF_c (fun i hi => e i (by omega)) i4.2.1 i1, IvRn_c (fun i h1 h2 => e i (by omega)) i2, IvPr_c (by rw [e 0 (by omega)]; exact Int32.lt_irrefl) (fun i h1 h2 => e i (by omega)) i3, IvHs_c (fun i hi => e i (by omega)) i4, IvGs_c (fun i h1 h2 => e i (by omega)) i5, IvLn_c (fun i h1 h2 => e i (by omega)) i6, IvJb_c (fun i h1 h2 => e i (by omega)) i7, IvTb_c (fun i h1 h2 => e i (by omega)) i8, IvRw_c (e _ (by omega)) i9, IvXs_c (fun i h1 h2 => e i (by omega)) i10⟩ ⟨l0.trans (e 0 (by omega)).symm, LkL_c (fun i h1 h2 => e i (by omega)) l1, LkM_c i3.2.1 (fun i h1 h2 => e i (by omega)) l2, LkG_c (fun i hi => e i (by omega)) l3, LkP_c (fun i h1 h2 => e i (by omega)) l4, ?_, LkH_A (LkH_c i4.2.1 (fun i hi => e i (by omega)) l6) (fun r hr => hA r hr.1), LkX_A (LkX_c i10.2.1 (fun i h1 h2 => e i (by omega)) l7) (fun r hr => hA r hr.1)⟩ rfl rfl rfl rfl rfl rfl ⟨rfl, rfl⟩ rfl hA
  obtain ⟨p1, p2, p3⟩ := l5
  refine ⟨p1.trans (e _ (by omega)).symm, fun i hi => ?_, fun i hi => by rw [e _ (by omega)]; exact p3 i hi⟩
  show up (up (up A 34 j x) 39 0 0) 40 (2266 + j) x 34 i = _
  by_cases q : i = j
  · subst q; rw [up_ii, up_ne (by decide), up_ne (by decide), up_ii]
  · rw [e _ (by omega), up_ne (by decide), up_ne (by decide), up_rr q]; exact p2 i hi
theorem p_tear (hR : Rel c k E A T) (x y m : Int32) : PI c S (d + 5) k E A T 359 361 [.int x, .int y, .int m] cdB := by
  obtain ⟨h1, h2⟩ := (Rel_w hR).2.2.2.2.2.2.2.2.2.1
  obtain ⟨l1, l2, l3⟩ := Rel_r hR
  have l1' : A 33 0 = nI (rn (A 40)) := l1.trans h1
  rcases fld_c y with hy | ⟨f, hf, rfl⟩
  · refine ⟨k, E, A, T, up A 39 0 1, Rel_thr hR 1, Or.inr ⟨0, by decide, fun L => ⟨L, ?_⟩, fun L => ⟨L, some (.int 0), rfl, ?_, rfl⟩, up_ii⟩⟩
    · simp -implicitDefEqProofs only [x_X11_tear, g_X11_tear_0, c_f0 hy, q_Ue]
    · simp -implicitDefEqProofs only [x_X12_tear, g_X12_tear_0, hp_39_0, r_f0 hy, q_I, hc_39, r_thr1, i1_0, if_false, up_up]
  · rcases idx_c x (n := rn (A 40)) (by omega) with ⟨i, hi, rfl, hw⟩ | ⟨hx, hw⟩
    · have e1 : A 34 (i * 48 + f) = A 40 (2266 + (i * 48 + f)) := by rw [l2 _ (by omega)]
      refine ⟨k, E, up A 34 (i * 48 + f) (A 40 (2266 + (i * 48 + f)) ^^^ m), T, _, Rel_tear hR (j := i * 48 + f) (by omega) (A 40 (2266 + (i * 48 + f)) ^^^ m), Or.inl ⟨some (.int (A 40 (2266 + (i * 48 + f)) ^^^ m)), rfl, fun L => ⟨L, ?_⟩, fun L => ⟨L, ?_, rfl⟩, rfl⟩⟩
      · have g0 : ¬ nI (rn (A 40)) ≤ nI i := nI_ge hi (by omega)
        have g1 : ¬ nI i < 0 := nI_pos (by omega)
        simp -implicitDefEqProofs only [x_X11_tear, g_X11_tear_0, g_X11_tear_27, c_f1 hf, q_U, if_neg g1, hv_0_1, hv_4_6, hg_33_0, l1', if_neg g0, c_k1, hv_33_1, q_nr, mr_48, nI_add, an_34 (show i * 48 + f < 192 by omega), sn_34 (show i * 48 + f < 192 by omega), e1, up_ii]
      · have w1 : up (up A 34 (i * 48 + f) (A 40 (2266 + (i * 48 + f)) ^^^ m)) 39 0 0 40 2265 = nI (rn (A 40)) := h1
        have w2 : up (up A 34 (i * 48 + f) (A 40 (2266 + (i * 48 + f)) ^^^ m)) 39 0 0 40 (2266 + (i * 48 + f)) = A 40 (2266 + (i * 48 + f)) := rfl
        simp -implicitDefEqProofs only [x_X12_tear, g_X12_tear_0, hp_39_0, r_f1 hf, q_I, hc_39, r_thr0, i0_0, if_true, x_X12_noRow, g_X12_noRow_0, hv_39_1, aw_40_2265, w1, r_in1 hw, i1_0, if_false, q_z0, q_nr, mx_48, Nat.mul_comm 48 i, show (2266 : Int32) = nI 2266 from rfl, nI_add, Nat.add_assoc, an_40 (show 2266 + (i * 48 + f) < 35877 by omega), sn_40 (show 2266 + (i * 48 + f) < 35877 by omega), w2, up_ii]
    · refine ⟨k, E, A, T, up A 39 0 2, Rel_thr hR 2, Or.inr ⟨3, by decide, fun L => ⟨L, ?_⟩, fun L => ⟨L, some (.int 0), rfl, ?_, rfl⟩, up_ii⟩⟩
      · by_cases q1 : x < 0
        · simp -implicitDefEqProofs only [x_X11_tear, g_X11_tear_0, g_X11_tear_27, c_f1 hf, q_U, if_pos q1, c_k0, q_Ue]
        · simp -implicitDefEqProofs only [x_X11_tear, g_X11_tear_0, g_X11_tear_27, c_f1 hf, q_U, if_neg q1, hv_0_1, hv_4_6, hg_33_0, l1', if_pos (hx.resolve_left q1), c_k0, q_Ue]
      · have w1 : up A 39 0 0 40 2265 = nI (rn (A 40)) := h1
        simp -implicitDefEqProofs only [x_X12_tear, g_X12_tear_0, hp_39_0, r_f1 hf, q_I, hc_39, r_thr0, i0_0, if_true, x_X12_noRow, g_X12_noRow_0, hv_39_1, aw_40_2265, w1, r_in0 hw, i1_0, if_false, q_z1, r_thr1, up_up]
/-- the first place of rows that isn't what it was -/
def fsF (W : fW) : Nat → Nat → Int32
  | 0, _ => -1
  | m + 1, i => if W (2266 + i) = W (2458 + i) then fsF W m (i + 1) else nI i
theorem p_check (hR : Rel c k E A T) : PI c S (d + 5) k E A T 363 364 [] cd0 := by
  obtain ⟨h1, h2⟩ := (Rel_w hR).2.2.2.2.2.2.2.2.2.1
  obtain ⟨l1, l2, l3⟩ := Rel_r hR
  have l1' : A 33 0 = nI (rn (A 40)) := l1.trans h1
  refine ⟨k, E, A, T, up A 39 0 0, Rel_thr hR 0, Or.inl ⟨some (.int (fsF (A 40) (rn (A 40) * 48) 0)), rfl, fun L => ⟨L, ?_⟩, fun L => ⟨L, ?_, rfl⟩, up_ii⟩⟩
  · have key : ex S (d + 4) 362 [.ref 33] (Hh k E A L T) = some (.inl (some (.int (fsF (A 40) (rn (A 40) * 48) 0))), Hh k E A L T) := by
      rw [x_X7_firstFalse, g_X7_firstFalse_0]
      refine loop_Q (α := Unit) (F := fun m i _ => bd S (ex S (d + 3)) dflT E_X7_firstFalse m 2 [some (.ref 33), some (.int (nI i))] [] (Hh k E A L T)) (N := rn (A 40) * 48) (P := fun i _ => fsF (A 40) (rn (A 40) * 48) 0 = fsF (A 40) (rn (A 40) * 48 - i) i) (Q := fun r => r = some (.inl (some (.int (fsF (A 40) (rn (A 40) * 48) 0))), Hh k E A L T)) ?_ ?_ (s := ()) rfl (by omega)
      · intro n i _ hi hp
        have g0 : ¬ nI (rn (A 40) * 48) ≤ nI i := nI_ge hi (by omega)
        obtain ⟨j, hj⟩ : ∃ j, rn (A 40) * 48 - i = j + 1 := ⟨rn (A 40) * 48 - i - 1, by omega⟩
        rw [hj] at hp
        rw [show rn (A 40) * 48 - (i + 1) = j by omega]
        have e : fsF (A 40) (j + 1) i = if A 40 (2266 + i) = A 40 (2458 + i) then fsF (A 40) j (i + 1) else nI i := rfl
        rw [e] at hp
        simp -implicitDefEqProofs only [g_X7_firstFalse_2, hg_33_0, l1', mr_48, if_neg g0, hv_33_1, hv_33_2, an_34 (show i < 192 by omega), an_35 (show i < 192 by omega), l2 i (by omega), l3 i (by omega), nI_p1]
        by_cases q : A 40 (2266 + i) = A 40 (2458 + i)
        · rw [if_pos q] at hp
          right; exact ⟨(), by rw [if_pos q], hp⟩
        · rw [if_neg q] at hp
          left; rw [if_neg q, hp]
      · intro n _ hp
        rw [Nat.sub_self] at hp
        simp -implicitDefEqProofs only [g_X7_firstFalse_2, hg_33_0, l1', mr_48]
        rw [if_pos (Int32.le_refl _), hp]
        rfl
    simp -implicitDefEqProofs only [x_X11_check, g_X11_check_0, hv_0_1, hv_4_6, hc_33, key, q_I]
  · have w1 : up A 39 0 0 40 2265 = nI (rn (A 40)) := h1
    have w2 : ∀ i, up A 39 0 0 40 i = A 40 i := fun i => rfl
    rw [x_X12_check, g_X12_check_0, hp_39_0]
    refine loop_Q (α := Unit) (F := fun m i _ => bd S (ex S (d + 4)) dflT E_X12_check m 7 [some (.ref 39), some (.int (nI i))] [] (Hh k E (up A 39 0 0) L T)) (N := rn (A 40) * 48) (P := fun i _ => fsF (A 40) (rn (A 40) * 48) 0 = fsF (A 40) (rn (A 40) * 48 - i) i) (Q := fun r => r = some (.inl (some (.int (fsF (A 40) (rn (A 40) * 48) 0))), Hh k E (up A 39 0 0) L T)) ?_ ?_ (s := ()) rfl (by omega)
    · intro n i _ hi hp
      have g0 : ¬ nI (rn (A 40) * 48) ≤ nI i := nI_ge hi (by omega)
      obtain ⟨j, hj⟩ : ∃ j, rn (A 40) * 48 - i = j + 1 := ⟨rn (A 40) * 48 - i - 1, by omega⟩
      rw [hj] at hp
      rw [show rn (A 40) * 48 - (i + 1) = j by omega]
      have e : fsF (A 40) (j + 1) i = if A 40 (2266 + i) = A 40 (2458 + i) then fsF (A 40) j (i + 1) else nI i := rfl
      rw [e] at hp
      simp -implicitDefEqProofs only [g_X12_check_7, hv_39_1, aw_40_2265, w1, mx_48, Nat.mul_comm 48 (rn (A 40)), if_neg g0, show (2266 : Int32) = nI 2266 from rfl, show (2458 : Int32) = nI 2458 from rfl, nI_add, an_40 (show 2266 + i < 35877 by omega), an_40 (show 2458 + i < 35877 by omega), w2, nI_p1]
      by_cases q : A 40 (2266 + i) = A 40 (2458 + i)
      · rw [if_pos q] at hp
        right; exact ⟨(), by rw [if_pos q], hp⟩
      · rw [if_neg q] at hp
        left; rw [if_neg q, hp]
    · intro n _ hp
      rw [Nat.sub_self] at hp
      simp -implicitDefEqProofs only [g_X12_check_7, hv_39_1, aw_40_2265, w1, mx_48, Nat.mul_comm 48 (rn (A 40))]
      rw [if_pos (Int32.le_refl _), hp]
      rfl
end RowsB
