/-! FIELDS and HOLDINGS: what is read of them -/
section LandB
variable {S : sT} {d c : Nat} {k : Value} {E : List dsc} {A : fA} {L : fL} {T : fT} {W : fW}
theorem aO_g {n : Nat} (hn : n < 6) {κ : Int32 → rO} : aO (.retAddr 1) (nI n) κ = κ (([0, 8, 7, 6, 5, 0] : List Int32).getD n 0) := by
  have h1 : ¬ (nI n < 0 ∨ 6 ≤ (nI n).toNatClampNeg) := nI_in hn (by decide)
  show (if ¬ (nI n < 0 ∨ 6 ≤ (nI n).toNatClampNeg) then κ (([0, 8, 7, 6, 5, 0] : List Int32).getD (nI n).toNatClampNeg 0) else none) = _
  rw [if_pos h1, nI_clamp (by omega)]
theorem aO_w {n : Nat} (hn : n < 6) {κ : Int32 → rO} : aO (.retAddr 2) (nI n) κ = κ (([0, 2, 1, -1, -2, -3] : List Int32).getD n 0) := by
  have h1 : ¬ (nI n < 0 ∨ 6 ≤ (nI n).toNatClampNeg) := nI_in hn (by decide)
  show (if ¬ (nI n < 0 ∨ 6 ≤ (nI n).toNatClampNeg) then κ (([0, 2, 1, -1, -2, -3] : List Int32).getD (nI n).toNatClampNeg 0) else none) = _
  rw [if_pos h1, nI_clamp (by omega)]
/-- worth -/
def grd (W : fW) (f : Nat) : Int32 := ((((20 * W (8 + 14 * f + 0)) + 100) - (5 * W (8 + 14 * f + 2))) - (if W (8 + 14 * f + 4) ≤ 0 then 10 * W (8 + 14 * f + 1) else 0)) - (30 * W (8 + 14 * f + 8))
def worthW (W : fW) (f : Nat) : Int32 := (if (10 : Int32) < grd W f then grd W f else 10) + W (8 + 14 * f + 7) * W (8 + 14 * f + 7)
theorem c_timber {f : Nat} (hL : LkL (A 10) W) (hf : f < 48) : ex S (d + 3) 258 [.ref 9, .int (nI f)] (Hh k E A L T) = some (.inl (some (.int (W (8 + 14 * f + 7) * W (8 + 14 * f + 7)))), Hh k E A L T) := by
  simp -implicitDefEqProofs only [x_X2_timberOf, g_X2_timberOf_0, hc_9, gL_7 hL hf, q_I]
theorem c_worth {f : Nat} (hL : LkL (A 10) W) (hf : f < 48) : ex S (d + 4) 259 [.ref 9, .int (nI f)] (Hh k E A L T) = some (.inl (some (.int (worthW W f))), Hh k E A L T) := by
  simp -implicitDefEqProofs only [x_X2_worthOf, g_X2_worthOf_0, g_X2_worthOf_19, hc_9, gL_0 hL hf, gL_1 hL hf, gL_2 hL hf, gL_4 hL hf, gL_8 hL hf, c_timber hL hf, q_I]
  unfold worthW grd
  have e1 : ∀ x : Int32, (20 * x) + 100 = 100 + 20 * x := fun x => Int32.add_comm _ _
  simp -implicitDefEqProofs only [e1]
  split
  · rfl
  · rfl
theorem r_worth {f : Nat} (hf : f < 48) : ex S (d + 3) 262 [.ref 39, .int (nI f)] (Hh k E A L T) = some (.inl (some (.int (worthW (A 40) f))), Hh k E A L T) := by
  simp -implicitDefEqProofs only [x_X12_worthOf, g_X12_worthOf_0, g_X12_worthOf_43, hc_39, ro_0 hf, ro_1 hf, ro_2 hf, ro_4 hf, ro_7 hf, ro_8 hf, q_I]
  unfold worthW grd
  split <;> rfl
/-- what a crop would yield ahead of what game eats -/
def growV (W : fW) (f : Nat) (g rain : Int32) : Int32 := ((((g + W (8 + 14 * f + 0)) + rain) + (if W (8 + 14 * f + 5) ≤ 0 then 0 else 2)) - (W (8 + 14 * f + 2) / 2)) - (if W (8 + 14 * f + 4) ≤ 0 then W (8 + 14 * f + 1) else W (8 + 14 * f + 1) / 3) - (2 * W (8 + 14 * f + 8))
def growW (W : fW) (f : Nat) (cr rain : Int32) : Int32 := if cr < 1 then 0 else if 4 < cr then 0 else if (0 : Int32) < growV W f (9 - cr) rain then growV W f (9 - cr) rain else 0
theorem grows_eq {n : Nat} (h0 : 0 < n) (hn : n < 5) : ([0, 8, 7, 6, 5, 0] : List Int32).getD n 0 = 9 - nI n := by
  match n, h0, hn with
  | 1, _, _ => decide
  | 2, _, _ => decide
  | 3, _, _ => decide
  | 4, _, _ => decide
theorem crop_c (x : Int32) : x < 1 ∨ 4 < x ∨ ∃ n, 0 < n ∧ n < 5 ∧ x = nI n := by
  by_cases h1 : x < 1
  · exact Or.inl h1
  · by_cases h2 : 4 < x
    · exact Or.inr (Or.inl h2)
    · obtain ⟨n, hn, rfl⟩ := wi_n (M := 4) (by decide) ⟨fun q => h1 (Int32.lt_trans q (by decide)), h2⟩
      refine Or.inr (Or.inr ⟨n, ?_, by omega, rfl⟩)
      rcases Nat.eq_zero_or_pos n with q | q
      · subst q; exact absurd (by decide) h1
      · exact q
theorem c_grow {f : Nat} {cr rain : Int32} (hL : LkL (A 10) W) (hf : f < 48) : ex S (d + 3) 185 [.ref 9, .int (nI f), .int cr, .int rain] (Hh k E A L T) = some (.inl (some (.int (growW W f cr rain))), Hh k E A L T) := by
  unfold growW
  rcases crop_c cr with h | h | ⟨n, h0, hn, rfl⟩
  · simp -implicitDefEqProofs only [x_X2_growthOf, g_X2_growthOf_0, if_pos h]
  · have h1 : ¬ cr < 1 := fun q => absurd (Int32.lt_trans h q) (by decide)
    have h2 : ¬ cr < 5 := by
      rw [Int32.lt_iff_toInt_lt] at h ⊢
      have e1 : (4 : Int32).toInt = 4 := rfl
      have e2 : (5 : Int32).toInt = 5 := rfl
      omega
    simp -implicitDefEqProofs only [x_X2_growthOf, g_X2_growthOf_0, if_neg h1, if_neg h2, if_pos h]
  · have h1 : ¬ nI n < 1 := nI_nlt (b := 1) (by omega) (by omega)
    have h2 : nI n < 5 := nI_lt (b := 5) (by omega) (by decide)
    have h3 : ¬ (4 : Int32) < nI n := nI_nlt (a := 4) (by omega) (by decide)
    simp -implicitDefEqProofs only [x_X2_growthOf, g_X2_growthOf_0, g_X2_growthOf_54, if_neg h1, if_pos h2, if_neg h3, hc_9, gL_0 hL hf, gL_1 hL hf, gL_2 hL hf, gL_4 hL hf, gL_5 hL hf, gL_8 hL hf, q_I, dv_2, dv_3, aO_g (show n < 6 by omega), grows_eq h0 hn, growV]
    split <;> split <;> rfl
theorem r_grow {f : Nat} {cr rain : Int32} (hf : f < 48) : ex S (d + 3) 233 [.ref 39, .int (nI f), .int cr, .int rain] (Hh k E A L T) = some (.inl (some (.int (growW (A 40) f cr rain))), Hh k E A L T) := by
  unfold growW
  by_cases q : wi cr 1 4
  · simp -implicitDefEqProofs only [x_X12_yieldOf, g_X12_yieldOf_0, g_X12_yieldOf_38, r_in1 q, q_I, i1_0, if_false, if_neg q.1, if_neg q.2, hc_39, ro_0 hf, ro_1 hf, ro_2 hf, ro_4 hf, ro_5 hf, ro_8 hf, dv_2, dv_3, growV]
    split <;> split <;> rfl
  · simp -implicitDefEqProofs only [x_X12_yieldOf, g_X12_yieldOf_0, r_in0 q, q_I, i0_0, if_true]
    by_cases q1 : cr < 1
    · rw [if_pos q1]
    · by_cases q2 : 4 < cr
      · rw [if_neg q1, if_pos q2]
      · exact absurd ⟨q1, q2⟩ q
/-- in the rectangle of two corners -/
def btw (n a b : Int32) : Int32 := if n < (if b < a then b else a) then 0 else if (if a < b then b else a) < n then 0 else 1
def inW (x a b : Int32) : Int32 := if btw (x - x / 8 * 8) (a - a / 8 * 8) (b - b / 8 * 8) = 0 then 0 else if btw (x / 8) (a / 8) (b / 8) = 0 then 0 else 1
theorem btw_c (n a b : Int32) : btw n a b = 0 ∨ btw n a b = 1 := by
  unfold btw
  generalize (if b < a then b else a) = u
  generalize (if a < b then b else a) = v
  split
  · exact Or.inl rfl
  · split
    · exact Or.inl rfl
    · exact Or.inr rfl
theorem c_btw {n a b : Int32} {h : pH} : ex S (d + 1) 94 [.int n, .int a, .int b] h = some (.inl (some (.int (btw n a b))), h) := by
  simp -implicitDefEqProofs only [x_X2_isBetween, g_X2_isBetween_0, q_z0, q_z1, btw]
  generalize (if b < a then b else a) = u
  generalize (if a < b then b else a) = v
  split
  · rfl
  · split <;> rfl
theorem c_within {x a b : Int32} {h : pH} : ex S (d + 2) 95 [.int x, .int a, .int b] h = some (.inl (some (.int (inW x a b))), h) := by
  simp -implicitDefEqProofs only [x_X2_isWithin, g_X2_isWithin_0, dv_8, c_btw, q_I, q_z0, q_z1, inW]
  split
  · rfl
  · split <;> rfl
theorem r_btw {n a b : Int32} {h : pH} : ex S (d + 1) 28 [.int n, .int (if b < a then b else a), .int (if a < b then b else a)] h = some (.inl (some (.int (btw n a b))), h) := by
  simp -implicitDefEqProofs only [x_X12_in, g_X12_in_0, q_z0, q_z1, btw]
  generalize (if b < a then b else a) = u
  generalize (if a < b then b else a) = v
  split
  · rfl
  · split <;> rfl
theorem r_isIn {x a b : Int32} {h : pH} : ex S (d + 2) 146 [.int x, .int a, .int b] h = some (.inl (some (.int (inW x a b))), h) := by
  simp -implicitDefEqProofs only [x_X12_isIn, g_X12_isIn_0, dv_8, r_btw, q_I, q_z0, q_z1, inW]
  split
  · rfl
  · split <;> rfl
/-- whose a field is -/
def holW (W : fW) (f : Nat) : Option Nat := if W (8 + 14 * f + 10) < 0 then none else some (W (8 + 14 * f + 10)).toNatClampNeg
theorem hol_c {f : Nat} (hI : IvF W f) (hh : hn W ≤ 24) : (W (8 + 14 * f + 10) = -1 ∧ holW W f = none ∧ W (8 + 14 * f + 3) = 0) ∨ ∃ h, h < hn W ∧ h < 24 ∧ W (8 + 14 * f + 10) = nI h ∧ holW W f = some h := by
  obtain ⟨-, -, -, -, -, -, -, -, -, a, -⟩ := hI
  rcases a with ⟨a, b⟩ | ⟨h, h1, h2, -⟩
  · exact Or.inl ⟨a, by unfold holW; rw [a]; rfl, b⟩
  · exact Or.inr ⟨h, h1, by omega, h2, by unfold holW; rw [h2, if_neg (nI_pos (by omega)), nI_clamp (by omega)]⟩
def kindW (W : fW) (f : Nat) : Int32 := match holW W f with | none => -1 | some h => W (1684 + 11 * h + 0)
theorem c_kindAt {f : Nat} (hL : LkL (A 10) W) (hC : ∀ h, h < hn W → LkC (A 12) W h) (hI : IvF W f) (hh : hn W ≤ 24) (hf : f < 48) : ex S (d + 3) 160 [.ref 4, .int (nI f)] (Hh k E A L T) = some (.inl (some (.int (kindW W f))), Hh k E A L T) := by
  simp -implicitDefEqProofs only [x_X0_kindAt, g_X0_kindAt_0, hv_4_1, hv_4_2, hc_9, gL_10 hL hf, q_I]
  unfold kindW
  rcases hol_c hI hh with ⟨e1, e2, -⟩ | ⟨h, h1, h2, e1, e2⟩
  · rw [e1, e2, if_pos rfl]
  · rw [e1, e2, if_neg (fun q => absurd (q ▸ nI_pos' (show h < 2 ^ 31 by omega)) (by decide))]
    simp -implicitDefEqProofs only [hc_11, gH_0 (hC h h1) h2, q_I]
theorem r_kindOf {f : Nat} (hI : IvF (A 40) f) (hh : hn (A 40) ≤ 24) (hf : f < 48) : ex S (d + 3) 166 [.ref 39, .int (nI f)] (Hh k E A L T) = some (.inl (some (.int (kindW (A 40) f))), Hh k E A L T) := by
  simp -implicitDefEqProofs only [x_X12_kindOf, g_X12_kindOf_0, hc_39, ro_10 hf, q_I]
  unfold kindW
  rcases hol_c hI hh with ⟨e1, e2, -⟩ | ⟨h, h1, h2, e1, e2⟩
  · rw [e1, e2, if_neg (by decide)]
  · rw [e1, e2, if_pos (nI_pos' (by omega))]
    simp -implicitDefEqProofs only [hc_39, ri_0 h2, q_I]
theorem c_sold {f : Nat} (hL : LkL (A 10) W) (hI : IvF W f) (hf : f < 48) : ex S (d + 3) 24 [.ref 9, .int (nI f)] (Hh k E A L T) = some (.inl (some (.int (W (8 + 14 * f + 11)))), Hh k E A L T) := by
  simp -implicitDefEqProofs only [x_X2_isSold, g_X2_isSold_0, hc_9, gL_11 hL hf, q_I, q_z0, q_z1]
  obtain ⟨-, -, -, -, -, -, -, -, -, -, a, -⟩ := hI
  rcases a with a | ⟨a, -⟩
  · rw [a, if_pos rfl]
  · rw [a, if_neg (by decide)]
def letW (W : fW) (h : Nat) : Int32 := if 1 < W (1684 + 11 * h + 0) then 0 else 1
theorem let_c {h : Nat} (hI : IvH W h) : (letW W h = 1 ∧ (W (1684 + 11 * h + 0) = 0 ∨ W (1684 + 11 * h + 0) = 1)) ∨ (letW W h = 0 ∧ W (1684 + 11 * h + 0) ≠ 0 ∧ W (1684 + 11 * h + 0) ≠ 1) := by
  obtain ⟨n, hn, -, e⟩ := rg_of (b := 5) hI.1
  unfold letW
  rw [e]
  match n, hn with
  | 0, _ | 1, _ | 2, _ | 3, _ | 4, _ | 5, _ => decide
theorem c_isLet {h : Nat} (hC : LkC (A 12) W h) (hI : IvH W h) (hh : h < 24) : ex S (d + 3) 174 [.ref 11, .int (nI h)] (Hh k E A L T) = some (.inl (some (.int (letW W h))), Hh k E A L T) := by
  simp -implicitDefEqProofs only [x_X1_isLet, g_X1_isLet_0, hc_11, gH_0 hC hh, q_I, q_z0, q_z1]
  rcases let_c hI with ⟨e, e1 | e1⟩ | ⟨e, e1, e2⟩
  · rw [e, if_pos e1]
  · rw [e, e1, if_neg (by decide), if_pos rfl]
  · rw [e, if_neg e1, if_neg e2]
theorem r_isLet {h : Nat} (hh : h < 24) : ex S (d + 3) 178 [.ref 39, .int (nI h)] (Hh k E A L T) = some (.inl (some (.int (letW (A 40) h))), Hh k E A L T) := by
  simp -implicitDefEqProofs only [x_X12_isLet, g_X12_isLet_0, hc_39, ri_0 hh, q_I, q_z0, q_z1, letW]
  split <;> rfl
def overW (W : fW) (h : Nat) : Int32 := if fo W h = 0 then 1 else 0
theorem c_isOver {h : Nat} (hC : LkC (A 12) W h) (hh : h < 24) : ex S (d + 3) 195 [.ref 11, .int (nI h)] (Hh k E A L T) = some (.inl (some (.int (overW W h))), Hh k E A L T) := by
  simp -implicitDefEqProofs only [x_X1_isOver, g_X1_isOver_0, hc_11, gH_6 hC hh, q_I, q_z0, q_z1, overW]
  by_cases q : fo W h = 0
  · simp -implicitDefEqProofs only [if_pos q]; rfl
  · simp -implicitDefEqProofs only [if_neg q]; rfl
theorem r_fieldsOf {h : Nat} : ex S (d + 3) 172 [.ref 39, .int (nI h)] (Hh k E A L T) = some (.inl (some (.int (nI (fo (A 40) h)))), Hh k E A L T) := by
  rw [x_X12_fieldsOf, g_X12_fieldsOf_0]
  refine loop_Q (α := Unit) (F := fun m f _ => bd S (ex S (d + 2)) dflT E_X12_fieldsOf m 4 [some (.ref 39), some (.int (nI h)), some (.int (nI (cntF (fun f => A 40 (8 + 14 * f + 10) = nI h) f))), some (.int (nI f))] [] (Hh k E A L T)) (N := 48) (P := fun _ _ => True) (Q := fun r => r = some (.inl (some (.int (nI (fo (A 40) h)))), Hh k E A L T)) ?_ ?_ (s := ()) trivial (by decide)
  · intro n f _ hf _
    right
    refine ⟨(), ?_, trivial⟩
    have g0 : ¬ (48 : Int32) ≤ nI f := nI_ge hf (by decide)
    simp -implicitDefEqProofs only [g_X12_fieldsOf_4, if_neg g0, hc_39, ro_10 hf, q_I]
    rw [show cntF (fun f => A 40 (8 + 14 * f + 10) = nI h) (f + 1) = cntF (fun f => A 40 (8 + 14 * f + 10) = nI h) f + (if A 40 (8 + 14 * f + 10) = nI h then 1 else 0) by simp -implicitDefEqProofs only [cntF, decide_eq_true_eq]]
    by_cases q : A 40 (8 + 14 * f + 10) = nI h
    · rw [if_pos q, if_pos q, nI_1, nI_1]
    · simp -implicitDefEqProofs only [if_neg q, nI_1, Int32.add_zero, Nat.add_zero]
  · intro n _ _
    simp -implicitDefEqProofs only [g_X12_fieldsOf_4]
    rw [if_pos (show (48 : Int32) ≤ nI 48 by decide)]
    rfl
end LandB
