/-! which fields are best sold: the parts of it -/
section ToSellB
variable {S : sT} {d c : Nat} {k : Value} {E : List dsc} {A : fA} {L : fL} {T : fT} {W : fW}
def INz (a m z g : Nat) : Bool := decide (a ≤ g) && decide (g < a + m) && z.testBit (g - a)
theorem sub_n {g a : Nat} (h : a ≤ g) (hg : g < 2 ^ 31) : nI g - nI a = nI (g - a) := by
  apply i32_ext
  rw [s32 (by rw [nI_toInt hg, nI_toInt (by omega)]; omega) (by rw [nI_toInt hg, nI_toInt (by omega)]; omega), nI_toInt hg, nI_toInt (by omega), nI_toInt (by omega)]
  omega
theorem sub_l {g a : Nat} (h : g < a) (ha : a < 2 ^ 31) : nI g - nI a < 0 := by
  rw [Int32.lt_iff_toInt_lt, s32 (by rw [nI_toInt (by omega), nI_toInt ha]; omega) (by rw [nI_toInt (by omega), nI_toInt ha]; omega), nI_toInt (by omega), nI_toInt ha]
  show _ < (0 : Int)
  omega
theorem bit_0 {m z i : Nat} (hz : z < 2 ^ m) (hi : m ≤ i) : z.testBit i = false := Nat.testBit_lt_two_pow (Nat.lt_of_lt_of_le hz (Nat.pow_le_pow_right (by decide) hi))
theorem z256 {m z : Nat} (hm : m ≤ 8) (hz : z < 2 ^ m) : z < 256 := Nat.lt_of_lt_of_le hz (Nat.pow_le_pow_right (n := 2) (by decide) hm)
theorem c_isIn {a m z g : Nat} {h : pH} (hm : m ≤ 8) (hz : z < 2 ^ m) (ha : a < 48) (hg : g < 48) : ex S (d + 1) 346 [.int (nI g), .int (nI a), .int (nI z)] h = some (.inl (some (.int (if INz a m z g = true then 1 else 0))), h) := by
  rw [x_X0_isIn, g_X0_isIn_0]
  unfold INz
  by_cases q : g < a
  · rw [if_pos (sub_l q (by omega)), q_z0]
    simp [show ¬ a ≤ g by omega]
  · rw [sub_n (by omega) (by omega), if_neg (nI_pos (by omega))]
    by_cases q8 : 8 ≤ g - a
    · rw [if_pos (show (8 : Int32) ≤ nI (g - a) from nI_le (a := 8) q8 (by omega)), q_z0]
      simp [show ¬ g < a + m by omega]
    · rw [if_neg (show ¬ (8 : Int32) ≤ nI (g - a) from nI_ge (b := 8) (by omega) (by decide)), bit_eq ⟨z, z256 hm hz⟩ ⟨g - a, by omega⟩]
      simp only
      by_cases qm : g < a + m
      · simp -implicitDefEqProofs only [show a ≤ g by omega, qm, decide_true, Bool.true_and]
        by_cases b : z.testBit (g - a) = true
        · simp -implicitDefEqProofs only [if_pos b, i1_0, if_false, q_z1]
        · simp -implicitDefEqProofs only [if_neg b, if_true, q_z0]
      · have b := bit_0 hz (show m ≤ g - a by omega)
        simp [b, qm, q_z0]
theorem r_isOf {a m z g : Nat} {h : pH} (hm : m ≤ 8) (hm1 : 1 ≤ m) (hz : z < 2 ^ m) (ha : a < 48) (hg : g < 48) : ex S (d + 2) 352 [.int (nI g), .int (nI a), .int (nI m), .int (nI z)] h = some (.inl (some (.int (if INz a m z g = true then 1 else 0))), h) := by
  rw [x_X12_isOf, g_X12_isOf_0, nI_add, show (1 : Int32) = nI 1 from rfl, sub_n (by omega) (by omega)]
  unfold INz
  by_cases q : g < a
  · rw [r_in0 (fun r => r.1 (nI_lt q (by omega))), q_I, if_pos rfl, q_z0]
    simp [show ¬ a ≤ g by omega]
  · by_cases qm : g < a + m
    · rw [r_in1 ⟨nI_nlt (by omega) (by omega), nI_nlt (by omega) (by omega)⟩, q_I, if_neg (by decide), sub_n (by omega) (by omega)]
      rw [show nI 1 = (1 : Int32) from rfl, bit_eq ⟨z, z256 hm hz⟩ ⟨g - a, by omega⟩]
      simp -implicitDefEqProofs only [show a ≤ g by omega, qm, decide_true, Bool.true_and]
      by_cases b : z.testBit (g - a) = true
      · simp -implicitDefEqProofs only [if_pos b, if_true, q_z1]
      · simp -implicitDefEqProofs only [if_neg b]; rw [if_neg (by decide), q_z0]
    · rw [r_in0 (fun r => r.2 (nI_lt (by omega) (by omega))), q_I, if_pos rfl, q_z0]
      simp [qm]
theorem c_bes {f w : Nat} {h : pH} (hf : f < 48) (hw : w < 4) : ex S (d + 1) 207 [.int (nI f), .int (nI w)] h = some (.inl (some (.int (oI (besN f (pm w))))), h) := by
  have e := bsC_eq ⟨f, hf⟩ ⟨w, hw⟩
  simp only at e
  rw [← e, x_X2_beside, g_X2_beside_0]
  unfold bsC
  obtain rfl | rfl | rfl | rfl : w = 0 ∨ w = 1 ∨ w = 2 ∨ w = 3 := by omega
  all_goals
    simp -implicitDefEqProofs only [dv_8, show ((nI 0 : Int32) = 0) = True by decide, show ((nI 0 : Int32) = 1) = False by decide, show ((nI 0 : Int32) = 2) = False by decide, show ((nI 0 : Int32) = 3) = False by decide, show ((nI 1 : Int32) = 0) = False by decide, show ((nI 1 : Int32) = 1) = True by decide, show ((nI 1 : Int32) = 2) = False by decide, show ((nI 1 : Int32) = 3) = False by decide, show ((nI 2 : Int32) = 0) = False by decide, show ((nI 2 : Int32) = 1) = False by decide, show ((nI 2 : Int32) = 2) = True by decide, show ((nI 2 : Int32) = 3) = False by decide, show ((nI 3 : Int32) = 0) = False by decide, show ((nI 3 : Int32) = 1) = False by decide, show ((nI 3 : Int32) = 2) = False by decide, show ((nI 3 : Int32) = 3) = True by decide, if_true, if_false]
    rw [g_X2_beside_25]
    simp -implicitDefEqProofs only [dv_8, show ((nI 0 : Int32) = 0) = True by decide, show ((nI 0 : Int32) = 1) = False by decide, show ((nI 1 : Int32) = 0) = False by decide, show ((nI 1 : Int32) = 1) = True by decide, show ((nI 2 : Int32) = 0) = False by decide, show ((nI 2 : Int32) = 1) = False by decide, show ((nI 3 : Int32) = 0) = False by decide, show ((nI 3 : Int32) = 1) = False by decide, if_true, if_false]
    rw [g_X2_beside_57]
    repeat' split
    all_goals rfl
theorem r_bes {f w : Nat} {h : pH} (hf : f < 48) (hw : w < 4) : ex S (d + 1) 244 [.int (nI f), .int (nI w)] h = some (.inl (some (.int (oI (besN f w)))), h) := by
  rw [x_X12_beside, g_X12_beside_0]
  have r8 : nI f - nI f / 8 * 8 = nI (f % 8) := by rw [show (8 : Int32) = nI 8 from rfl, pk_rem (by omega) (by decide) (by decide)]
  obtain rfl | rfl | rfl | rfl : w = 0 ∨ w = 1 ∨ w = 2 ∨ w = 3 := by omega
  · simp -implicitDefEqProofs only [show ((nI 0 : Int32) = 0) = True by decide, if_true]
    rw [g_X12_beside_28]
    unfold besN
    by_cases q : f < 8
    · rw [if_pos (show nI f < 8 from nI_lt (b := 8) q (by decide)), if_pos q]; rfl
    · rw [if_neg (show ¬ nI f < 8 from nI_nlt (b := 8) (by omega) (by omega)), if_neg q, show (8 : Int32) = nI 8 from rfl, sub_n (by omega) (by omega)]; rfl
  · simp -implicitDefEqProofs only [show ((nI 1 : Int32) = 0) = False by decide, show ((nI 1 : Int32) = 1) = True by decide, if_true, if_false]
    rw [g_X12_beside_43]
    simp -implicitDefEqProofs only [dv_8, r8]
    unfold besN
    by_cases q : f % 8 = 0
    · rw [q, if_pos (by decide), if_pos rfl]; rfl
    · rw [if_neg (show ¬ nI (f % 8) ≤ 0 from nI_nle (by omega) (by omega)), if_neg q, show (1 : Int32) = nI 1 from rfl, sub_n (by omega) (by omega)]; rfl
  · simp -implicitDefEqProofs only [show ((nI 2 : Int32) = 0) = False by decide, show ((nI 2 : Int32) = 1) = False by decide, show ((nI 2 : Int32) = 2) = True by decide, if_true, if_false]
    rw [g_X12_beside_58]
    simp -implicitDefEqProofs only [dv_8, r8]
    unfold besN
    by_cases q : f % 8 = 7
    · rw [q, if_pos (by decide), if_pos rfl]; rfl
    · rw [if_neg (show ¬ (7 : Int32) ≤ nI (f % 8) from nI_ge (b := 7) (by omega) (by decide)), if_neg q, nI_p1]; rfl
  · simp -implicitDefEqProofs only [show ((nI 3 : Int32) = 0) = False by decide, show ((nI 3 : Int32) = 1) = False by decide, show ((nI 3 : Int32) = 2) = False by decide, if_true, if_false]
    rw [g_X12_beside_75]
    unfold besN
    by_cases q : 40 ≤ f
    · rw [if_pos (show (40 : Int32) ≤ nI f from nI_le (a := 40) q (by omega)), if_pos q]; rfl
    · rw [if_neg (show ¬ (40 : Int32) ≤ nI f from nI_ge (b := 40) (by omega) (by decide)), if_neg q, nI_p8]; rfl
/-- the fields' worth together -/
def wtS (W : fW) (a m z : Nat) : Int32 := sumI (fun i => if z.testBit i = true then worthW W (a + i) else 0) m
theorem sumI_z {g : Nat → Int32} {m q : Nat} (h : m ≤ q) (h0 : ∀ i, m ≤ i → i < q → g i = 0) : sumI g q = sumI g m := by
  obtain ⟨r, rfl⟩ : ∃ r, q = m + r := ⟨q - m, by omega⟩
  induction r with
  | zero => rfl
  | succ r ih =>
    show sumI g (m + r) + g (m + r) = _
    rw [ih (by omega) (fun i h1 h2 => h0 i h1 (by omega)), h0 (m + r) (by omega) (by omega), Int32.add_zero]
theorem c_wTog {a m z : Nat} (hm : m ≤ 8) (hz : z < 2 ^ m) (ha : a + m ≤ 48) (hm1 : 1 ≤ m) (hL : LkL (A 10) W) : ex S (d + 5) 347 [.ref 4, .int (nI a), .int (nI z)] (Hh k E A L T) = some (.inl (some (.int (wtS W a m z))), Hh k E A L T) := by
  rw [x_X0_worthTogether, g_X0_worthTogether_0]
  obtain ⟨q, hq⟩ : ∃ q, q = min 8 (48 - a) := ⟨_, rfl⟩
  have e0 : wtS W a m z = sumI (fun i => if INz a m z (a + i) = true then worthW W (a + i) else 0) q := by
    have e1 : sumI (fun i => if INz a m z (a + i) = true then worthW W (a + i) else 0) q = sumI (fun i => if INz a m z (a + i) = true then worthW W (a + i) else 0) m := by
      refine sumI_z (by omega) (fun i h1 h2 => ?_)
      have : INz a m z (a + i) = false := by unfold INz; simp [show ¬ i < m by omega]
      simp [this]
    rw [e1]
    unfold wtS
    refine sumI_congr (fun i hi => ?_)
    have : INz a m z (a + i) = z.testBit i := by unfold INz; simp [hi]
    rw [this]
  rw [e0]
  refine loop_Q (α := Unit) (F := fun g i _ => bd S (ex S (d + 4)) dflT E_X0_worthTogether g 5 [some (.ref 4), some (.int (nI a)), some (.int (nI z)), some (.int (sumI (fun i => if INz a m z (a + i) = true then worthW W (a + i) else 0) i)), some (.int (nI (a + i)))] [] (Hh k E A L T)) (N := q) (P := fun _ _ => True) (Q := fun r => r = _) ?_ ?_ (s := ()) trivial (by omega)
  · intro g i _ hi _
    have g1 : ¬ nI a + 8 ≤ nI (a + i) := by rw [nI_p8]; exact nI_ge (by omega) (by omega)
    have g2 : ¬ (48 : Int32) ≤ nI (a + i) := nI_ge (b := 48) (by omega) (by decide)
    have e : sumI (fun i => if INz a m z (a + i) = true then worthW W (a + i) else 0) (i + 1) = sumI (fun i => if INz a m z (a + i) = true then worthW W (a + i) else 0) i + (if INz a m z (a + i) = true then worthW W (a + i) else 0) := rfl
    right
    refine ⟨(), ?_, trivial⟩
    rw [g_X0_worthTogether_5]
    simp -implicitDefEqProofs only [if_neg g1, if_neg g2, c_isIn (S := S) (d := d + 3) hm hz (show a < 48 by omega) (show a + i < 48 by omega), q_I, nI_p1, e]
    by_cases b : INz a m z (a + i) = true
    · simp -implicitDefEqProofs only [if_pos b, i1_0, if_false, hv_4_1, hc_9, c_worth hL (show a + i < 48 by omega), q_I]
      rfl
    · simp -implicitDefEqProofs only [if_neg b, if_true]
      rfl
  · intro g _ _
    rw [g_X0_worthTogether_5]
    by_cases h8 : q = 8
    · rw [h8, if_pos (by rw [nI_p8]; exact Int32.le_refl _)]
    · have : a + q = 48 := by omega
      rw [this]
      split
      · rfl
      · rw [if_pos (by decide)]
end ToSellB
