/-! which fields are best sold: pairs that part -/
section ToSellC
variable {S : sT} {d c : Nat} {k : Value} {E : List dsc} {A : fA} {L : fL} {T : fT} {W : fW}
def pt1 (W : fW) (a m z f w : Nat) : Int32 := match besN f w with
  | none => 0
  | some g => if W (8 + 14 * g + 11) = 0 ∧ INz a m z g = false then 1 else 0
def ptF (W : fW) (a m z f : Nat) : Int32 := if INz a m z f = true then sumI (pt1 W a m z f) 4 else 0
def ptS (W : fW) (a m z : Nat) : Int32 := sumI (ptF W a m z) 48
theorem pm_sum (g : Nat → Int32) : sumI (fun w => g (pm w)) 4 = sumI g 4 := by
  show (((0 + g (pm 0)) + g (pm 1)) + g (pm 2)) + g (pm 3) = (((0 + g 0) + g 1) + g 2) + g 3
  show (((0 + g 0) + g 3) + g 2) + g 1 = (((0 + g 0) + g 1) + g 2) + g 3
  ac_rfl
theorem ptS_off {a m z : Nat} (ha : a + m ≤ 48) (hm : m ≤ 8) : sumI (fun i => ptF W a m z (a + i)) (min 8 (48 - a)) = ptS W a m z := by
  have z1 : ∀ f, (f < a ∨ a + m ≤ f) → ptF W a m z f = 0 := by
    intro f h
    unfold ptF
    rw [if_neg]
    unfold INz
    rcases h with h | h
    · simp [show ¬ a ≤ f by omega]
    · simp [show ¬ f < a + m by omega]
  unfold ptS
  rw [sumI_z (m := m) (by omega) (fun i h1 h2 => z1 (a + i) (by omega)), sumI_z (g := ptF W a m z) (m := a + m) (by omega) (fun i h1 h2 => z1 i (by omega)), ← sumI_off (fun f => ptF W a m z f) a m]
  refine sumI_congr (fun f hf => ?_)
  by_cases q : f < a
  · rw [if_pos q]; exact (z1 f (by omega)).symm
  · rw [if_neg q]
theorem oI_ne {f w g : Nat} (hf : f < 48) (h : besN f w = some g) : oI (besN f w) = nI g ∧ g < 48 ∧ ¬ nI g = -1 ∧ ¬ nI g < 0 := by
  have hg := bes_lt hf h
  rw [h]
  exact ⟨rfl, hg, nI_m1 (by omega), nI_pos (by omega)⟩
theorem c_pairs {a m z : Nat} (hm : m ≤ 8) (hz : z < 2 ^ m) (ha : a + m ≤ 48) (hm1 : 1 ≤ m) (hL : LkL (A 10) W) (hF : ∀ f, f < 48 → IvF W f) : ex S (d + 5) 348 [.ref 4, .int (nI a), .int (nI z)] (Hh k E A L T) = some (.inl (some (.int (ptS W a m z))), Hh k E A L T) := by
  rw [x_X0_partedPairs, g_X0_partedPairs_0, ← ptS_off ha hm]
  obtain ⟨q, hq⟩ : ∃ q, q = min 8 (48 - a) := ⟨_, rfl⟩
  rw [← hq]
  refine loop_QK (K := 8) (α := Option Value × Option Value) (F := fun g i o => bd S (ex S (d + 4)) dflT E_X0_partedPairs g 5 [some (.ref 4), some (.int (nI a)), some (.int (nI z)), some (.int (sumI (fun i => ptF W a m z (a + i)) i)), some (.int (nI (a + i))), o.1, o.2] [] (Hh k E A L T)) (N := q) (P := fun _ _ => True) (Q := fun r => r = _) ?_ ?_ (s := (none, none)) trivial (by omega)
  · rintro g i ⟨o1, o2⟩ hi -
    have g1 : ¬ nI a + 8 ≤ nI (a + i) := by rw [nI_p8]; exact nI_ge (by omega) (by omega)
    have g2 : ¬ (48 : Int32) ≤ nI (a + i) := nI_ge (b := 48) (by omega) (by decide)
    have hai : a + i < 48 := by omega
    have e : sumI (fun i => ptF W a m z (a + i)) (i + 1) = sumI (fun i => ptF W a m z (a + i)) i + ptF W a m z (a + i) := rfl
    generalize sumI (fun i => ptF W a m z (a + i)) i = x3 at *
    right
    rw [e, show g + 8 = (g + 7) + 1 from rfl, g_X0_partedPairs_5]
    simp -implicitDefEqProofs only [if_neg g1, if_neg g2]
    have ci : ∀ f, f < 48 → ex S (d + 4) 346 [.int (nI f), .int (nI a), .int (nI z)] (Hh k E A L T) = _ := fun f hf => c_isIn (S := S) (d := d + 3) (h := Hh k E A L T) hm hz (show a < 48 by omega) hf
    by_cases b : INz a m z (a + i) = true
    · have e2 : ptF W a m z (a + i) = sumI (fun w => pt1 W a m z (a + i) (pm w)) 4 := by unfold ptF; rw [if_pos b, pm_sum]
      obtain ⟨o', n', hn', h1, -⟩ := loop_RK (K := 1) (α := Option Value) (F := fun g w o => bd S (ex S (d + 4)) dflT E_X0_partedPairs g 24 [some (.ref 4), some (.int (nI a)), some (.int (nI z)), some (.int (x3 + sumI (fun w => pt1 W a m z (a + i) (pm w)) w)), some (.int (nI (a + i))), some (.int (nI w)), o] [] (Hh k E A L T)) (N := 4) (P := fun _ _ => True) (s := o2) (by
        intro g w o hw _
        have g3 : ¬ (4 : Int32) ≤ nI w := nI_ge (b := 4) hw (by decide)
        have es : sumI (fun w => pt1 W a m z (a + i) (pm w)) (w + 1) = sumI (fun w => pt1 W a m z (a + i) (pm w)) w + pt1 W a m z (a + i) (pm w) := rfl
        generalize sumI (fun w => pt1 W a m z (a + i) (pm w)) w = x5 at *
        rw [g_X0_partedPairs_24]
        simp -implicitDefEqProofs only [if_neg g3, ci _ hai, q_I, if_pos b, i1_0, if_false, c_bes (S := S) (d := d + 3) hai hw, nI_p1, es]
        cases hb : besN (a + i) (pm w) with
        | none =>
          have e1 : pt1 W a m z (a + i) (pm w) = 0 := by unfold pt1; rw [hb]
          refine ⟨some (.int (-1)), g, Nat.le_refl _, ?_, trivial⟩
          rw [e1, Int32.add_zero, show oI none = -1 from rfl, if_pos rfl]
        | some v =>
          obtain ⟨-, p2, p3, p4⟩ := oI_ne hai hb
          have e1 : pt1 W a m z (a + i) (pm w) = if W (8 + 14 * v + 11) = 0 ∧ INz a m z v = false then 1 else 0 := by unfold pt1; rw [hb]
          refine ⟨some (.int (nI v)), g, Nat.le_refl _, ?_, trivial⟩
          rw [show oI (some v) = nI v from rfl, if_neg p3]
          simp -implicitDefEqProofs only [hv_4_1, hc_9, c_sold hL (hF v p2) p2, q_I, ci v p2]
          by_cases s0 : W (8 + 14 * v + 11) = 0
          · rw [if_pos s0]
            by_cases b2 : INz a m z v = true
            · rw [if_pos b2, if_neg (by decide), e1, if_neg (fun r => by rw [b2] at r; exact absurd r.2 (by decide)), Int32.add_zero]
            · rw [if_neg b2, if_pos rfl, e1, if_pos ⟨s0, by simpa using b2⟩, Int32.add_assoc]
          · rw [if_neg s0, e1, if_neg (fun r => s0 r.1), Int32.add_zero]) trivial (g + 1) (g + 7) (by omega)
      obtain ⟨n2, rfl⟩ : ∃ n2, n' = n2 + 1 := ⟨n' - 1, by omega⟩
      refine ⟨(some (.int (nI 4)), o'), n2, by omega, ?_, trivial⟩
      rw [show sumI (fun w => pt1 W a m z (a + i) (pm w)) 0 = 0 from rfl, Int32.add_zero, show nI 0 = 0 from rfl] at h1
      rw [h1, g_X0_partedPairs_24, if_pos (by decide), e2, nI_p1]
      rfl
    · have e2 : ptF W a m z (a + i) = 0 := by unfold ptF; rw [if_neg b]
      refine ⟨(some (.int 0), o2), g + 6, by omega, ?_, trivial⟩
      rw [g_X0_partedPairs_24]
      simp -implicitDefEqProofs only [ci _ hai, q_I, if_neg b, if_true, nI_p1, e2, Int32.add_zero]
      rw [if_neg (by decide)]
      rfl
  · rintro g ⟨o1, o2⟩ -
    rw [show g + 8 = (g + 7) + 1 from rfl, g_X0_partedPairs_5]
    by_cases h8 : q = 8
    · rw [h8, if_pos (by rw [nI_p8]; exact Int32.le_refl _)]
    · have : a + q = 48 := by omega
      rw [this]
      split
      · rfl
      · rw [if_pos (by decide)]
theorem r_parted {a m z : Nat} (hm : m ≤ 8) (hz : z < 2 ^ m) (ha : a + m ≤ 48) (hm1 : 1 ≤ m) : ex S (d + 3) 353 [.ref 39, .int (nI a), .int (nI m), .int (nI z)] (Hh k E A L T) = some (.inl (some (.int (ptS (A 40) a m z))), Hh k E A L T) := by
  rw [x_X12_parted, g_X12_parted_0]
  unfold ptS
  refine loop_QK (K := 8) (α := Option Value × Option Value) (F := fun g i o => bd S (ex S (d + 2)) dflT E_X12_parted g 6 [some (.ref 39), some (.int (nI a)), some (.int (nI m)), some (.int (nI z)), some (.int (sumI (ptF (A 40) a m z) i)), some (.int (nI i)), o.1, o.2] [] (Hh k E A L T)) (N := 48) (P := fun _ _ => True) (Q := fun r => r = _) ?_ ?_ (s := (none, none)) trivial (by omega)
  · rintro g i ⟨o1, o2⟩ hi -
    have g2 : ¬ (48 : Int32) ≤ nI i := nI_ge (b := 48) (by omega) (by decide)
    have e : sumI (ptF (A 40) a m z) (i + 1) = sumI (ptF (A 40) a m z) i + ptF (A 40) a m z i := rfl
    generalize sumI (ptF (A 40) a m z) i = x3 at *
    right
    have ci : ∀ f, f < 48 → ex S (d + 2) 352 [.int (nI f), .int (nI a), .int (nI m), .int (nI z)] (Hh k E A L T) = _ := fun f hf => r_isOf (S := S) (d := d) (h := Hh k E A L T) hm hm1 hz (show a < 48 by omega) hf
    rw [e, show g + 8 = (g + 7) + 1 from rfl, g_X12_parted_6]
    simp -implicitDefEqProofs only [if_neg g2, ci i hi, q_I]
    by_cases b : INz a m z i = true
    · simp -implicitDefEqProofs only [if_pos b, i1_0, if_false]
      have e2 : ptF (A 40) a m z i = sumI (pt1 (A 40) a m z i) 4 := by unfold ptF; rw [if_pos b]
      obtain ⟨o', n', hn', h1, -⟩ := loop_RK (K := 1) (α := Option Value) (F := fun g w o => bd S (ex S (d + 2)) dflT E_X12_parted g 30 [some (.ref 39), some (.int (nI a)), some (.int (nI m)), some (.int (nI z)), some (.int (x3 + sumI (pt1 (A 40) a m z i) w)), some (.int (nI i)), some (.int (nI w)), o] [] (Hh k E A L T)) (N := 4) (P := fun _ _ => True) (s := o2) (by
        intro g w o hw _
        have g3 : ¬ (4 : Int32) ≤ nI w := nI_ge (b := 4) hw (by decide)
        have es : sumI (pt1 (A 40) a m z i) (w + 1) = sumI (pt1 (A 40) a m z i) w + pt1 (A 40) a m z i w := rfl
        generalize sumI (pt1 (A 40) a m z i) w = x5 at *
        rw [g_X12_parted_30]
        simp -implicitDefEqProofs only [if_neg g3, q_I, r_bes (S := S) (d := d + 1) hi hw, nI_p1, es]
        cases hb : besN i w with
        | none =>
          have e1 : pt1 (A 40) a m z i w = 0 := by unfold pt1; rw [hb]
          refine ⟨some (.int (-1)), g, Nat.le_refl _, ?_, trivial⟩
          rw [e1, Int32.add_zero, show oI none = -1 from rfl, if_pos (by decide), Int32.add_zero]
        | some v =>
          obtain ⟨-, p2, p3, p4⟩ := oI_ne hi hb
          have e1 : pt1 (A 40) a m z i w = if A 40 (8 + 14 * v + 11) = 0 ∧ INz a m z v = false then 1 else 0 := by unfold pt1; rw [hb]
          refine ⟨some (.int (nI v)), g, Nat.le_refl _, ?_, trivial⟩
          rw [show oI (some v) = nI v from rfl, if_neg p4]
          simp -implicitDefEqProofs only [hc_39, ro_11 p2, q_I, ci v p2]
          by_cases s0 : A 40 (8 + 14 * v + 11) = 0
          · rw [if_pos s0]
            by_cases b2 : INz a m z v = true
            · rw [if_pos b2, if_neg (by decide), e1, if_neg (fun r => by rw [b2] at r; exact absurd r.2 (by decide)), Int32.add_zero, Int32.add_zero]
            · rw [if_neg b2, if_pos rfl, e1, if_pos ⟨s0, by simpa using b2⟩, Int32.add_assoc]
          · rw [if_neg s0, e1, if_neg (fun r => s0 r.1), Int32.add_zero, Int32.add_zero]) trivial (g + 1) (g + 7) (by omega)
      obtain ⟨n2, rfl⟩ : ∃ n2, n' = n2 + 1 := ⟨n' - 1, by omega⟩
      refine ⟨(some (.int (nI 4)), o'), n2, by omega, ?_, trivial⟩
      rw [show sumI (pt1 (A 40) a m z i) 0 = 0 from rfl, Int32.add_zero, show nI 0 = 0 from rfl] at h1
      rw [h1, g_X12_parted_30, if_pos (by decide), e2, nI_p1]
    · have e2 : ptF (A 40) a m z i = 0 := by unfold ptF; rw [if_neg b]
      refine ⟨(o1, o2), g + 7, by omega, ?_, trivial⟩
      simp -implicitDefEqProofs only [if_neg b, if_true, nI_p1, e2, Int32.add_zero]
  · rintro g ⟨o1, o2⟩ -
    rw [show g + 8 = (g + 7) + 1 from rfl, g_X12_parted_6, if_pos (by decide)]
end ToSellC
