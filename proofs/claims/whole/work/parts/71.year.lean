/-! the year: what class and reference have in common; spring -/
section YearA
variable {S : sT} {d c : Nat} {k : Value} {E : List dsc} {A : fA} {L : fL} {T : fT} {W : fW}
/-- the class's estate is tied, and it has learnt the prices of now -/
def Ti (c : Nat) (k : Value) (E : List dsc) (T : fT) (A : fA) (W : fW) : Prop := Iv c W ∧ LkA 4 k E A T W ∧ PrOk A W
theorem Ti_36 (h : Ti c k E T A W) : A 36 0 = 0 ∧ A 36 5 = 0 := ⟨(h.2.2 0 (by decide)).trans rfl, (h.2.2 5 (by decide)).trans rfl⟩
theorem PrOk_c {A' : fA} {V : fW} (hp : pn W ≤ 200) (h : PrOk A W) (h36 : ∀ j, j < 6 → A' 36 j = A 36 j) (e0 : V 0 = W 0) (e : ∀ i, 882 ≤ i → i < 1683 → V i = W i) : PrOk A' V := by
  intro j hj
  rw [h36 j hj, prW_c hp e0 e]
  exact h j hj
theorem Ti_up {A' : fA} {V : fW} (h : Ti c k E T A W) (hI : Iv c V) (hL : LkA 4 k E A' T V) (h36 : A' 36 = A 36) (e0 : V 0 = W 0) (e : ∀ i, 882 ≤ i → i < 1683 → V i = W i) : Ti c k E T A' V := ⟨hI, hL, PrOk_c h.1.2.2.2.1.2.1 h.2.2 (fun j _ => by rw [h36]) e0 e⟩
/-- a step at each of the first places -/
def itW (stp : fW → Nat → fW) : Nat → fW → fW
  | 0, W => W
  | n + 1, W => stp (itW stp n W) n
/-- what a line bars -/
def ba1 (W : fW) (B : Nat) (cr af : Int32) (n : Nat) : Bool := decide (W (B + 2 + 6 * n) = 2) && decide (W (B + 2 + 6 * n + 2) = cr) && decide (W (B + 2 + 6 * n + 3) = af)
def baN (W : fW) (B : Nat) (cr af : Int32) : Nat → Bool
  | 0 => false
  | n + 1 => baN W B cr af n || ba1 W B cr af n
theorem baN_iff {B : Nat} {cr af : Int32} {n : Nat} : baN W B cr af n = true ↔ ∃ j, j < n ∧ ba1 W B cr af j = true := by
  induction n with
  | zero => exact ⟨fun h => (by cases h), fun ⟨j, hj, _⟩ => (by omega)⟩
  | succ n ih =>
    unfold baN
    rw [Bool.or_eq_true, ih]
    constructor
    · rintro (⟨j, h1, h2⟩ | h)
      · exact ⟨j, by omega, h2⟩
      · exact ⟨n, by omega, h⟩
    · rintro ⟨j, h1, h2⟩
      by_cases q : j = n
      · subst q; exact Or.inr h2
      · exact Or.inl ⟨j, by omega, h2⟩
theorem c_barred {a b nl nc B : Nat} {cr af : Int32} (hX : TX k E A a b nl nc W B) : ex S (d + 2) 186 [.ref a, .int cr, .int af] (Hh k E A L T) = some (.inl (some (.int (if baN W B cr af nl = true then 1 else 0))), Hh k E A L T) := by
  obtain ⟨n1, n2⟩ := tx_n hX
  have hw := hX.2.2.2.1
  have t1 := hX.1
  have t3 := hX.2.2.1
  rw [x_X10_isBarred, g_X10_isBarred_0]
  refine loop_QK (K := 2) (α := Option Value) (F := fun g i o => bd S (ex S (d + 1)) dflT E_X10_isBarred g 2 [some (.ref a), some (.int cr), some (.int af), some (.int (nI i)), o] [] (Hh k E A L T)) (N := nl) (P := fun i _ => baN W B cr af i = false) (Q := fun r => r = some (.inl (some (.int (if baN W B cr af nl = true then 1 else 0))), Hh k E A L T)) ?_ ?_ (s := none) rfl (by omega)
  · rintro g i o hi hP
    have g0 : ¬ nI nl ≤ nI i := nI_ge hi (by omega)
    have ev := vb_eq2 (s := 2) (hw.2.2.2 i hi).1 (Or.inl (by unfold rg; decide))
    rw [show vb 2 = 26 by decide] at ev
    rw [show g + 2 = (g + 1) + 1 from rfl, g_X10_isBarred_2]
    simp -implicitDefEqProofs only [q_iR, tl t1, t3, if_neg g0, tc t1, c_tg0 hX hi, q_I]
    by_cases c1 : W (B + 2 + 6 * i) = 2
    · have e5 : fs (W (B + 2 + 6 * i)) (W (B + 2 + 6 * i + 2)) = W (B + 2 + 6 * i + 2) := by rw [c1]; rfl
      have e6 : sc (W (B + 2 + 6 * i)) (W (B + 2 + 6 * i + 3)) = W (B + 2 + 6 * i + 3) := by rw [c1]; rfl
      rw [if_pos (ev.mpr c1), g_X10_isBarred_26, if_neg (by decide)]
      simp -implicitDefEqProofs only [q_iR, tc t1, c_tg2 hX hi, q_I, e5]
      by_cases c2 : W (B + 2 + 6 * i + 2) = cr
      · rw [if_pos c2]
        simp -implicitDefEqProofs only [q_iR, tc t1, c_tg3 hX hi, q_I, e6]
        by_cases c3 : W (B + 2 + 6 * i + 3) = af
        · left
          have : baN W B cr af nl = true := baN_iff.mpr ⟨i, hi, by unfold ba1; simp [c1, c2, c3]⟩
          rw [if_pos c3, q_z1, if_pos this]
        · right
          rw [if_neg c3, nI_p1]
          exact ⟨_, g, Nat.le_refl _, rfl, by show (baN W B cr af i || ba1 W B cr af i) = false; rw [hP]; unfold ba1; simp [c3]⟩
      · right
        rw [if_neg c2, nI_p1]
        exact ⟨_, g, Nat.le_refl _, rfl, by show (baN W B cr af i || ba1 W B cr af i) = false; rw [hP]; unfold ba1; simp [c2]⟩
    · right
      rw [if_neg (fun q => c1 (ev.mp q)), g_X10_isBarred_26, if_pos rfl, nI_p1]
      exact ⟨_, g, Nat.le_refl _, rfl, by show (baN W B cr af i || ba1 W B cr af i) = false; rw [hP]; unfold ba1; simp [c1]⟩
  · rintro g o hP
    rw [show g + 2 = (g + 1) + 1 from rfl, g_X10_isBarred_2]
    simp -implicitDefEqProofs only [q_iR, tl t1, t3, if_pos (Int32.le_refl (nI nl)), q_z0, hP]
    rfl
theorem r_barred {h nl nc : Nat} {cr af : Int32} (hw : WT (A 40) (tx (12 + h)) nl nc) (h2 : h < 24) : ex S (d + 3) 231 [.ref 39, .int (nI h), .int cr, .int af] (Hh k E A L T) = some (.inl (some (.int (if baN (A 40) (tx (12 + h)) cr af nl = true then 1 else 0))), Hh k E A L T) := by
  have n1 := hw.2.1
  have w1 := hw.1
  have e12 : (12 : Int32) + nI h = nI (12 + h) := by rw [show (12 : Int32) = nI 12 from rfl, nI_add]
  rw [x_X12_isBarred, g_X12_isBarred_0]
  refine loop_Q (α := Option Value) (F := fun g i o => bd S (ex S (d + 2)) dflT E_X12_isBarred g 6 [some (.ref 39), some (.int (nI h)), some (.int cr), some (.int af), some (.int (if baN (A 40) (tx (12 + h)) cr af i = true then 1 else 0)), some (.int (nI i)), o] [] (Hh k E A L T)) (N := nl) (P := fun _ _ => True) (Q := fun r => r = some (.inl (some (.int (if baN (A 40) (tx (12 + h)) cr af nl = true then 1 else 0))), Hh k E A L T)) ?_ ?_ (s := none) trivial (by omega)
  · rintro g i o hi -
    right
    have g0 : ¬ nI nl ≤ nI i := nI_ge hi (by omega)
    have b0 : tx (12 + h) + 2 + 6 * i < 35877 := by unfold tx; omega
    have b2 : tx (12 + h) + 2 + 6 * i + 2 < 35877 := by unfold tx; omega
    have b3 : tx (12 + h) + 2 + 6 * i + 3 < 35877 := by unfold tx; omega
    have a2 : nI (tx (12 + h) + 2 + 6 * i) + 2 = nI (tx (12 + h) + 2 + 6 * i + 2) := by rw [show (2 : Int32) = nI 2 from rfl, nI_add]
    have a3 : nI (tx (12 + h) + 2 + 6 * i) + 3 = nI (tx (12 + h) + 2 + 6 * i + 3) := by rw [show (3 : Int32) = nI 3 from rfl, nI_add]
    have e : baN (A 40) (tx (12 + h)) cr af (i + 1) = (baN (A 40) (tx (12 + h)) cr af i || ba1 (A 40) (tx (12 + h)) cr af i) := rfl
    refine ⟨some (.int (nI (tx (12 + h) + 2 + 6 * i))), ?_, trivial⟩
    rw [g_X12_isBarred_6]
    simp -implicitDefEqProofs only [hc_39, e12, r_lns (show 12 + h < 37 by omega), w1, q_I, if_neg g0, r_lat, hv_39_1, an_40 b0, a2, a3, an_40 b2, an_40 b3, nI_p1]
    rw [e]
    by_cases q : baN (A 40) (tx (12 + h)) cr af i = true
    · simp -implicitDefEqProofs only [q, Bool.true_or, if_true, i1_0, if_false]
    · have q' : baN (A 40) (tx (12 + h)) cr af i = false := by simpa using q
      simp -implicitDefEqProofs only [q', Bool.false_or, Bool.false_eq_true, if_false, if_true]
      unfold ba1
      by_cases c1 : A 40 (tx (12 + h) + 2 + 6 * i) = 2
      · by_cases c2 : A 40 (tx (12 + h) + 2 + 6 * i + 2) = cr
        · by_cases c3 : A 40 (tx (12 + h) + 2 + 6 * i + 3) = af
          · simp [c1, c2, c3]
          · simp [c1, c2, c3]
        · simp [c1, c2]
      · simp [c1]
  · rintro g o -
    rw [g_X12_isBarred_6]
    simp -implicitDefEqProofs only [hc_39, e12, r_lns (show 12 + h < 37 by omega), w1, q_I, if_pos (Int32.le_refl (nI nl))]
    split
    · rw [q_z1]
    · rw [q_z0]
/-- what grows -/
theorem gr_rg {f : Nat} {cr rain : Int32} (hF : IvF W f) (hr : rg rain (-5) 5) : rg (growW W f cr rain) 0 24 := by
  have h0 : rg (0 : Int32) 0 24 := by unfold rg; decide
  unfold growW
  rcases crop_c cr with h | h | ⟨n, hn0, hn, rfl⟩
  · rw [if_pos h]; exact h0
  · rw [if_neg (fun q => absurd (Int32.lt_trans h q) (by decide)), if_pos h]; exact h0
  · rw [if_neg (show ¬ nI n < 1 from nI_nlt (b := 1) (by omega) (by omega)), if_neg (show ¬ (4 : Int32) < nI n from nI_nlt (a := 4) (by omega) (by decide))]
    obtain ⟨f0, f1, f2, -, f4, f5, -, -, f8, -⟩ := hF
    unfold growV
    obtain ⟨s, hs, hs2, es⟩ := rg_of (b := 9) f0
    obtain ⟨e, he, he2, ee⟩ := rg_of (b := 9) f1
    obtain ⟨w, hw, hw2, ew⟩ := rg_of (b := 20) f2
    obtain ⟨u, hu, hu2, eu⟩ := rg_of (b := 9) f8
    rw [es, ee, ew, eu]
    have e9 : (9 - nI n : Int32) = nI (9 - n) := by
      match n, hn0, hn with
      | 1, _, _ => decide
      | 2, _, _ => decide
      | 3, _, _ => decide
      | 4, _, _ => decide
    have d2 : nI w / 2 = nI (w / 2) := by rw [show (2 : Int32) = nI 2 from rfl, pk_div (by omega) (by decide) (by decide)]
    have d3 : nI e / 3 = nI (e / 3) := by rw [show (3 : Int32) = nI 3 from rfl, pk_div (by omega) (by decide) (by decide)]
    have m2 : 2 * nI u = nI (2 * u) := by rw [show (2 : Int32) = nI 2 from rfl, pk_mul]
    rw [e9, d2, d3, m2, nI_add]
    obtain ⟨z, hz, ez⟩ : ∃ z, z ≤ 9 ∧ (if W (8 + 14 * f + 4) ≤ 0 then nI e else nI (e / 3)) = nI z := by
      split
      · exact ⟨e, he, rfl⟩
      · exact ⟨e / 3, by omega, rfl⟩
    obtain ⟨l, hl, el⟩ : ∃ l, l ≤ 2 ∧ (if W (8 + 14 * f + 5) ≤ 0 then (0 : Int32) else 2) = nI l := by
      split
      · exact ⟨0, by omega, rfl⟩
      · exact ⟨2, by omega, rfl⟩
    rw [ez, el]
    have t0 : (nI (9 - n + s)).toInt = ((9 - n + s : Nat) : Int) := nI_toInt (by omega)
    have t1 : (nI l).toInt = (l : Int) := nI_toInt (by omega)
    have t2 : (nI (w / 2)).toInt = ((w / 2 : Nat) : Int) := nI_toInt (by omega)
    have t3 : (nI z).toInt = (z : Int) := nI_toInt (by omega)
    have t4 : (nI (2 * u)).toInt = ((2 * u : Nat) : Int) := nI_toInt (by omega)
    obtain ⟨r1, r2⟩ := hr
    have v1 : (nI (9 - n + s) + rain).toInt = ((9 - n + s : Nat) : Int) + rain.toInt := by rw [a32 (by omega) (by omega), t0]
    have v2 : (nI (9 - n + s) + rain + nI l).toInt = ((9 - n + s : Nat) : Int) + rain.toInt + l := by rw [a32 (by omega) (by omega), v1, t1]
    have v3 : (nI (9 - n + s) + rain + nI l - nI (w / 2)).toInt = ((9 - n + s : Nat) : Int) + rain.toInt + l - (w / 2 : Nat) := by rw [s32 (by omega) (by omega), v2, t2]
    have v4 : (nI (9 - n + s) + rain + nI l - nI (w / 2) - nI z).toInt = ((9 - n + s : Nat) : Int) + rain.toInt + l - (w / 2 : Nat) - z := by rw [s32 (by omega) (by omega), v3, t3]
    have v5 : (nI (9 - n + s) + rain + nI l - nI (w / 2) - nI z - nI (2 * u)).toInt = ((9 - n + s : Nat) : Int) + rain.toInt + l - (w / 2 : Nat) - z - (2 * u : Nat) := by rw [s32 (by omega) (by omega), v4, t4]
    split
    · rename_i q
      rw [Int32.lt_iff_toInt_lt, show (0 : Int32).toInt = 0 from rfl] at q
      exact ⟨by omega, by omega⟩
    · exact h0
theorem mul_rg {x y : Int32} {a b : Int} (hx : rg x 0 a) (hy : rg y 0 b) (h : a * b ≤ 2000000000) : rg (x * y) 0 (a * b) ∧ (x * y).toInt = x.toInt * y.toInt := by
  obtain ⟨x1, x2⟩ := hx
  obtain ⟨y1, y2⟩ := hy
  have m1 : 0 ≤ x.toInt * y.toInt := Int.mul_nonneg x1 y1
  have m2 : x.toInt * y.toInt ≤ a * b := Int.mul_le_mul x2 y2 y1 (by omega)
  have e : (x * y).toInt = x.toInt * y.toInt := m32 (by omega) (by omega)
  exact ⟨⟨by omega, by omega⟩, e⟩
/-- the best of the first crops: its number (-1: none) and its hope -/
def chs (W : fW) (f h : Nat) : Nat → Int32 × Int32
  | 0 => (-1, 0)
  | n + 1 => if baN W (tx (12 + h)) (nI (1 + n)) (W (8 + 14 * f + 3)) (lnT W (12 + h)) = true then chs W f h n else if (chs W f h n).1 < 0 then (nI (1 + n), prW W (nI (1 + n)) * growW W f (nI (1 + n)) 0) else if (chs W f h n).2 < prW W (nI (1 + n)) * growW W f (nI (1 + n)) 0 then (nI (1 + n), prW W (nI (1 + n)) * growW W f (nI (1 + n)) 0) else chs W f h n
def crW (W : fW) (f h : Nat) : Int32 := if 0 ≤ (chs W f h 5).1 then (chs W f h 5).1 else 5
theorem ch_c (W : fW) (f h : Nat) (n : Nat) (hn : n ≤ 5) : (chs W f h n).1 = -1 ∨ ∃ j, 1 ≤ j ∧ j ≤ 5 ∧ (chs W f h n).1 = nI j := by
  induction n with
  | zero => exact Or.inl rfl
  | succ n ih =>
    have := ih (by omega)
    unfold chs
    split
    · exact this
    · split
      · exact Or.inr ⟨1 + n, by omega, by omega, rfl⟩
      · split
        · exact Or.inr ⟨1 + n, by omega, by omega, rfl⟩
        · exact this
theorem cr_rg (W : fW) (f h : Nat) : rg (crW W f h) 0 5 := by
  unfold crW
  rcases ch_c W f h 5 (Nat.le_refl _) with e | ⟨j, h1, h2, e⟩
  · rw [e, if_neg (by decide)]; unfold rg; decide
  · rw [e, if_pos (nI_pos' (by omega))]; exact rg_nI (by omega) (by omega)
theorem c_chosen {h f a b nl nc : Nat} (hI : Iv c W) (hL : LkL (A 10) W) (hO : PrOk A W) (hX : TX k E A a b nl nc W (tx (12 + h))) (hf : f < 48) : ex S (d + 4) 187 [.ref 38, .ref a, .int (nI f)] (Hh k E A L T) = some (.inl (some (.int (crW W f h))), Hh k E A L T) := by
  have hl := lnT_eq hX.2.2.2.1
  rw [x_X10_chosenCrop, g_X10_chosenCrop_0]
  refine loop_Q (α := Option Value) (F := fun g i o => bd S (ex S (d + 3)) dflT E_X10_chosenCrop g 8 [some (.ref 38), some (.ref a), some (.int (nI f)), some (.int (if (chs W f h i).1 < 0 then 5 else (chs W f h i).1)), some (.int (if (chs W f h i).1 < 0 then -1 else (chs W f h i).2)), some (.int (nI (1 + i))), o] [] (Hh k E A L T)) (N := 5) (P := fun _ _ => True) (Q := fun r => r = some (.inl (some (.int (crW W f h))), Hh k E A L T)) ?_ ?_ (s := none) trivial (by decide)
  · rintro g i o hi -
    right
    have g0 : ¬ (5 : Int32) < nI (1 + i) := nI_nlt (a := 5) (by omega) (by decide)
    refine ⟨some (.int (prW W (nI (1 + i)) * growW W f (nI (1 + i)) 0)), ?_, trivial⟩
    rw [g_X10_chosenCrop_8]
    simp -implicitDefEqProofs only [if_neg g0, hv_38_0, hc_4, c_prc hO, q_I, hv_38_1, hc_9, c_grow hL hf, q_iR, gL_3 hL hf, c_barred hX, nI_p1]
    have e : chs W f h (i + 1) = if baN W (tx (12 + h)) (nI (1 + i)) (W (8 + 14 * f + 3)) nl = true then chs W f h i else if (chs W f h i).1 < 0 then (nI (1 + i), prW W (nI (1 + i)) * growW W f (nI (1 + i)) 0) else if (chs W f h i).2 < prW W (nI (1 + i)) * growW W f (nI (1 + i)) 0 then (nI (1 + i), prW W (nI (1 + i)) * growW W f (nI (1 + i)) 0) else chs W f h i := by rw [← hl]; rfl
    rw [e]
    have hv := (mul_rg (pr_rg hI.2.2.2.1 (nI (1 + i))) (gr_rg (cr := nI (1 + i)) (rain := 0) (hI.2.1 f hf) (by unfold rg; decide)) (by decide)).1
    generalize prW W (nI (1 + i)) * growW W f (nI (1 + i)) 0 = v at *
    have hv1 : ¬ v ≤ -1 := by
      rw [Int32.le_iff_toInt_le, show (-1 : Int32).toInt = -1 from rfl]; have := hv.1; omega
    have hn0 : ¬ nI (1 + i) < 0 := nI_pos (by omega)
    generalize chs W f h i = p
    by_cases q1 : p.1 < 0
    · simp -implicitDefEqProofs only [if_pos q1, if_neg hv1]
      by_cases q2 : baN W (tx (12 + h)) (nI (1 + i)) (W (8 + 14 * f + 3)) nl = true
      · simp -implicitDefEqProofs only [if_pos q2, i1_0, if_false, if_pos q1, q_iR]
        rfl
      · simp -implicitDefEqProofs only [if_neg q2, if_true, if_neg hn0, q_iR]
        rfl
    · simp -implicitDefEqProofs only [if_neg q1]
      by_cases q3 : v ≤ p.2
      · have q4 : ¬ p.2 < v := Int32.not_lt.mpr q3
        simp -implicitDefEqProofs only [if_pos q3, if_neg q4, ite_self, if_neg q1]
        rfl
      · have q4 : p.2 < v := Int32.not_le.mp q3
        simp -implicitDefEqProofs only [if_neg q3, if_pos q4]
        by_cases q2 : baN W (tx (12 + h)) (nI (1 + i)) (W (8 + 14 * f + 3)) nl = true
        · simp -implicitDefEqProofs only [if_pos q2, i1_0, if_false, if_neg q1, q_iR]
          rfl
        · simp -implicitDefEqProofs only [if_neg q2, if_true, if_neg hn0, q_iR]
          rfl
  · rintro g o -
    rw [g_X10_chosenCrop_8, if_pos (by decide)]
    unfold crW
    rcases ch_c W f h 5 (Nat.le_refl _) with e | ⟨j, h1, h2, e⟩
    · rw [e, if_pos (by decide), if_neg (by decide)]
    · rw [e, if_neg (nI_pos (by omega)), if_pos (nI_pos' (by omega))]
/-- spring, at a field -/
def spF (W : fW) (f : Nat) : fW := match holW W f with | none => W | some h => if letW W h = 0 then W else upd W (8 + 14 * f + 3) (crW W f h)
theorem jSp {f : Nat} (hI : Iv c W) (hf : f < 48) : Iv c (spF W f) := by
  unfold spF
  rcases hol_c (hI.2.1 f hf) hI.2.2.2.2.1.2.1 with ⟨e1, e2, e3⟩ | ⟨h, h1, h2, e1, e2⟩
  · rw [e2]; exact hI
  · rw [e2]
    show Iv c (if letW W h = 0 then W else _)
    rcases let_c (hI.2.2.2.2.1.2.2 h h1) with ⟨l1, l2⟩ | ⟨l1, l2⟩
    · rw [l1, if_neg (by decide)]
      refine jL_3 hI hf ⟨cr_rg W f h, fun q => absurd (e1.symm.trans q) (nI_m1 (by omega)), fun g hg q q2 => ?_⟩
      have : g = h := by have := hI.2.2.2.2.1.2.1; exact (nI_eq (by omega) (by omega)).mp (q.symm.trans e1)
      subst this
      rcases l2 with l2 | l2 <;> rw [l2] at q2 <;> rcases q2 with q2 | q2 <;> exact absurd q2 (by decide)
    · rw [l1, if_pos rfl]; exact hI
theorem sp_o {f i : Nat} (hi : i ≠ 8 + 14 * f + 3) : spF W f i = W i := by
  unfold spF
  cases holW W f with
  | none => rfl
  | some h =>
    show (if letW W h = 0 then W else upd W (8 + 14 * f + 3) (crW W f h)) i = W i
    split
    · rfl
    · exact upd_o hi
theorem q_h5b {a b e : Nat} {x y : Int32} {κ : rO} : h8f [.ref a, .ref b, .int x, .int y, .ref e] κ = κ := if_pos (Nat.le_of_ble_eq_true rfl)
theorem u36_10 {i : Nat} {x : Int32} : up A 10 i x 36 = A 36 := up_ne (by decide)
theorem u36_12 {i : Nat} {x : Int32} : up A 12 i x 36 = A 36 := up_ne (by decide)
theorem u36_22 {i : Nat} {x : Int32} : up A 22 i x 36 = A 36 := up_ne (by decide)
theorem c_spring (h : Ti c k E T A W) : ∃ A', ex S (d + 5) 188 [.ref 38] (Hh k E A L T) = some (.inl none, Hh k E A' L T) ∧ Ti c k E T A' (itW spF 48 W) ∧ Fr A A' := by
  rw [x_X10_spring, g_X10_spring_0]
  refine loop_QK (K := 2) (α := fA × Option Value) (F := fun g i s => bd S (ex S (d + 4)) dflT E_X10_spring g 2 [some (.ref 38), some (.int (nI i)), s.2] [] (Hh k E s.1 L T)) (N := 48) (P := fun i s => Ti c k E T s.1 (itW spF i W) ∧ Fr A s.1) (Q := fun r => ∃ A', r = some (.inl none, Hh k E A' L T) ∧ Ti c k E T A' (itW spF 48 W) ∧ Fr A A') ?_ ?_ (s := (A, none)) ⟨h, Fr_refl⟩ (by decide)
  · rintro g f ⟨B, o⟩ hf ⟨hB, hFr⟩
    simp only at hB hFr
    right
    have ei : itW spF (f + 1) W = spF (itW spF f W) f := rfl
    rw [ei]
    generalize itW spF f W = V at *
    obtain ⟨hI, h0, hO⟩ := id hB
    have g0 : ¬ (48 : Int32) ≤ nI f := nI_ge (b := 48) hf (by decide)
    have hL : LkL (B 10) V := h0.2.1
    have hC := h0.2.2.2.2.2.2.1.2.1
    have h24 := hI.2.2.2.2.1.2.1
    have hka := c_kindAt (S := S) (d := d + 1) (k := k) (E := E) (L := L) (T := T) hL hC (hI.2.1 f hf) h24 hf
    have st : ∃ s' : fA × Option Value, ∃ n', g ≤ n' ∧ bd S (ex S (d + 4)) dflT E_X10_spring (g + 1) 2 [some (.ref 38), some (.int (nI (f + 1))), some (.int (kindW V f))] [] (Hh k E (up B 10 (144 + f) 0) L T) = bd S (ex S (d + 4)) dflT E_X10_spring n' 2 [some (.ref 38), some (.int (nI (f + 1))), s'.2] [] (Hh k E s'.1 L T) ∧ (V (8 + 14 * f + 3) = 0 → Ti c k E T s'.1 V ∧ Fr A s'.1) := by
      refine ⟨(up B 10 (144 + f) 0, _), g + 1, by omega, rfl, fun e3 => ⟨?_, Fr_tr hFr (Fr_up (by decide) (by decide))⟩⟩
      have k3 := kL_3 (x := 0) hI hf h0
      have : upd V (8 + 14 * f + 3) 0 = V := by rw [← e3]; exact upd_id _ _
      rw [this] at k3
      exact ⟨hI, k3, hO⟩
    rw [show g + 2 = (g + 1) + 1 from rfl, g_X10_spring_2]
    simp -implicitDefEqProofs only [if_neg g0, hv_38_0, hc_4, hka, q_I]
    unfold spF
    rcases hol_c (hI.2.1 f hf) h24 with ⟨e1, e2, e3⟩ | ⟨h, h1, h2, e1, e2⟩
    · have ek : kindW V f = -1 := by unfold kindW; rw [e2]
      obtain ⟨s', n', hn', r1, r2⟩ := st
      rw [e2]
      rw [ek] at r1 ⊢
      simp -implicitDefEqProofs only [show ((-1 : Int32) = 0) = False by decide, show ((-1 : Int32) = 1) = False by decide, if_false, x_X1_isHand, g_X1_isHand_0, show ((-1 : Int32) = 2) = False by decide, show ((-1 : Int32) = 3) = False by decide, q_z0, q_I, if_true, hv_38_1, hc_9, ls_3 hf, q_U, nI_p1]
      exact ⟨s', n', hn', r1, (r2 e3).1, (r2 e3).2⟩
    · have ek : kindW V f = V (1684 + 11 * h + 0) := by unfold kindW; rw [e2]
      rw [e2]
      show ∃ s' n', _ ∧ _ = _ ∧ Ti c k E T _ (if letW V h = 0 then V else upd V (8 + 14 * f + 3) (crW V f h)) ∧ _
      rcases let_c (hI.2.2.2.2.1.2.2 h h1) with ⟨l1, l2⟩ | ⟨l1, l2⟩
      · obtain ⟨a, b, nl, nc, ha, hX⟩ := lease_of h0 h1 l2
        have e26 : ∀ y, bd S (ex S (d + 4)) dflT E_X10_spring (g + 1) 26 [some (.ref 38), some (.int (nI f)), some (.int y)] [] (Hh k E B L T) = bd S (ex S (d + 4)) dflT E_X10_spring g 2 [some (.ref 38), some (.int (nI (f + 1))), some (.int y)] [] (Hh k E (up B 10 (144 + f) (crW V f h)) L T) := by
          intro y
          rw [g_X10_spring_26]
          simp -implicitDefEqProofs only [hv_38_1, hv_38_2, q_h5b, hc_9, gL_10 hL hf, e1, q_I, hc_11, c_lease h2 ha, q_A, hc_38, c_chosen hI hL hO hX hf, ls_3 hf, q_U, nI_p1]
        have hJ := jSp hI hf
        unfold spF at hJ
        rw [e2] at hJ
        have hJ' : Iv c (if letW V h = 0 then V else upd V (8 + 14 * f + 3) (crW V f h)) := hJ
        rw [l1, if_neg (show ¬ (1 : Int32) = 0 by decide)] at hJ'
        rw [l1, if_neg (show ¬ (1 : Int32) = 0 by decide)]
        refine ⟨(up B 10 (144 + f) (crW V f h), some (.int (kindW V f))), g, Nat.le_refl _, ?_, Ti_up hB hJ' (kL_3 hI hf h0) (show up B 10 (144 + f) (crW V f h) 36 = B 36 from u36_10) (upd_o (by omega)) (fun i h1 h2 => upd_o (by omega)), Fr_tr hFr (Fr_up (by decide) (by decide))⟩
        rw [ek]
        rcases l2 with l2 | l2
        · rw [if_pos l2, e26]
        · rw [if_neg (by rw [l2]; decide), if_pos l2, e26]
      · rw [l1, if_pos rfl]
        simp -implicitDefEqProofs only [ek, if_neg l2.1, if_neg l2.2, x_X1_isHand, g_X1_isHand_0]
        by_cases q2 : V (1684 + 11 * h + 0) = 2
        · simp -implicitDefEqProofs only [if_pos q2, q_z1, q_I, i1_0, if_false, nI_p1]
          exact ⟨(B, _), g + 1, by omega, rfl, hB, hFr⟩
        · by_cases q3 : V (1684 + 11 * h + 0) = 3
          · simp -implicitDefEqProofs only [if_neg q2, if_pos q3, q_z1, q_I, i1_0, if_false, nI_p1]
            exact ⟨(B, _), g + 1, by omega, rfl, hB, hFr⟩
          · obtain ⟨s', n', hn', r1, r2⟩ := st
            rw [ek] at r1
            simp -implicitDefEqProofs only [if_neg q2, if_neg q3, q_z0, q_I, if_true, hv_38_1, hc_9, ls_3 hf, q_U, nI_p1]
            have e3 : V (8 + 14 * f + 3) = 0 := by
              obtain ⟨-, -, -, -, -, -, -, -, -, a9, -⟩ := hI.2.1 f hf
              rcases a9 with ⟨z, -⟩ | ⟨g2, hg2, z1, z2⟩
              · exact absurd (e1.symm.trans z) (nI_m1 (by omega))
              · have : g2 = h := (nI_eq (by omega) (by omega)).mp (z1.symm.trans e1)
                subst this
                apply z2
                obtain ⟨m, hm, -, em⟩ := rg_of (b := 5) (hI.2.2.2.2.1.2.2 g2 h1).1
                rw [em] at q2 q3 l2 ⊢
                match m, hm with
                | 0, _ => exact absurd rfl l2.1
                | 1, _ => exact absurd rfl l2.2
                | 2, _ => exact absurd rfl q2
                | 3, _ => exact absurd rfl q3
                | 4, _ => exact Or.inl rfl
                | 5, _ => exact Or.inr rfl
            exact ⟨s', n', hn', r1, (r2 e3).1, (r2 e3).2⟩
  · rintro g ⟨B, o⟩ ⟨hB, hFr⟩
    simp only at hB hFr
    rw [show g + 2 = (g + 1) + 1 from rfl, g_X10_spring_2, if_pos (by decide)]
    exact ⟨B, rfl, hB, hFr⟩
theorem r_spring (hI : Iv c (A 40)) : ∃ A', ex S (d + 5) 234 [.ref 39] (Hh k E A L T) = some (.inl none, Hh k E A' L T) ∧ A' 40 = itW spF 48 (A 40) ∧ Fg A A' ∧ Iv c (A' 40) := by
  rw [x_X12_spring, g_X12_spring_0]
  refine loop_QK (K := 8) (α := fA × Option Value × Option Value × Option Value × Option Value × Option Value) (F := fun g i s => bd S (ex S (d + 4)) dflT E_X12_spring g 2 [some (.ref 39), some (.int (nI i)), s.2.1, s.2.2.1, s.2.2.2.1, s.2.2.2.2.1, s.2.2.2.2.2] [] (Hh k E s.1 L T)) (N := 48) (P := fun i s => s.1 40 = itW spF i (A 40) ∧ Fg A s.1 ∧ Iv c (s.1 40)) (Q := fun r => ∃ A', r = some (.inl none, Hh k E A' L T) ∧ A' 40 = itW spF 48 (A 40) ∧ Fg A A' ∧ Iv c (A' 40)) ?_ ?_ (s := (A, none, none, none, none, none)) ⟨rfl, Fg_refl, hI⟩ (by decide)
  · rintro g f ⟨B, o2, o3, o4, o5, o6⟩ hf ⟨hB, hFr, hJ⟩
    simp only at hB hFr hJ
    right
    have ei : itW spF (f + 1) (A 40) = spF (B 40) f := by rw [hB]; rfl
    rw [ei]
    have g0 : ¬ (48 : Int32) ≤ nI f := nI_ge (b := 48) hf (by decide)
    have h24 := hJ.2.2.2.2.1.2.1
    rw [show g + 8 = (g + 7) + 1 from rfl, g_X12_spring_2]
    simp -implicitDefEqProofs only [if_neg g0, hc_39, ro_10 hf, q_I]
    unfold spF
    rcases hol_c (hJ.2.1 f hf) h24 with ⟨e1, e2, e3⟩ | ⟨h, h1, h2, e1, e2⟩
    · rw [e2, e1, if_pos (by decide), nI_p1]
      exact ⟨(B, _, _, _, _, _), g + 7, by omega, rfl, rfl, hFr, hJ⟩
    · rw [e2, e1, if_neg (nI_pos (by omega))]
      simp -implicitDefEqProofs only [hc_39, r_isLet h2, q_I]
      have hjj := jSp hJ hf
      unfold spF at hjj
      rw [e2] at hjj
      have hjj' : Iv c (if letW (B 40) h = 0 then B 40 else upd (B 40) (8 + 14 * f + 3) (crW (B 40) f h)) := hjj
      rcases let_c (hJ.2.2.2.2.1.2.2 h h1) with ⟨l1, l2⟩ | ⟨l1, l2⟩
      · rw [l1] at hjj' ⊢
        rw [if_neg (by decide)] at hjj' ⊢
        obtain ⟨nl, nc, hw⟩ := (hJ.2.2.2.2.1.2.2 h h1).2.2.2.2.2.2.2.2.2.2 l2
        have hl := lnT_eq hw
        obtain ⟨o, g', hg', f1, -⟩ := loop_RK (K := 1) (α := Option Value) (F := fun g i o => bd S (ex S (d + 4)) dflT E_X12_spring g 39 [some (.ref 39), some (.int (nI f)), some (.int (nI h)), some (.int (chs (B 40) f h i).1), some (.int (chs (B 40) f h i).2), some (.int (nI (1 + i))), o] [] (Hh k E B L T)) (N := 5) (P := fun _ _ => True) (s := o6) (by
          rintro g i o hi -
          have g1 : ¬ (6 : Int32) ≤ nI (1 + i) := nI_ge (b := 6) (by omega) (by decide)
          have e : chs (B 40) f h (i + 1) = if baN (B 40) (tx (12 + h)) (nI (1 + i)) (B 40 (8 + 14 * f + 3)) nl = true then chs (B 40) f h i else if (chs (B 40) f h i).1 < 0 then (nI (1 + i), prW (B 40) (nI (1 + i)) * growW (B 40) f (nI (1 + i)) 0) else if (chs (B 40) f h i).2 < prW (B 40) (nI (1 + i)) * growW (B 40) f (nI (1 + i)) 0 then (nI (1 + i), prW (B 40) (nI (1 + i)) * growW (B 40) f (nI (1 + i)) 0) else chs (B 40) f h i := by rw [← hl]; rfl
          rw [g_X12_spring_39]
          simp -implicitDefEqProofs only [if_neg g1, hc_39, ro_3 hf, q_I, r_barred hw h2, r_prc (pr_of hJ), r_grow hf, nI_p1]
          rw [e]
          by_cases q2 : baN (B 40) (tx (12 + h)) (nI (1 + i)) (B 40 (8 + 14 * f + 3)) nl = true
          · simp -implicitDefEqProofs only [if_pos q2, i1_0, if_false]
            exact ⟨_, g, Nat.le_refl _, rfl, trivial⟩
          · simp -implicitDefEqProofs only [if_neg q2, if_true]
            by_cases q1 : (chs (B 40) f h i).1 < 0
            · simp -implicitDefEqProofs only [if_pos q1]
              exact ⟨_, g, Nat.le_refl _, rfl, trivial⟩
            · by_cases q3 : (chs (B 40) f h i).2 < prW (B 40) (nI (1 + i)) * growW (B 40) f (nI (1 + i)) 0
              · simp -implicitDefEqProofs only [if_neg q1, if_pos q3]
                exact ⟨_, g, Nat.le_refl _, rfl, trivial⟩
              · simp -implicitDefEqProofs only [if_neg q1, if_neg q3]
                exact ⟨_, g, Nat.le_refl _, rfl, trivial⟩) trivial (g + 1) (g + 7) (by omega)
        have f1' : bd S (ex S (d + 4)) dflT E_X12_spring (g + 7) 39 [some (.ref 39), some (.int (nI f)), some (.int (nI h)), some (.int (-1)), some (.int 0), some (.int 1), o6] [] (Hh k E B L T) = _ := f1
        rw [f1']
        obtain ⟨g2, rfl⟩ : ∃ g2, g' = g2 + 1 := ⟨g' - 1, by omega⟩
        rw [g_X12_spring_39, if_pos (by decide)]
        simp -implicitDefEqProofs only [hv_39_1, ra_3, q_I, sn_40 (show 8 + 14 * f + 3 < 35877 by omega), nI_p1]
        have ec : (if 0 ≤ (chs (B 40) f h 5).1 then (chs (B 40) f h 5).1 else 5) = crW (B 40) f h := rfl
        refine ⟨(up B 40 (8 + 14 * f + 3) (crW (B 40) f h), some (.int (nI h)), some (.int (chs (B 40) f h 5).1), some (.int (chs (B 40) f h 5).2), some (.int (nI (1 + 5))), o), g2, by omega, ?_, up40, Fg_tr hFr Fg_up, by show Iv c (up B 40 (8 + 14 * f + 3) (crW (B 40) f h) 40); rw [up40]; exact hjj'⟩
        rw [← ec]
        split <;> rfl
      · rw [l1, if_pos rfl, if_pos rfl, nI_p1]
        exact ⟨(B, _, _, _, _, _), g + 7, by omega, rfl, rfl, hFr, hJ⟩
  · rintro g ⟨B, o2, o3, o4, o5, o6⟩ ⟨hB, hFr, hJ⟩
    simp only at hB hFr hJ
    rw [show g + 8 = (g + 7) + 1 from rfl, g_X12_spring_2, if_pos (by decide)]
    exact ⟨B, rfl, hB, hFr, hJ⟩
end YearA
