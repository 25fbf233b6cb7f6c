/-! what a tenant has to pay, and what it is owed -/
section RentB
variable {S : sT} {d c : Nat} {k : Value} {E : List dsc} {A : fA} {L : fL} {T : fT} {W : fW}
theorem c_lease {h a : Nat} (h2 : h < 24) (ht : T 13 h = some a) : ex S (d + 1) 183 [.ref 11, .int (nI h)] (Hh k E A L T) = some (.inl (some (.ref a)), Hh k E A L T) := by
  rw [x_X1_leaseOf, g_X1_leaseOf_0, if_neg (nI_pos (by omega)), if_neg (show ¬ (24 : Int32) ≤ nI h from nI_ge (b := 24) h2 (by decide))]
  simp -implicitDefEqProofs only [hv_11_2, an_13 h2, ht, q_rf, q_iR, q_zr]
theorem lease_of {h : Nat} (h0 : LkA 4 k E A T W) (hh : h < hn W) (hk : W (1684 + 11 * h + 0) = 0 ∨ W (1684 + 11 * h + 0) = 1) : ∃ a b nl nc, T 13 h = some a ∧ TX k E A a b nl nc W (tx (12 + h)) := by
  obtain ⟨a, h1, h2⟩ := h0.2.2.2.2.2.2.1.2.2.2 h hh hk
  obtain ⟨b, nl, nc, h3⟩ := TR_X h2
  exact ⟨a, b, nl, nc, h1, h3⟩
/-- a tenant's facts -/
def fcH (W : fW) (h : Nat) : Nat → Int64 := fc0 W (W (1684 + 11 * h + 1)) (W (1684 + 11 * h + 2))
theorem c_learnT {h : Nat} (hI : Iv c W) (h0 : LkA 4 k E A T W) (h36 : A 36 0 = 0 ∧ A 36 5 = 0) (hh : h < hn W) : ∃ L', ex S (d + 3) 197 [.ref 4, .int (nI h)] (Hh k E A L T) = some (.inl none, Hh k E (upR A 36 (prR W (A 36) (pn W))) L' T) ∧ (∀ j, j < 11 → L' 37 j = fcH W h j) ∧ ∀ r, r ≠ 37 → L' r = L r := by
  have hC : LkC (A 12) W h := h0.2.2.2.2.2.2.1.2.1 h hh
  have h2 : h < 24 := by have := hI.2.2.2.2.1.2.1; omega
  obtain ⟨L1, e1, e2, e3⟩ := c_learnF (S := S) (d := d) (k := k) (E := E) (L := L) (T := T) (x := W (1684 + 11 * h + 1)) (y := W (1684 + 11 * h + 2)) h0.1 h0.2.2.1 hI.2.2.2.1 h36
  refine ⟨L1, ?_, e2, e3⟩
  simp -implicitDefEqProofs only [x_X0_learnFactsOfTenant, g_X0_learnFactsOfTenant_0, hv_4_2, hc_11, gH_2 hC h2, gH_3 hC h2, q_I, hc_4, e1, q_U]
theorem kn_rg (hp : IvPr W) {x y z : Int32} {n : Nat} (hn : n ≤ pn W) : rg (knF W x y z n) 0 100 := by
  induction n with
  | zero => show rg 10 0 100; unfold rg; decide
  | succ n ih =>
    rw [knF_s]
    have h1 := ih (by omega)
    have h2 := (hp.2.2 n (by omega)).2.1
    split
    · split
      · split
        · exact h1
        · exact h2
      · exact h1
    · exact h1
theorem pr_rg (hp : IvPr W) (x : Int32) : rg (prW W x) 0 100 := by
  unfold prW
  split
  · unfold rg; decide
  · split
    · unfold rg; decide
    · exact kn_rg hp (Nat.le_refl _)
/-- sums of small numbers -/
theorem sumJ_b {g : Nat → Int64} {b : Int} {m : Nat} (hb : 0 ≤ b) (hm : m * b ≤ 4000000000000) (h : ∀ i, i < m → 0 ≤ (g i).toInt ∧ (g i).toInt ≤ b) : 0 ≤ (sumJ g m).toInt ∧ (sumJ g m).toInt ≤ m * b := by
  induction m with
  | zero => exact ⟨by show (0 : Int) ≤ (0 : Int64).toInt; decide, by show (0 : Int64).toInt ≤ _; rw [show (0 : Int64).toInt = 0 from rfl]; omega⟩
  | succ m ih =>
    have e : ((m + 1 : Nat) : Int) * b = m * b + b := by rw [Int.natCast_add, Int.add_mul]; simp
    rw [e] at hm ⊢
    have h1 := ih (by omega) (fun i hi => h i (by omega))
    have h2 := h m (by omega)
    show 0 ≤ (sumJ g m + g m).toInt ∧ (sumJ g m + g m).toInt ≤ _
    rw [a64 (by omega) (by omega)]
    omega
theorem sumI_64 {g : Nat → Int32} {b : Int} {m : Nat} (hb : 0 ≤ b) (hm : m * b ≤ 2147483647) (h : ∀ i, i < m → rg (g i) 0 b) : (sumI g m).toInt64 = sumJ (fun i => (g i).toInt64) m := by
  have key : (sumI g m).toInt64 = sumJ (fun i => (g i).toInt64) m ∧ 0 ≤ (sumI g m).toInt ∧ (sumI g m).toInt ≤ m * b := by
    induction m with
    | zero => exact ⟨by show (0 : Int32).toInt64 = (0 : Int64); decide, by show (0 : Int) ≤ (0 : Int32).toInt; decide, by show (0 : Int32).toInt ≤ _; rw [show (0 : Int32).toInt = 0 from rfl]; omega⟩
    | succ m ih =>
      have e : ((m + 1 : Nat) : Int) * b = m * b + b := by rw [Int.natCast_add, Int.add_mul]; simp
      rw [e] at hm ⊢
      obtain ⟨h1, h2, h3⟩ := ih (by omega) (fun i hi => h i (by omega))
      obtain ⟨h4, h5⟩ := h m (by omega)
      have e2 : (sumI g m + g m).toInt = (sumI g m).toInt + (g m).toInt := a32 (by omega) (by omega)
      refine ⟨?_, ?_⟩
      · show (sumI g m + g m).toInt64 = sumJ (fun i => (g i).toInt64) m + (g m).toInt64
        rw [← h1]
        apply Int64.toInt_inj.mp
        rw [w64, e2, a64 (by rw [w64, w64]; omega) (by rw [w64, w64]; omega), w64, w64]
      · show 0 ≤ (sumI g m + g m).toInt ∧ (sumI g m + g m).toInt ≤ _
        rw [e2]; omega
  exact key.1
theorem shB_rg {B nl nc n : Nat} {s : Int32} {Fc : Nat → Int64} (hw : WT W B nl nc) (hn : n < nl) : rg (shB W B s Fc n) 0 999999 := by
  unfold shB
  split
  · exact (hw.2.2.2 n hn).2.1
  · unfold rg; decide
theorem kp_32 {j : Int64} (h1 : -2000000000 ≤ j.toInt) (h2 : j.toInt ≤ 2000000000) : kp j = j.toInt32 := by
  apply i32_ext
  rw [kp_toInt, ← w64 j.toInt32, r64 ⟨by omega, by omega⟩]
  omega
/-- corn: so much for each of a crop's prices -/
def crJ (W : fW) (B n : Nat) : Int64 := if W (B + 2 + 6 * n) = 1 then (W (B + 2 + 6 * n + 1)).toInt64 * (prW W (W (B + 2 + 6 * n + 2))).toInt64 else 0
def rnJ (W : fW) (h : Nat) : Int64 := sumJ (fun n => (shB W (tx (12 + h)) 0 (fcH W h) n).toInt64 + crJ W (tx (12 + h)) n) (lnT W (12 + h))
def rnW (W : fW) (h : Nat) : Int32 := (rnJ W h).toInt32
theorem rn_rg {h nl nc : Nat} (hp : IvPr W) (hw : WT W (tx (12 + h)) nl nc) : 0 ≤ (rnJ W h).toInt ∧ (rnJ W h).toInt ≤ 1599998400 := by
  unfold rnJ
  rw [lnT_eq hw]
  have h16 := hw.2.1
  have key := sumJ_b (g := fun n => (shB W (tx (12 + h)) 0 (fcH W h) n).toInt64 + crJ W (tx (12 + h)) n) (b := 99999900) (m := nl) (by decide) (by omega) (fun n hn => by
    obtain ⟨a1, a2⟩ := (hw.2.2.2 n hn).2.1
    obtain ⟨p1, p2⟩ := pr_rg hp (W (tx (12 + h) + 2 + 6 * n + 2))
    unfold crJ shB hm
    by_cases c1 : W (tx (12 + h) + 2 + 6 * n) = 1
    · have c0 : ¬ (1 : Int32) = 0 := by decide
      simp -implicitDefEqProofs only [c1, c0, decide_false, Bool.false_and, if_true]
      rw [if_neg (by decide)]
      have m1 : 0 ≤ (W (tx (12 + h) + 2 + 6 * n + 1)).toInt * (prW W (W (tx (12 + h) + 2 + 6 * n + 2))).toInt := Int.mul_nonneg a1 p1
      have m2 : (W (tx (12 + h) + 2 + 6 * n + 1)).toInt * (prW W (W (tx (12 + h) + 2 + 6 * n + 2))).toInt ≤ 999999 * 100 := Int.mul_le_mul a2 p2 p1 (by decide)
      have e1 : ((W (tx (12 + h) + 2 + 6 * n + 1)).toInt64 * (prW W (W (tx (12 + h) + 2 + 6 * n + 2))).toInt64).toInt = (W (tx (12 + h) + 2 + 6 * n + 1)).toInt * (prW W (W (tx (12 + h) + 2 + 6 * n + 2))).toInt := by
        rw [m64 (by rw [w64, w64]; omega) (by rw [w64, w64]; omega), w64, w64]
      have e2 : (0 : Int32).toInt64 = (0 : Int64) := by decide
      rw [e2, Int64.zero_add, e1]
      omega
    · rw [if_neg c1, Int64.add_zero, w64]
      split
      · omega
      · decide)
  omega
theorem c_rentOf {h : Nat} (hI : Iv c W) (h0 : LkA 4 k E A T W) (h36 : A 36 0 = 0 ∧ A 36 5 = 0) (hh : h < hn W) (hk : W (1684 + 11 * h + 0) = 0 ∨ W (1684 + 11 * h + 0) = 1) : ∃ L', ex S (d + 4) 201 [.ref 4, .int (nI h)] (Hh k E A L T) = some (.inl (some (.int (rnW W h))), Hh k E (upR A 36 (prR W (A 36) (pn W))) L' T) ∧ ∀ r, r ≠ 37 → L' r = L r := by
  have h2 : h < 24 := by have := hI.2.2.2.2.1.2.1; omega
  obtain ⟨L1, e1, e2, e3⟩ := c_learnT (S := S) (d := d) (L := L) hI h0 h36 hh
  have h1 : LkA 4 k E (upR A 36 (prR W (A 36) (pn W))) T W := Lk_36 h0
  have hO : PrOk (upR A 36 (prR W (A 36) (pn W))) W := PrOk_of h36
  generalize upR A 36 (prR W (A 36) (pn W)) = B at *
  obtain ⟨a, b, nl, nc, ha, hX⟩ := lease_of h1 hh hk
  obtain ⟨L2, f1, f2, f3⟩ := c_sumT (S := S) (d := d) (L := L1) (T := T) (s := 0) hX (Or.inl (by unfold rg; decide)) e2
  obtain ⟨n1, n2⟩ := tx_n hX
  have hw := hX.2.2.2.1
  have hl := lnT_eq hw
  have t1 := hX.1
  have t3 := hX.2.2.1
  rw [show vb 0 = 24 by decide] at f1
  rw [x_X0_rentOf, g_X0_rentOf_0]
  simp -implicitDefEqProofs only [hc_4, e1, q_U, hv_4_2, hc_11, c_lease h2 ha, q_A, q_iR, hv_4_9, tc t1, f1, q_I, q_nr]
  have er : kp ((shT W (12 + h) 0 (fcH W h)).toInt64 + sumJ (crJ W (tx (12 + h))) nl) = rnW W h := by
    have eJ : (shT W (12 + h) 0 (fcH W h)).toInt64 + sumJ (crJ W (tx (12 + h))) nl = rnJ W h := by
      unfold rnJ shT
      rw [hl, sumJ_add, sumI_64 (b := 999999) (by decide) (by omega) (fun i hi => shB_rg hw hi)]
    obtain ⟨r1, r2⟩ := rn_rg (h := h) hI.2.2.2.1 hw
    rw [eJ, kp_32 (by omega) (by omega)]
    rfl
  have e0 : (shT W (12 + h) 0 (fcH W h)).toInt64 = (shT W (12 + h) 0 (fcH W h)).toInt64 + sumJ (crJ W (tx (12 + h))) 0 := (Int64.add_zero _).symm
  rw [e0, ← er]
  generalize (shT W (12 + h) 0 (fcH W h)).toInt64 = z
  refine ⟨L2, ?_, fun r hr => (f3 r hr).trans (e3 r hr)⟩
  refine loop_Q (α := Unit) (F := fun g i _ => bd S (ex S (d + 3)) dflT E_X0_rentOf g 29 [some (.ref 4), some (.int (nI h)), some (.ref a), some (.long (z + sumJ (crJ W (tx (12 + h))) i)), none, some (.int (nI i))] [] (Hh k E B L2 T)) (N := nl) (P := fun _ _ => True) (Q := fun r => r = some (.inl (some (.int (kp (z + sumJ (crJ W (tx (12 + h))) nl)))), Hh k E B L2 T)) ?_ ?_ (s := ()) trivial (by omega)
  · rintro g i - hi -
    right
    refine ⟨(), ?_, trivial⟩
    have g0 : ¬ nI nl ≤ nI i := nI_ge hi (by omega)
    have e : sumJ (crJ W (tx (12 + h))) (i + 1) = sumJ (crJ W (tx (12 + h))) i + crJ W (tx (12 + h)) i := rfl
    have ev := vb_eq2 (s := 1) (hw.2.2.2 i hi).1 (Or.inl (by unfold rg; decide))
    rw [show vb 1 = 25 by decide] at ev
    show bd S (ex S (d + 3)) dflT E_X0_rentOf (g + 1) 29 _ [] _ = _
    rw [g_X0_rentOf_29]
    simp -implicitDefEqProofs only [q_iR, tl t1, t3, if_neg g0, tc t1, c_tg0 hX hi, q_I]
    by_cases c1 : W (tx (12 + h) + 2 + 6 * i) = 1
    · have e5 : fs (W (tx (12 + h) + 2 + 6 * i)) (W (tx (12 + h) + 2 + 6 * i + 2)) = W (tx (12 + h) + 2 + 6 * i + 2) := by rw [c1]; unfold fs; rw [if_pos rfl]
      rw [if_pos (ev.mpr c1)]
      simp -implicitDefEqProofs only [q_iR, tc t1, c_tg1 hX hi, c_tg2 hX hi, q_I, e5, hc_4, c_prc hO, q_nr, nI_p1]
      rw [e, show crJ W (tx (12 + h)) i = _ from if_pos c1, Int64.add_assoc]
    · rw [if_neg (fun q => c1 (ev.mp q)), e, show crJ W (tx (12 + h)) i = _ from if_neg c1, Int64.add_zero, nI_p1]
  · rintro g - -
    show bd S (ex S (d + 3)) dflT E_X0_rentOf (g + 1) 29 _ [] _ = _
    rw [g_X0_rentOf_29]
    simp -implicitDefEqProofs only [q_iR, tl t1, t3, if_pos (Int32.le_refl (nI nl)), c_capped, q_Ix]
theorem r_rentOf {h : Nat} (hI : Iv c (A 40)) (hh : h < hn (A 40)) (hk : A 40 (1684 + 11 * h + 0) = 0 ∨ A 40 (1684 + 11 * h + 0) = 1) : ∃ L', ex S (d + 4) 240 [.ref 39, .int (nI h)] (Hh k E A L T) = some (.inl (some (.int (rnW (A 40) h))), Hh k E A L' T) ∧ ∀ r, r ≠ 44 → r ≠ 45 → L' r = L r := by
  have h2 : h < 24 := by have := hI.2.2.2.2.1.2.1; omega
  obtain ⟨nl, nc, hw⟩ := (hI.2.2.2.2.1.2.2 h hh).2.2.2.2.2.2.2.2.2.2 hk
  have hl := lnT_eq hw
  have n1 := hw.2.1
  have w1 := hw.1
  obtain ⟨L1, e1, e2, e3⟩ := r_looksH (S := S) (d := d) (k := k) (E := E) (L := L) (T := T) h2 (pr_of hI)
  rw [x_X12_rentOf, g_X12_rentOf_0]
  simp -implicitDefEqProofs only [hc_39, e1, q_U]
  have e12 : (12 : Int32) + nI h = nI (12 + h) := by rw [show (12 : Int32) = nI 12 from rfl, nI_add]
  unfold rnW rnJ
  rw [hl]
  refine loop_QK (K := 2) (α := fL × Option Value) (F := fun g i M => bd S (ex S (d + 3)) dflT E_X12_rentOf g 11 [some (.ref 39), some (.int (nI h)), some (.long (sumJ (fun n => (shB (A 40) (tx (12 + h)) 0 (fcH (A 40) h) n).toInt64 + crJ (A 40) (tx (12 + h)) n) i)), none, some (.int (nI i)), M.2] [] (Hh k E A M.1 T)) (N := nl) (P := fun _ M => (∀ j, j < 11 → M.1 45 j = fcH (A 40) h j) ∧ ∀ r, r ≠ 44 → r ≠ 45 → M.1 r = L r) (Q := fun r => ∃ L', r = some (.inl (some (.int (sumJ (fun n => (shB (A 40) (tx (12 + h)) 0 (fcH (A 40) h) n).toInt64 + crJ (A 40) (tx (12 + h)) n) nl).toInt32)), Hh k E A L' T) ∧ ∀ r, r ≠ 44 → r ≠ 45 → L' r = L r) ?_ ?_ (s := (L1, none)) ⟨e2, fun r _ r2 => e3 r r2⟩ (by omega)
  · rintro g i ⟨M, o⟩ hi ⟨m1, m2⟩
    simp only at m1 m2
    right
    have g0 : ¬ nI nl ≤ nI i := nI_ge hi (by omega)
    have e : sumJ (fun n => (shB (A 40) (tx (12 + h)) 0 (fcH (A 40) h) n).toInt64 + crJ (A 40) (tx (12 + h)) n) (i + 1) = sumJ (fun n => (shB (A 40) (tx (12 + h)) 0 (fcH (A 40) h) n).toInt64 + crJ (A 40) (tx (12 + h)) n) i + ((shB (A 40) (tx (12 + h)) 0 (fcH (A 40) h) i).toInt64 + crJ (A 40) (tx (12 + h)) i) := rfl
    obtain ⟨M', r1, r2, r3⟩ := r_holds (S := S) (d := d) (k := k) (E := E) (A := A) (L := M) (T := T) hw (show 12 + h < 37 by omega) hi m1
    generalize hZ : sumJ (fun n => (shB (A 40) (tx (12 + h)) 0 (fcH (A 40) h) n).toInt64 + crJ (A 40) (tx (12 + h)) n) i = z at *
    have b0 : tx (12 + h) + 2 + 6 * i < 35877 := by unfold tx; omega
    have b1 : tx (12 + h) + 2 + 6 * i + 1 < 35877 := by unfold tx; omega
    have b2 : tx (12 + h) + 2 + 6 * i + 2 < 35877 := by unfold tx; omega
    have k71 : ∀ (g : Nat) (y : Int64) (M : fL), bd S (ex S (d + 3)) dflT E_X12_rentOf (g + 1) 71 [some (.ref 39), some (.int (nI h)), some (.long y), none, some (.int (nI i)), some (.int (nI (tx (12 + h) + 2 + 6 * i)))] [] (Hh k E A M T) = bd S (ex S (d + 3)) dflT E_X12_rentOf g 11 [some (.ref 39), some (.int (nI h)), some (.long (y + crJ (A 40) (tx (12 + h)) i)), none, some (.int (nI (i + 1))), some (.int (nI (tx (12 + h) + 2 + 6 * i)))] [] (Hh k E A M T) := by
      intro g y M
      rw [g_X12_rentOf_71]
      simp -implicitDefEqProofs only [hv_39_1, an_40 b0]
      by_cases c1 : A 40 (tx (12 + h) + 2 + 6 * i) = 1
      · rw [if_pos c1, show crJ (A 40) (tx (12 + h)) i = _ from if_pos c1]
        simp -implicitDefEqProofs only [nI_p1, show nI (tx (12 + h) + 2 + 6 * i) + 2 = nI (tx (12 + h) + 2 + 6 * i + 2) from by rw [show (2 : Int32) = nI 2 from rfl, nI_add], an_40 b1, an_40 b2, hv_39_1, hc_39, r_prc (pr_of hI), q_I]
      · rw [if_neg c1, show crJ (A 40) (tx (12 + h)) i = _ from if_neg c1, Int64.add_zero, nI_p1]
    rw [show g + 2 = (g + 1) + 1 from rfl, g_X12_rentOf_11]
    simp -implicitDefEqProofs only [hc_39, e12, r_lns (show 12 + h < 37 by omega), w1, q_I, if_neg g0, r_lat, hv_39_1, an_40 b0]
    by_cases c0 : A 40 (tx (12 + h) + 2 + 6 * i) = 0
    · rw [if_pos c0, r1]
      simp -implicitDefEqProofs only [q_I]
      rcases hl_c (W := A 40) (tx (12 + h)) i (fcH (A 40) h) with zz | zz
      · have e9 : shB (A 40) (tx (12 + h)) 0 (fcH (A 40) h) i = 0 := by unfold shB hm; simp [zz]
        rw [zz, if_pos rfl, k71, e, e9, show (0 : Int32).toInt64 = (0 : Int64) by decide, Int64.zero_add]
        exact ⟨(M', _), g, Nat.le_refl _, rfl, r2, fun r hr hr2 => (r3 r hr).trans (m2 r hr hr2)⟩
      · have e9 : shB (A 40) (tx (12 + h)) 0 (fcH (A 40) h) i = A 40 (tx (12 + h) + 2 + 6 * i + 1) := by unfold shB hm; simp [zz, c0]
        rw [zz, if_neg (by decide)]
        simp -implicitDefEqProofs only [hv_39_1, nI_p1, an_40 b1]
        rw [k71, e, e9, Int64.add_assoc]
        exact ⟨(M', _), g, Nat.le_refl _, rfl, r2, fun r hr hr2 => (r3 r hr).trans (m2 r hr hr2)⟩
    · have e9 : shB (A 40) (tx (12 + h)) 0 (fcH (A 40) h) i = 0 := by unfold shB hm; simp [c0]
      rw [if_neg c0, k71, e, e9, show (0 : Int32).toInt64 = (0 : Int64) by decide, Int64.zero_add]
      exact ⟨(M, _), g, Nat.le_refl _, rfl, m1, m2⟩
  · rintro g ⟨M, o⟩ ⟨m1, m2⟩
    simp only at m1 m2
    rw [show g + 2 = (g + 1) + 1 from rfl, g_X12_rentOf_11]
    simp -implicitDefEqProofs only [hc_39, e12, r_lns (show 12 + h < 37 by omega), w1, q_I, if_pos (Int32.le_refl (nI nl))]
    exact ⟨M, rfl, m2⟩
theorem p_rent (hR : Rel c k E A T) (x : Int32) : PK c S (d + 6) k E A T 270 272 [.int x] cdF := by
  have hI := Rel_w hR
  have h1 := hI.2.2.2.2.1.1
  have h24 := hI.2.2.2.2.1.2.1
  have l1 : A 11 0 = nI (hn (A 40)) := (Rel_h hR).1.trans h1
  rcases idx_c x (n := hn (A 40)) (by omega) with ⟨h, hh, rfl, hw⟩ | ⟨hx, hw⟩
  · have hC := (Rel_h hR).2.1 h hh
    have hH := hI.2.2.2.2.1.2.2 h hh
    have h2 : h < 24 := by omega
    rcases let_c hH with ⟨hl, hk⟩ | ⟨hl, hk⟩
    · refine PK_v (v := some (.int (rnW (A 40) h))) (V := A 40) hR (Iv_c (Nat.le_succ c) hI) (fun L => ?_) (fun B M hB => ?_)
      · obtain ⟨L1, e1, e2⟩ := c_rentOf (S := S) (d := d + 1) (L := L) hI hR.2.1 (Rel_36 hR) hh hk
        refine ⟨upR A 36 (prR (A 40) (A 36) (pn (A 40))), L1, ?_, Fr_36, Lk_36 hR.2.1⟩
        simp -implicitDefEqProofs only [x_X11_rent, g_X11_rent_0, hc_0, c_nh1 l1 hh (show hn (A 40) < 2 ^ 31 by omega), q_U, hv_0_1, hv_4_2, hc_11, c_isLet hC hH h2, q_I, hl, c_kd1, hc_4, e1]
      · obtain ⟨L1, e1, e2⟩ := r_rentOf (S := S) (d := d + 1) (k := k) (E := E) (L := M) (T := T) (A := up B 39 0 0) (h := h) (by rw [u40_39, hB]; exact hI) (by rw [u40_39, hB]; exact hh) (by rw [u40_39, hB]; exact hk)
        rw [u40_39, hB] at e1
        refine ⟨_, L1, ?_, e2 48 (by decide) (by decide), Fg_refl, by rw [u40_39, hB]⟩
        have w2 : up B 39 0 0 40 1683 = nI (hn (A 40)) := by rw [u40_39, hB]; exact h1
        simp -implicitDefEqProofs only [x_X12_rent, g_X12_rent_0, hp_39_0, hc_39, r_nh1 w2 hw, q_I, r_thr0, i0_0, i1_0, if_true, if_false, r_isLet h2, u40_39, hB, hl, e1]
    · refine PK_e (e := 2) (x := 2) hR rfl (fun L => ?_) (fun M => ⟨some (.int 0), rfl, ?_⟩)
      · simp -implicitDefEqProofs only [x_X11_rent, g_X11_rent_0, hc_0, c_nh1 l1 hh (show hn (A 40) < 2 ^ 31 by omega), q_U, hv_0_1, hv_4_2, hc_11, c_isLet hC hH h2, q_I, hl, c_kd0, q_Ue]
      · have w2 : up A 39 0 0 40 1683 = nI (hn (A 40)) := h1
        simp -implicitDefEqProofs only [x_X12_rent, g_X12_rent_0, hp_39_0, hc_39, r_nh1 w2 hw, q_I, r_thr0, r_thr1, i0_0, i1_0, if_true, if_false, r_isLet h2, u40_39, hl, up_up]
  · refine PK_e (e := 0) (x := 1) hR rfl (fun L => ?_) (fun M => ⟨some (.int 0), rfl, ?_⟩)
    · simp -implicitDefEqProofs only [x_X11_rent, g_X11_rent_0, hc_0, c_nh0 l1 hx, q_Ue]
    · have w2 : up A 39 0 0 40 1683 = nI (hn (A 40)) := h1
      simp -implicitDefEqProofs only [x_X12_rent, g_X12_rent_0, hp_39_0, hc_39, r_nh0 w2 hw, q_I, r_thr1, i1_0, if_false, up_up]
end RentB
