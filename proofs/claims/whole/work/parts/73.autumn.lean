/-! autumn: what the tenants have to pay -/
section YearE
variable {S : sT} {d c : Nat} {k : Value} {E : List dsc} {A : fA} {L : fL} {T : fT} {W : fW}
/-- the last game line's number -/
def hrN (W : fW) (B : Nat) : Nat → Int32
  | 0 => 0
  | n + 1 => if W (B + 2 + 6 * n) = 6 then W (B + 2 + 6 * n + 1) else hrN W B n
theorem hr_no {B n : Nat} (h : ∀ j, j < n → ¬ W (B + 2 + 6 * j) = 6) : hrN W B n = 0 := by
  induction n with
  | zero => rfl
  | succ n ih => unfold hrN; rw [if_neg (h n (by omega))]; exact ih (fun j hj => h j (by omega))
theorem hr_at {B n j : Nat} (hj : j < n) (h : W (B + 2 + 6 * j) = 6) (hl : ∀ i, j < i → i < n → ¬ W (B + 2 + 6 * i) = 6) : hrN W B n = W (B + 2 + 6 * j + 1) := by
  induction n with
  | zero => omega
  | succ n ih =>
    unfold hrN
    by_cases q : j = n
    · subst q; rw [if_pos h]
    · rw [if_neg (hl n (by omega) (by omega))]; exact ih (by omega) (fun i h1 h2 => hl i h1 (by omega))
theorem hr_rg {B nl nc n : Nat} (hw : WT W B nl nc) (hn : n ≤ nl) : rg (hrN W B n) 0 100 := by
  induction n with
  | zero => unfold hrN rg; decide
  | succ n ih =>
    unfold hrN
    split
    · rename_i q; exact (hw.2.2.2 n (by omega)).2.2.1 (Or.inr (Or.inl q))
    · exact ih (by omega)
/-- what game has eaten on a holding's field -/
def eaG (W : fW) (h f : Nat) : Int32 := if W (8 + 14 * f + 10) = nI h then W (8 + 14 * f + 12) * prW W (W (8 + 14 * f + 13)) else 0
def hmW (W : fW) (h : Nat) : Int32 := (sumI (eaG W h) 48 * hrN W (tx (12 + h)) (lnT W (12 + h))) / 100
theorem eaG_rg {h f : Nat} (hI : Iv c W) (hf : f < 48) : rg (eaG W h f) 0 2400 := by
  unfold eaG
  split
  · exact (mul_rg (hI.2.1 f hf).2.2.2.2.2.2.2.2.2.2.2.1 (pr_rg hI.2.2.2.1 _) (by decide)).1
  · unfold rg; decide
theorem sumI_rg {g : Nat → Int32} {b : Int} {m : Nat} (hb : 0 ≤ b) (hm : m * b ≤ 2147483647) (h : ∀ i, i < m → rg (g i) 0 b) : rg (sumI g m) 0 (m * b) := by
  induction m with
  | zero => exact ⟨by show (0 : Int) ≤ (0 : Int32).toInt; decide, by show (0 : Int32).toInt ≤ _; rw [show (0 : Int32).toInt = 0 from rfl]; omega⟩
  | succ m ih =>
    have e : ((m + 1 : Nat) : Int) * b = m * b + b := by rw [Int.natCast_add, Int.add_mul]; simp
    rw [e] at hm ⊢
    obtain ⟨h1, h2⟩ := ih (by omega) (fun i hi => h i (by omega))
    obtain ⟨h4, h5⟩ := h m (by omega)
    have e2 : (sumI g m + g m).toInt = (sumI g m).toInt + (g m).toInt := a32 (by omega) (by omega)
    show 0 ≤ (sumI g m + g m).toInt ∧ (sumI g m + g m).toInt ≤ _
    rw [e2]; omega
theorem c_harm {h : Nat} (hT : Ti c k E T A W) (hh : h < hn W) (hk : W (1684 + 11 * h + 0) = 0 ∨ W (1684 + 11 * h + 0) = 1) : ex S (d + 4) 202 [.ref 38, .int (nI h)] (Hh k E A L T) = some (.inl (some (.int (hmW W h))), Hh k E A L T) := by
  obtain ⟨hI, h0, hO⟩ := hT
  have h2 : h < 24 := by have := hI.2.2.2.2.1.2.1; omega
  obtain ⟨a, b, nl, nc, ha, hX⟩ := lease_of h0 hh hk
  obtain ⟨n1, n2⟩ := tx_n hX
  have hw := hX.2.2.2.1
  have hl := lnT_eq hw
  have t1 := hX.1
  have hL : LkL (A 10) W := h0.2.1
  have lo := c_lastOf (S := S) (d := d + 1) (L := L) (T := T) (v := 30) (th := 0) hX
  have ev : ∀ n, n < nl → ((decide (vb (W (tx (12 + h) + 2 + 6 * n)) = 30) && decide (fs (W (tx (12 + h) + 2 + 6 * n)) (W (tx (12 + h) + 2 + 6 * n + 2)) = 0)) = true ↔ W (tx (12 + h) + 2 + 6 * n) = 6) := by
    intro n hn
    have ev := vb_eq2 (s := 6) (hw.2.2.2 n hn).1 (Or.inl (by unfold rg; decide))
    rw [show vb 6 = 30 by decide] at ev
    rw [Bool.and_eq_true, decide_eq_true_eq, decide_eq_true_eq]
    constructor
    · rintro ⟨q, -⟩; exact ev.mp q
    · intro q; exact ⟨ev.mpr q, by rw [q]; rfl⟩
  have key : ∃ y, ex S (d + 3) 89 [.ref a, .int 30, .int 0] (Hh k E A L T) = some (.inl (some (.int y)), Hh k E A L T) ∧ ex S (d + 3) 88 [.ref a, .int 1, .int y] (Hh k E A L T) = some (.inl (some (.int (hrN W (tx (12 + h)) nl))), Hh k E A L T) := by
    rcases lst_cc (fun n => decide (vb (W (tx (12 + h) + 2 + 6 * n)) = 30) && decide (fs (W (tx (12 + h) + 2 + 6 * n)) (W (tx (12 + h) + 2 + 6 * n + 2)) = 0)) nl with ⟨e1, e2⟩ | ⟨j, e0, e1, e2, e3⟩
    · refine ⟨_, lo, ?_⟩
      rw [e1, c_tgN hX, hr_no (fun j hj q => by have := e2 j hj; rw [(ev j hj).mpr q] at this; cases this)]
    · refine ⟨_, lo, ?_⟩
      rw [e1, c_tg1 hX e0, hr_at e0 ((ev j e0).mp e2) (fun i h1 h2 q => by have := e3 i h1 h2; rw [(ev i h2).mpr q] at this; cases this)]
  obtain ⟨y, k1, k2⟩ := key
  rw [x_X10_harmOfGame, g_X10_harmOfGame_0]
  simp -implicitDefEqProofs only [hv_38_2, hc_11, c_lease h2 ha, q_A, q_iR, tc t1, k1, k2, q_I, q_nr]
  unfold hmW
  rw [hl]
  refine loop_Q (α := Unit) (F := fun g i _ => bd S (ex S (d + 3)) dflT E_X10_harmOfGame g 28 [some (.ref 38), some (.int (nI h)), some (.ref a), some (.int (hrN W (tx (12 + h)) nl)), some (.int (sumI (eaG W h) i)), some (.int (nI i))] [] (Hh k E A L T)) (N := 48) (P := fun _ _ => True) (Q := fun r => r = some (.inl (some (.int ((sumI (eaG W h) 48 * hrN W (tx (12 + h)) nl) / 100))), Hh k E A L T)) ?_ ?_ (s := ()) trivial (by decide)
  · rintro g f - hf -
    right
    refine ⟨(), ?_, trivial⟩
    have e : sumI (eaG W h) (f + 1) = sumI (eaG W h) f + eaG W h f := rfl
    rw [g_X10_harmOfGame_28, if_neg (show ¬ (48 : Int32) ≤ nI f from nI_ge (b := 48) hf (by decide))]
    simp -implicitDefEqProofs only [hv_38_1, hc_9, gL_10 hL hf, q_I]
    rw [e]
    by_cases q : W (8 + 14 * f + 10) = nI h
    · rw [if_pos q, show eaG W h f = _ from if_pos q]
      simp -implicitDefEqProofs only [hv_38_1, hc_9, gL_12 hL hf, q_I, hv_38_0, gL_13 hL hf, hc_4, c_prc hO, nI_p1]
    · rw [if_neg q, show eaG W h f = _ from if_neg q, Int32.add_zero, nI_p1]
  · rintro g - -
    rw [g_X10_harmOfGame_28, if_pos (by decide), dv_100]
/-- the greatest put line that holds -/
def puN (W : fW) (B : Nat) (Fc : Nat → Int64) : Nat → Int32
  | 0 => -1
  | n + 1 => if hm W B 5 Fc n = true then (if puN W B Fc n < W (B + 2 + 6 * n + 1) then W (B + 2 + 6 * n + 1) else puN W B Fc n) else puN W B Fc n
theorem pu_rg {B nl nc n : Nat} {Fc : Nat → Int64} (hw : WT W B nl nc) (hn : n ≤ nl) : puN W B Fc n = -1 ∨ rg (puN W B Fc n) 0 100 := by
  induction n with
  | zero => exact Or.inl rfl
  | succ n ih =>
    have := ih (by omega)
    unfold puN
    split
    · rename_i q
      unfold hm at q
      simp -implicitDefEqProofs only [Bool.and_eq_true, decide_eq_true_eq] at q
      split
      · exact Or.inr ((hw.2.2.2 n (by omega)).2.2.1 (Or.inl q.1))
      · exact this
    · exact this
def puW (W : fW) (h : Nat) : Int32 := puN W (tx (12 + h)) (fcH W h) (lnT W (12 + h))
theorem c_put {h : Nat} (hI : Iv c W) (h0 : LkA 4 k E A T W) (h36 : A 36 0 = 0 ∧ A 36 5 = 0) (hh : h < hn W) (hk : W (1684 + 11 * h + 0) = 0 ∨ W (1684 + 11 * h + 0) = 1) : ∃ L', ex S (d + 4) 203 [.ref 38, .int (nI h)] (Hh k E A L T) = some (.inl (some (.int (puW W h))), Hh k E (upR A 36 (prR W (A 36) (pn W))) L' T) := by
  have h2 : h < 24 := by have := hI.2.2.2.2.1.2.1; omega
  obtain ⟨L1, e1, e2, e3⟩ := c_learnT (S := S) (d := d) (L := L) hI h0 h36 hh
  have h1 : LkA 4 k E (upR A 36 (prR W (A 36) (pn W))) T W := Lk_36 h0
  generalize upR A 36 (prR W (A 36) (pn W)) = B at *
  obtain ⟨a, b, nl, nc, ha, hX⟩ := lease_of h1 hh hk
  obtain ⟨n1, n2⟩ := tx_n hX
  have hw := hX.2.2.2.1
  have hl := lnT_eq hw
  have t1 := hX.1
  have t3 := hX.2.2.1
  rw [x_X10_hundredthsPut, g_X10_hundredthsPut_0]
  simp -implicitDefEqProofs only [hv_38_0, hc_4, e1, q_U, hv_38_2, hc_11, c_lease h2 ha, q_A, q_iR, q_nr]
  unfold puW
  rw [hl]
  refine loop_Q (α := fL) (F := fun g i M => bd S (ex S (d + 3)) dflT E_X10_hundredthsPut g 22 [some (.ref 38), some (.int (nI h)), some (.ref a), some (.int (puN W (tx (12 + h)) (fcH W h) i)), some (.int (nI i))] [] (Hh k E B M T)) (N := nl) (P := fun _ M => ∀ j, j < 11 → M 37 j = fcH W h j) (Q := fun r => ∃ L', r = some (.inl (some (.int (puN W (tx (12 + h)) (fcH W h) nl))), Hh k E B L' T)) ?_ ?_ (s := L1) e2 (by omega)
  · rintro g i M hi m1
    right
    have g0 : ¬ nI nl ≤ nI i := nI_ge hi (by omega)
    have ev := vb_eq2 (s := 5) (hw.2.2.2 i hi).1 (Or.inl (by unfold rg; decide))
    rw [show vb 5 = 29 by decide] at ev
    have e : puN W (tx (12 + h)) (fcH W h) (i + 1) = if hm W (tx (12 + h)) 5 (fcH W h) i = true then (if puN W (tx (12 + h)) (fcH W h) i < W (tx (12 + h) + 2 + 6 * i + 1) then W (tx (12 + h) + 2 + 6 * i + 1) else puN W (tx (12 + h)) (fcH W h) i) else puN W (tx (12 + h)) (fcH W h) i := rfl
    obtain ⟨M', r1, r2, r3⟩ := c_holds (S := S) (d := d + 1) (k := k) (E := E) (A := B) (L := M) (T := T) hX hi m1
    rw [g_X10_hundredthsPut_22]
    simp -implicitDefEqProofs only [q_iR, tl t1, t3, if_neg g0, tc t1, c_tg0 hX hi, q_I]
    rw [e]
    by_cases c1 : W (tx (12 + h) + 2 + 6 * i) = 5
    · rw [if_pos (ev.mpr c1)]
      simp -implicitDefEqProofs only [q_iR, hv_38_0, hv_4_9, tc t1, r1, q_I]
      rcases hl_c (W := W) (tx (12 + h)) i (fcH W h) with z | z
      · rw [z, if_pos rfl, if_neg (show ¬ hm W (tx (12 + h)) 5 (fcH W h) i = true by unfold hm; simp [z]), nI_p1]
        exact ⟨M', rfl, r2⟩
      · rw [z, if_neg (by decide), if_pos (show hm W (tx (12 + h)) 5 (fcH W h) i = true by unfold hm; simp [z, c1])]
        simp -implicitDefEqProofs only [q_iR, tc t1, c_tg1 hX hi, q_I, q_nr, nI_p1]
        exact ⟨M', rfl, r2⟩
    · rw [if_neg (fun q => c1 (ev.mp q)), if_neg (show ¬ hm W (tx (12 + h)) 5 (fcH W h) i = true by unfold hm; simp [c1]), nI_p1]
      exact ⟨M, rfl, m1⟩
  · rintro g M m1
    rw [g_X10_hundredthsPut_22]
    simp -implicitDefEqProofs only [q_iR, tl t1, t3, if_pos (Int32.le_refl (nI nl))]
    exact ⟨M, rfl⟩
/-- the rent less what game has done -/
def rlW (W : fW) (h : Nat) : Int32 := if 0 < rnW W h - hmW W h then rnW W h - hmW W h else 0
theorem rn_32 {h nl nc : Nat} (hp : IvPr W) (hw : WT W (tx (12 + h)) nl nc) : rg (rnW W h) 0 1599998400 := by
  obtain ⟨r1, r2⟩ := rn_rg (h := h) hp hw
  unfold rnW rg
  rw [← w64, r64 ⟨by omega, by omega⟩]
  exact ⟨r1, r2⟩
theorem hm_c64 {h nl nc : Nat} (hI : Iv c W) (hw : WT W (tx (12 + h)) nl nc) : rg (hmW W h) 0 115200 ∧ (hmW W h).toInt64 = (sumJ (fun f => (eaG W h f).toInt64) 48 * (hrN W (tx (12 + h)) nl).toInt64) / 100 := by
  have hl := lnT_eq hw
  obtain ⟨s1, s2⟩ := sumI_rg (g := eaG W h) (b := 2400) (m := 48) (by decide) (by decide) (fun f hf => eaG_rg hI hf)
  obtain ⟨r1, r2⟩ := hr_rg hw (Nat.le_refl nl)
  have s64 := sumI_64 (g := eaG W h) (b := 2400) (m := 48) (by decide) (by decide) (fun f hf => eaG_rg hI hf)
  unfold hmW
  rw [hl, ← s64]
  generalize sumI (eaG W h) 48 = s at *
  generalize hrN W (tx (12 + h)) nl = z at *
  have e48 : ((48 : Nat) : Int) * 2400 = 115200 := by decide
  rw [e48] at s2
  obtain ⟨⟨m1, m2⟩, m3⟩ := mul_rg (x := s) (y := z) (a := 115200) (b := 100) ⟨s1, s2⟩ ⟨r1, r2⟩ (by decide)
  have e100 : (100 : Int32).toInt = 100 := rfl
  have d1 : ((s * z) / 100).toInt = s.toInt * z.toInt / 100 := by
    rw [Int32.toInt_div, e100, m3, Int.tdiv_eq_ediv_of_nonneg (by omega)]
    unfold Int.bmod; simp -implicitDefEqProofs only [Nat.reducePow]; split <;> omega
  have m4 : (s.toInt64 * z.toInt64).toInt = s.toInt * z.toInt := by
    rw [m64 (by rw [w64, w64]; omega) (by rw [w64, w64]; omega), w64, w64]
  refine ⟨⟨by omega, by omega⟩, ?_⟩
  apply Int64.toInt_inj.mp
  rw [w64, d1, Int64.toInt_div, m4, show (100 : Int64).toInt = 100 from rfl, Int.tdiv_eq_ediv_of_nonneg (by omega)]
  unfold Int.bmod; simp -implicitDefEqProofs only [Nat.reducePow]; split <;> omega
theorem rl_rg {h nl nc : Nat} (hI : Iv c W) (hw : WT W (tx (12 + h)) nl nc) : rg (rlW W h) 0 1599998400 ∧ (if (rnW W h).toInt64 - (hmW W h).toInt64 < 0 then (0 : Int64) else (rnW W h).toInt64 - (hmW W h).toInt64).toInt32 = rlW W h := by
  obtain ⟨r1, r2⟩ := rn_32 (h := h) hI.2.2.2.1 hw
  obtain ⟨⟨m1, m2⟩, -⟩ := hm_c64 (h := h) hI hw
  unfold rlW
  generalize rnW W h = x at *
  generalize hmW W h = y at *
  have e : (x - y).toInt = x.toInt - y.toInt := s32 (by omega) (by omega)
  have e2 : (x.toInt64 - y.toInt64).toInt = x.toInt - y.toInt := by rw [s64 (by rw [w64, w64]; omega) (by rw [w64, w64]; omega), w64, w64]
  have e3 : x.toInt64 - y.toInt64 = (x - y).toInt64 := by apply Int64.toInt_inj.mp; rw [e2, w64, e]
  by_cases q : 0 < x - y
  · have q1 := q
    rw [Int32.lt_iff_toInt_lt, e, show (0 : Int32).toInt = 0 from rfl] at q1
    have q2 : ¬ x.toInt64 - y.toInt64 < 0 := by rw [Int64.lt_iff_toInt_lt, e2, show (0 : Int64).toInt = 0 from rfl]; omega
    rw [if_pos q, if_neg q2, e3]
    refine ⟨⟨by rw [e]; omega, by rw [e]; omega⟩, ?_⟩
    apply i32_ext
    rw [← w64, r64 (by rw [w64, e]; exact ⟨by omega, by omega⟩), w64]
  · have q1 := q
    rw [Int32.lt_iff_toInt_lt, e, show (0 : Int32).toInt = 0 from rfl] at q1
    rw [if_neg q]
    refine ⟨by unfold rg; decide, ?_⟩
    by_cases q2 : x.toInt64 - y.toInt64 < 0
    · rw [if_pos q2]; rfl
    · rw [Int64.lt_iff_toInt_lt, e2, show (0 : Int64).toInt = 0 from rfl] at q2
      rw [if_neg (by rw [Int64.lt_iff_toInt_lt, e2, show (0 : Int64).toInt = 0 from rfl]; omega), e3]
      apply i32_ext
      rw [← w64, r64 (by rw [w64, e]; exact ⟨by omega, by omega⟩), w64, e, show (0 : Int32).toInt = 0 from rfl]
      omega
theorem r_rentLess {h : Nat} (hI : Iv c (A 40)) (hh : h < hn (A 40)) (hk : A 40 (1684 + 11 * h + 0) = 0 ∨ A 40 (1684 + 11 * h + 0) = 1) : ∃ L', ex S (d + 5) 241 [.ref 39, .int (nI h)] (Hh k E A L T) = some (.inl (some (.int (rlW (A 40) h))), Hh k E A L' T) ∧ ∀ r, r ≠ 44 → r ≠ 45 → L' r = L r := by
  have h2 : h < 24 := by have := hI.2.2.2.2.1.2.1; omega
  obtain ⟨nl, nc, hw⟩ := (hI.2.2.2.2.1.2.2 h hh).2.2.2.2.2.2.2.2.2.2 hk
  have n1 := hw.2.1
  have w1 := hw.1
  have e12 : (12 : Int32) + nI h = nI (12 + h) := by rw [show (12 : Int32) = nI 12 from rfl, nI_add]
  rw [x_X12_rentLess, g_X12_rentLess_0]
  obtain ⟨-, g', hg', f1, -⟩ := loop_RK (K := 1) (α := Unit) (F := fun g i _ => bd S (ex S (d + 4)) dflT E_X12_rentLess g 4 [some (.ref 39), some (.int (nI h)), some (.int (hrN (A 40) (tx (12 + h)) i)), some (.int (nI i)), none, none] [] (Hh k E A L T)) (N := nl) (P := fun _ _ => True) (s := ()) (by
    rintro g i - hi -
    have g0 : ¬ nI nl ≤ nI i := nI_ge hi (by omega)
    have b0 : tx (12 + h) + 2 + 6 * i < 35877 := by unfold tx; omega
    have b1 : tx (12 + h) + 2 + 6 * i + 1 < 35877 := by unfold tx; omega
    refine ⟨(), g, Nat.le_refl _, ?_, trivial⟩
    rw [g_X12_rentLess_4]
    simp -implicitDefEqProofs only [hc_39, e12, r_lns (show 12 + h < 37 by omega), w1, q_I, if_neg g0, hv_39_1, r_lat, an_40 b0, nI_p1, an_40 b1]
    rw [show hrN (A 40) (tx (12 + h)) (i + 1) = if A 40 (tx (12 + h) + 2 + 6 * i) = 6 then A 40 (tx (12 + h) + 2 + 6 * i + 1) else hrN (A 40) (tx (12 + h)) i from rfl]
    by_cases q : A 40 (tx (12 + h) + 2 + 6 * i) = 6
    · rw [if_pos q, if_pos q]
    · rw [if_neg q, if_neg q]) trivial 90000 99999 (by omega)
  have f1' : bd S (ex S (d + 4)) dflT E_X12_rentLess 99999 4 [some (.ref 39), some (.int (nI h)), some (.int 0), some (.int 0), none, none] [] (Hh k E A L T) = _ := f1
  rw [f1']
  obtain ⟨g2, rfl⟩ : ∃ g2, g' = g2 + 1 := ⟨g' - 1, by omega⟩
  rw [g_X12_rentLess_4]
  simp -implicitDefEqProofs only [hc_39, e12, r_lns (show 12 + h < 37 by omega), w1, q_I, if_pos (Int32.le_refl (nI nl))]
  obtain ⟨L1, r1, r2⟩ := r_rentOf (S := S) (d := d) (k := k) (E := E) (A := A) (L := L) (T := T) hI hh hk
  obtain ⟨-, m2⟩ := hm_c64 (h := h) hI hw
  obtain ⟨-, m3⟩ := rl_rg (h := h) hI hw
  rw [m2] at m3
  refine loop_Q (α := Unit) (F := fun g i _ => bd S (ex S (d + 4)) dflT E_X12_rentLess g 61 [some (.ref 39), some (.int (nI h)), some (.int (hrN (A 40) (tx (12 + h)) nl)), some (.long (sumJ (fun f => (eaG (A 40) h f).toInt64) i)), none, some (.int (nI i))] [] (Hh k E A L T)) (N := 48) (P := fun _ _ => True) (Q := fun r => ∃ L', r = some (.inl (some (.int (rlW (A 40) h))), Hh k E A L' T) ∧ ∀ r, r ≠ 44 → r ≠ 45 → L' r = L r) ?_ ?_ (s := ()) trivial (by omega)
  · rintro g f - hf -
    right
    refine ⟨(), ?_, trivial⟩
    have e : sumJ (fun f => (eaG (A 40) h f).toInt64) (f + 1) = sumJ (fun f => (eaG (A 40) h f).toInt64) f + (eaG (A 40) h f).toInt64 := rfl
    rw [g_X12_rentLess_61, if_neg (show ¬ (48 : Int32) ≤ nI f from nI_ge (b := 48) hf (by decide))]
    simp -implicitDefEqProofs only [hc_39, ro_10 hf, q_I]
    rw [e]
    by_cases q : A 40 (8 + 14 * f + 10) = nI h
    · have em : (eaG (A 40) h f).toInt64 = (A 40 (8 + 14 * f + 12)).toInt64 * (prW (A 40) (A 40 (8 + 14 * f + 13))).toInt64 := by
        rw [show eaG (A 40) h f = _ from if_pos q]
        obtain ⟨a1, a2⟩ := (hI.2.1 f hf).2.2.2.2.2.2.2.2.2.2.2.1
        obtain ⟨p1, p2⟩ := pr_rg hI.2.2.2.1 (A 40 (8 + 14 * f + 13))
        obtain ⟨⟨x1, x2⟩, x3⟩ := mul_rg (x := A 40 (8 + 14 * f + 12)) (y := prW (A 40) (A 40 (8 + 14 * f + 13))) (a := 24) (b := 100) ⟨a1, a2⟩ ⟨p1, p2⟩ (by decide)
        apply Int64.toInt_inj.mp
        rw [w64, m64 (by rw [w64, w64]; omega) (by rw [w64, w64]; omega), w64, w64, x3]
      rw [if_pos q, em]
      simp -implicitDefEqProofs only [hc_39, ro_12 hf, ro_13 hf, q_I, r_prc (pr_of hI), nI_p1]
    · rw [if_neg q, show eaG (A 40) h f = _ from if_neg q, show (0 : Int32).toInt64 = (0 : Int64) by decide, Int64.add_zero, nI_p1]
  · rintro g - -
    rw [g_X12_rentLess_61, if_pos (by decide)]
    simp -implicitDefEqProofs only [hc_39, r1, q_I, dvJ_100]
    exact ⟨L1, by rw [m3], r2⟩
end YearE
