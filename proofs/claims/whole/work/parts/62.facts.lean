/-! facts and prices of now -/
section FactsB
variable {S : sT} {d c : Nat} {k : Value} {E : List dsc} {A : fA} {L : fL} {T : fT} {W : fW}
/-- the price of a crop as it is known now -/
def prW (W : fW) (x : Int32) : Int32 := if x < 1 then 0 else if 4 < x then 0 else knF W x (W 0 / 4) (W 0) (pn W)
/-- the prices that the class has learnt -/
def PrOk (A : fA) (W : fW) : Prop := (∀ j, j < 6 → A 36 j = prW W (nI j))
def prR (W : fW) (p : Nat → Int32) (n : Nat) : Nat → Int32 := fun j => if 1 ≤ j ∧ j ≤ 4 then knF W (nI j) (W 0 / 4) (W 0) n else p j
theorem c_learnP (hM : LkM (A 16) (A 17) (A 18) (A 19) (A 20) (A 21) W) (hp : IvPr W) : ex S (d + 1) 181 [.ref 16, .int (W 0 / 4), .ref 36] (Hh k E A L T) = some (.inl none, Hh k E (upR A 36 (prR W (A 36) (pn W))) L T) := by
  obtain ⟨m1, m2, m3⟩ := hM
  obtain ⟨p1, p2, p3⟩ := hp
  rw [x_X4_learnPrices, g_X4_learnPrices_0, q_nr]
  obtain ⟨B, g', hg', e1, e2, e3⟩ := loop_RK (K := 1) (α := fA) (F := fun g i B => bd S (ex S d) dflT E_X4_learnPrices g 2 [some (.ref 16), some (.int (W 0 / 4)), some (.ref 36), some (.int (nI (1 + i))), none] [] (Hh k E B L T)) (N := 4) (P := fun i B => (∀ j, B 36 j = if 1 ≤ j ∧ j < 1 + i then 10 else A 36 j) ∧ ∀ r, r ≠ 36 → B r = A r) (s := A) (by
    rintro g i B hi ⟨h1, h2⟩
    have g0 : ¬ (5 : Int32) ≤ nI (1 + i) := nI_ge (b := 5) (by omega) (by decide)
    have g1 : ¬ nI 6 ≤ nI (1 + i) := nI_ge (by omega) (by decide)
    rw [g_X4_learnPrices_2]
    simp -implicitDefEqProofs only [if_neg g0, q_iR, hl_36, if_neg g1, sn_36 (show 1 + i < 6 by omega), q_nr, nI_p1]
    refine ⟨up B 36 (1 + i) 10, g, Nat.le_refl _, rfl, fun j => ?_, fun r hr => by rw [up_ne hr]; exact h2 r hr⟩
    by_cases e : j = 1 + i
    · subst e; rw [up_ii, if_pos (by omega)]
    · rw [up_rr e, h1]
      by_cases q : 1 ≤ j ∧ j < 1 + i
      · rw [if_pos q, if_pos (by omega)]
      · rw [if_neg q, if_neg (by omega)]) ⟨fun j => by rw [if_neg (by omega)], fun _ _ => rfl⟩ 90000 99999 (by decide)
  rw [show bd S (ex S d) dflT E_X4_learnPrices 99999 2 [some (.ref 16), some (.int (W 0 / 4)), some (.ref 36), some (.int 1), none] [] (Hh k E A L T) = _ from e1]
  obtain ⟨g2, rfl⟩ : ∃ g2, g' = g2 + 1 := ⟨g' - 1, by omega⟩
  rw [g_X4_learnPrices_2, if_pos (by decide), q_nr]
  refine loop_Q (α := fA × Option Value) (F := fun g i s => bd S (ex S d) dflT E_X4_learnPrices g 26 [some (.ref 16), some (.int (W 0 / 4)), some (.ref 36), some (.int (nI i)), s.2] [] (Hh k E s.1 L T)) (N := pn W) (P := fun i s => s.1 = upR A 36 (prR W (A 36) i)) (Q := fun r => r = some (.inl none, Hh k E (upR A 36 (prR W (A 36) (pn W))) L T)) ?_ ?_ (s := (B, none)) ?_ (by omega)
  · rintro g i ⟨B, o⟩ hi hB
    simp only at hB
    right
    have br : ∀ r, r ≠ 36 → B r = A r := fun r hr => by rw [hB]; simp [upR, hr]
    have b36 : B 36 = prR W (A 36) i := by rw [hB]; simp [upR]
    have g0 : ¬ nI (pn W) ≤ nI i := nI_ge hi (by omega)
    obtain ⟨c1, c2, c3, c4⟩ := m3 i hi
    obtain ⟨a1, a2, a3⟩ := p3 i hi
    obtain ⟨x, hx, -, ex1⟩ := rg_of (b := 4) (x := W (883 + 4 * i)) ⟨by have := a1.1; omega, a1.2⟩
    have hx1 : 1 ≤ x := by have := a1.1; rw [ex1, nI_toInt (by omega)] at this; omega
    rw [g_X4_learnPrices_26]
    simp -implicitDefEqProofs only [hg_16_0, br 16 (by decide), m1, p1, if_neg g0, hv_16_2, hv_16_3, hv_16_4, an_18 (show i < 200 by omega), an_19 (show i < 200 by omega), an_20 (show i < 200 by omega), br 18 (by decide), br 19 (by decide), br 20 (by decide), c1, c2, c3, ex1, if_neg (nI_pos (show x < 2 ^ 31 by omega)), q_iR, hl_36, if_neg (nI_ge (show x < 6 by omega) (by decide)), sn_36 (show x < 6 by omega), q_nr, nI_p1]
    have ek : ∀ j, 1 ≤ j → j ≤ 4 → knF W (nI j) (W 0 / 4) (W 0) (i + 1) = if j = x ∧ W (883 + 4 * i + 1) = W 0 / 4 then W (883 + 4 * i + 2) else knF W (nI j) (W 0 / 4) (W 0) i := by
      intro j h1 h2
      rw [knF_s, ex1]
      by_cases q1 : j = x
      · subst q1
        rw [if_pos rfl]
        by_cases q2 : W (883 + 4 * i + 1) = W 0 / 4
        · rw [if_pos q2, if_neg a3, if_pos ⟨rfl, q2⟩]
        · rw [if_neg q2, if_neg (fun r => q2 r.2)]
      · rw [if_neg (fun q => q1 ((nI_eq (by omega) (by omega)).mp q).symm), if_neg (fun r => q1 r.1)]
    by_cases q : W (883 + 4 * i + 1) = W 0 / 4
    · rw [if_pos q]
      refine ⟨(up B 36 x (W (883 + 4 * i + 2)), some (.int (nI x))), rfl, ?_⟩
      funext r
      by_cases hr : r = 36
      · subst hr
        show up B 36 x _ 36 = _
        rw [up_eq, b36]
        funext j
        simp -implicitDefEqProofs only [upd, upR, if_true, prR]
        by_cases h14 : 1 ≤ j ∧ j ≤ 4
        · rw [if_pos h14, if_pos h14, ek j h14.1 h14.2]
          by_cases q1 : j = x
          · rw [if_pos q1, if_pos ⟨q1, q⟩]
          · rw [if_neg q1, if_neg (fun r => q1 r.1)]
        · rw [if_neg h14, if_neg h14, if_neg (by omega)]
      · show up B 36 x _ r = _
        rw [up_ne hr, br r hr]; simp [upR, hr]
    · rw [if_neg q]
      refine ⟨(B, some (.int (nI x))), rfl, ?_⟩
      show B = _
      rw [hB]
      congr 1
      funext j
      simp -implicitDefEqProofs only [prR]
      by_cases h14 : 1 ≤ j ∧ j ≤ 4
      · rw [if_pos h14, if_pos h14, ek j h14.1 h14.2, if_neg (fun r => q r.2)]
      · rw [if_neg h14, if_neg h14]
  · rintro g ⟨B, o⟩ hB
    simp only at hB
    have br : ∀ r, r ≠ 36 → B r = A r := fun r hr => by rw [hB]; simp [upR, hr]
    have b16 : B 16 0 = nI (pn W) := by rw [br 16 (by decide), m1, p1]
    rw [g_X4_learnPrices_26]
    simp -implicitDefEqProofs only [hg_16_0, b16, if_pos (Int32.le_refl (nI (pn W)))]
    rw [hB]
  · show B = _
    funext r
    by_cases hr : r = 36
    · subst hr
      funext j
      rw [e2 j]
      simp -implicitDefEqProofs only [upR, if_true, prR]
      by_cases h14 : 1 ≤ j ∧ j ≤ 4
      · rw [if_pos h14, if_pos (by omega)]; rfl
      · rw [if_neg h14, if_neg (by omega)]
    · rw [e3 r hr]; simp [upR, hr]
theorem PrOk_of (h : A 36 0 = 0 ∧ A 36 5 = 0) : PrOk (upR A 36 (prR W (A 36) (pn W))) W := by
  intro j hj
  simp -implicitDefEqProofs only [upR, if_true, prR]
  unfold prW
  by_cases h14 : 1 ≤ j ∧ j ≤ 4
  · rw [if_pos h14, if_neg (show ¬ nI j < 1 from nI_nlt (b := 1) (by omega) (by omega)), if_neg (show ¬ (4 : Int32) < nI j from nI_nlt (a := 4) (by omega) (by decide))]
  · rw [if_neg h14]
    rcases (show j = 0 ∨ j = 5 by omega) with e | e
    · subst e; rw [h.1]; rfl
    · subst e; rw [h.2]; rfl
theorem c_prc {x : Int32} (h : PrOk A W) : ex S (d + 1) 184 [.ref 4, .int x] (Hh k E A L T) = some (.inl (some (.int (prW W x))), Hh k E A L T) := by
  rw [x_X0_priceOf, g_X0_priceOf_0]
  by_cases h0 : x < 0
  · rw [if_pos h0]; unfold prW; rw [if_pos (Int32.lt_trans h0 (by decide))]
  · by_cases h5 : 5 < x
    · rw [if_neg h0, if_pos h5]; unfold prW
      by_cases q : x < 1
      · rw [if_pos q]
      · rw [if_neg q, if_pos (Int32.lt_trans (by decide) h5)]
    · obtain ⟨j, hj, rfl⟩ := wi_n (M := 5) (by decide) ⟨h0, h5⟩
      rw [if_neg h0, if_neg h5]
      simp -implicitDefEqProofs only [hv_4_8, an_36 (show j < 6 by omega), h j (by omega)]
theorem r_prc {x : Int32} (hp : A 40 882 = nI (pn (A 40)) ∧ pn (A 40) ≤ 200) : ex S (d + 2) 232 [.ref 39, .int x] (Hh k E A L T) = some (.inl (some (.int (prW (A 40) x))), Hh k E A L T) := by
  rw [x_X12_priceOf, g_X12_priceOf_0]
  unfold prW
  by_cases q : wi x 1 4
  · simp -implicitDefEqProofs only [r_in1 q, q_I, i1_0, if_false, hc_39, r_year, r_season, r_known hp, if_neg q.1, if_neg q.2]
  · simp -implicitDefEqProofs only [r_in0 q, q_I, i0_0, if_true]
    by_cases q1 : x < 1
    · rw [if_pos q1]
    · by_cases q2 : 4 < x
      · rw [if_neg q1, if_pos q2]
      · exact absurd ⟨q1, q2⟩ q
/-- facts: of a purse; and of a field -/
def fc0 (W : fW) (x y : Int32) : Nat → Int64 := fun j => if j = 0 then (W 0 / 4).toInt64 else if j < 5 then (prW W (nI j)).toInt64 else if j < 9 then 0 else if j = 9 then x.toInt64 else y.toInt64
def fcF (W : fW) (f : Nat) (Fc : Nat → Int64) : Nat → Int64 := fun j => if j = 5 then (W (8 + 14 * f + 7)).toInt64 else if j = 6 then (W (8 + 14 * f + 2)).toInt64 else if j = 7 then (W (8 + 14 * f + 1)).toInt64 else if j = 8 then (W (8 + 14 * f + 0)).toInt64 else Fc j
theorem c_learnF {x y : Int32} (hs : A 4 7 = W 0) (hM : LkM (A 16) (A 17) (A 18) (A 19) (A 20) (A 21) W) (hp : IvPr W) (h36 : A 36 0 = 0 ∧ A 36 5 = 0) : ∃ L', ex S (d + 2) 196 [.ref 4, .int x, .int y] (Hh k E A L T) = some (.inl none, Hh k E (upR A 36 (prR W (A 36) (pn W))) L' T) ∧ (∀ j, j < 11 → L' 37 j = fc0 W x y j) ∧ ∀ r, r ≠ 37 → L' r = L r := by
  rw [x_X0_learnFacts, g_X0_learnFacts_0]
  have hO : PrOk (upR A 36 (prR W (A 36) (pn W))) W := PrOk_of h36
  have hs' : upR A 36 (prR W (A 36) (pn W)) 4 7 = W 0 := hs
  simp -implicitDefEqProofs only [hv_4_3, hg_4_7, hs, dv_4, hv_4_8, hc_16, c_learnP hM hp, q_U, hv_4_9, hs', sw_37_0]
  generalize upR A 36 (prR W (A 36) (pn W)) = B at *
  obtain ⟨L1, g', hg', e1, e2, e3⟩ := loop_RK (K := 1) (α := fL) (F := fun g i M => bd S (ex S (d + 1)) dflT E_X0_learnFacts g 32 [some (.ref 4), some (.int x), some (.int y), some (.int (nI (1 + i)))] [] (Hh k E B M T)) (N := 4) (P := fun i M => (∀ j, j < 1 + i → M 37 j = fc0 W x y j) ∧ ∀ r, r ≠ 37 → M r = L r) (s := upL L 37 0 (W 0 / 4).toInt64) (by
    rintro g i M hi ⟨h1, h2⟩
    have g0 : ¬ (5 : Int32) ≤ nI (1 + i) := nI_ge (b := 5) (by omega) (by decide)
    rw [g_X0_learnFacts_32]
    simp -implicitDefEqProofs only [if_neg g0, hv_4_9, hv_4_8, an_36 (show 1 + i < 6 by omega), hO (1 + i) (by omega), sn_37 (show 1 + i < 51 by omega), nI_p1]
    refine ⟨_, g, Nat.le_refl _, rfl, fun j hj => ?_, fun r hr => by rw [upL_ne hr]; exact h2 r hr⟩
    by_cases e : j = 1 + i
    · subst e; rw [upL_ii]; unfold fc0; rw [if_neg (by omega), if_pos (by omega)]
    · rw [upL_rr e]; exact h1 j (by omega)) ⟨fun j hj => by rw [show j = 0 by omega, upL_ii]; rfl, fun r hr => upL_ne hr⟩ 90000 99999 (by decide)
  rw [show bd S (ex S (d + 1)) dflT E_X0_learnFacts 99999 32 [some (.ref 4), some (.int x), some (.int y), some (.int 1)] [] (Hh k E B (upL L 37 0 (W 0 / 4).toInt64) T) = _ from e1]
  obtain ⟨g2, rfl⟩ : ∃ g2, g' = g2 + 1 := ⟨g' - 1, by omega⟩
  rw [g_X0_learnFacts_32, if_pos (by decide)]
  obtain ⟨L2, g', hg', f1, f2, f3⟩ := loop_RK (K := 1) (α := fL) (F := fun g i M => bd S (ex S (d + 1)) dflT E_X0_learnFacts g 58 [some (.ref 4), some (.int x), some (.int y), some (.int (nI (5 + i)))] [] (Hh k E B M T)) (N := 4) (P := fun i M => (∀ j, j < 5 + i → M 37 j = fc0 W x y j) ∧ ∀ r, r ≠ 37 → M r = L r) (s := L1) (by
    rintro g i M hi ⟨h1, h2⟩
    have g0 : ¬ (8 : Int32) < nI (5 + i) := nI_nlt (a := 8) (by omega) (by decide)
    rw [g_X0_learnFacts_58]
    simp -implicitDefEqProofs only [if_neg g0, hv_4_9, sn_37 (show 5 + i < 51 by omega), nI_p1]
    refine ⟨_, g, Nat.le_refl _, rfl, fun j hj => ?_, fun r hr => by rw [upL_ne hr]; exact h2 r hr⟩
    by_cases e : j = 5 + i
    · subst e; rw [upL_ii]; unfold fc0; rw [if_neg (by omega), if_neg (by omega), if_pos (by omega)]
    · rw [upL_rr e]; exact h1 j (by omega)) ⟨e2, e3⟩ 80000 g2 (by omega)
  rw [show bd S (ex S (d + 1)) dflT E_X0_learnFacts g2 58 [some (.ref 4), some (.int x), some (.int y), some (.int 5)] [] (Hh k E B L1 T) = _ from f1]
  obtain ⟨g3, rfl⟩ : ∃ g3, g' = g3 + 1 := ⟨g' - 1, by omega⟩
  rw [g_X0_learnFacts_58, if_pos (by decide)]
  simp -implicitDefEqProofs only [hv_4_9, sw_37_9, sw_37_10]
  refine ⟨_, rfl, fun j hj => ?_, fun r hr => by rw [upL_ne hr, upL_ne hr]; exact f3 r hr⟩
  by_cases e : j = 10
  · subst e; rw [upL_ii]; rfl
  · by_cases e9 : j = 9
    · subst e9; rw [upL_rr (by decide), upL_ii]; rfl
    · rw [upL_rr e, upL_rr e9]; exact f2 j (by omega)
theorem c_learnFF {f : Nat} {Fc : Nat → Int64} (hL : LkL (A 10) W) (hf : f < 48) (hF : ∀ j, j < 11 → L 37 j = Fc j) : ∃ L', ex S (d + 3) 223 [.ref 4, .int (nI f)] (Hh k E A L T) = some (.inl none, Hh k E A L' T) ∧ (∀ j, j < 11 → L' 37 j = fcF W f Fc j) ∧ ∀ r, r ≠ 37 → L' r = L r := by
  refine ⟨upL (upL (upL (upL L 37 5 (W (8 + 14 * f + 7)).toInt64) 37 6 (W (8 + 14 * f + 2)).toInt64) 37 7 (W (8 + 14 * f + 1)).toInt64) 37 8 (W (8 + 14 * f + 0)).toInt64, ?_, fun j hj => ?_, fun r hr => by rw [upL_ne hr, upL_ne hr, upL_ne hr, upL_ne hr]⟩
  · simp -implicitDefEqProofs only [x_X0_learnFactsOfField, g_X0_learnFactsOfField_0, hv_4_9, hv_4_1, hc_9, gL_7 hL hf, gL_2 hL hf, gL_1 hL hf, gL_0 hL hf, q_I, sw_37_5, sw_37_6, sw_37_7, sw_37_8]
  · unfold fcF
    by_cases e5 : j = 5
    · subst e5; rw [upL_rr (by decide), upL_rr (by decide), upL_rr (by decide), upL_ii]; rfl
    · by_cases e6 : j = 6
      · subst e6; rw [upL_rr (by decide), upL_rr (by decide), upL_ii]; rfl
      · by_cases e7 : j = 7
        · subst e7; rw [upL_rr (by decide), upL_ii]; rfl
        · by_cases e8 : j = 8
          · subst e8; rw [upL_ii]; rfl
          · rw [upL_rr e8, upL_rr e7, upL_rr e6, upL_rr e5, if_neg e5, if_neg e6, if_neg e7, if_neg e8]; exact hF j hj
end FactsB
