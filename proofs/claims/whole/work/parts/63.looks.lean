/-! the reference looks at its facts (laid by gen_looks.py) -/
section LooksB
variable {S : sT} {d c : Nat} {k : Value} {E : List dsc} {A : fA} {L : fL} {T : fT} {W : fW}
theorem r_looksN (hp : A 40 882 = nI (pn (A 40)) ∧ pn (A 40) ≤ 200) : ∃ L', ex S (d + 3) 238 [.ref 39, .int (-1), .int (-1)] (Hh k E A L T) = some (.inl none, Hh k E A L' T) ∧ (∀ j, j < 11 → L' 45 j = fc0 (A 40) (A 40 1) (0) j) ∧ ∀ r, r ≠ 45 → L' r = L r := by
  rw [x_X12_looks, g_X12_looks_0]
  simp -implicitDefEqProofs only [hv_39_14, hc_39, r_year, q_I, sw_45_0]
  obtain ⟨L1, g', hg', e1, e2, e3⟩ := loop_RK (K := 1) (α := fL) (F := fun g i M => bd S (ex S (d + 2)) dflT E_X12_looks g 13 [some (.ref 39), some (.int (-1)), some (.int (-1)), some (.int (nI (1 + i)))] [] (Hh k E A M T)) (N := 4) (P := fun i M => (∀ j, j < 1 + i → M 45 j = fc0 (A 40) (A 40 1) (0) j) ∧ ∀ r, r ≠ 45 → M r = L r) (s := upL L 45 0 (A 40 0 / 4).toInt64) (by
    rintro g i M hi ⟨h1, h2⟩
    have g0 : ¬ (5 : Int32) ≤ nI (1 + i) := nI_ge (b := 5) (by omega) (by decide)
    rw [g_X12_looks_13]
    simp -implicitDefEqProofs only [if_neg g0, hv_39_14, hc_39, r_prc hp, q_I, sn_45 (show 1 + i < 11 by omega), nI_p1]
    refine ⟨_, g, Nat.le_refl _, rfl, fun j hj => ?_, fun r hr => by rw [upL_ne hr]; exact h2 r hr⟩
    by_cases e : j = 1 + i
    · subst e; rw [upL_ii]; unfold fc0; rw [if_neg (by omega), if_pos (by omega)]
    · rw [upL_rr e]; exact h1 j (by omega)) ⟨fun j hj => by rw [show j = 0 by omega, upL_ii]; rfl, fun r hr => upL_ne hr⟩ 90000 99999 (by decide)
  rw [show bd S (ex S (d + 2)) dflT E_X12_looks 99999 13 [some (.ref 39), some (.int (-1)), some (.int (-1)), some (.int 1)] [] (Hh k E A (upL L 45 0 (A 40 0 / 4).toInt64) T) = _ from e1]
  obtain ⟨g2, rfl⟩ : ∃ g2, g' = g2 + 10 := ⟨g' - 10, by omega⟩
  rw [g_X12_looks_13, if_pos (by decide)]
  refine ⟨upL (upL (upL (upL (upL (upL L1 45 5 0) 45 6 0) 45 7 0) 45 8 0) 45 9 (A 40 1).toInt64) 45 10 0, ?_, fun j hj => ?_, fun r hr => by rw [upL_ne hr, upL_ne hr, upL_ne hr, upL_ne hr, upL_ne hr, upL_ne hr]; exact e3 r hr⟩
  · simp -implicitDefEqProofs only [hv_39_14, if_neg (show ¬ (0 : Int32) ≤ -1 by decide), hc_39, q_I, g_X12_looks_57, g_X12_looks_79, g_X12_looks_101, g_X12_looks_123, g_X12_looks_151, sw_45_5, sw_45_6, sw_45_7, sw_45_8, sw_45_9, sw_45_10, if_neg (show ¬ (0 : Int32) ≤ -1 by decide), hv_39_1, aw_40_1]
  · skip
    by_cases e5 : j = 5
    · subst e5; rw [upL_rr (by decide), upL_rr (by decide), upL_rr (by decide), upL_rr (by decide), upL_rr (by decide), upL_ii]; rfl
    · by_cases e6 : j = 6
      · subst e6; rw [upL_rr (by decide), upL_rr (by decide), upL_rr (by decide), upL_rr (by decide), upL_ii]; rfl
      · by_cases e7 : j = 7
        · subst e7; rw [upL_rr (by decide), upL_rr (by decide), upL_rr (by decide), upL_ii]; rfl
        · by_cases e8 : j = 8
          · subst e8; rw [upL_rr (by decide), upL_rr (by decide), upL_ii]; rfl
          · by_cases e9 : j = 9
            · subst e9; rw [upL_rr (by decide), upL_ii]; rfl
            · by_cases e10 : j = 10
              · subst e10; rw [upL_ii]; rfl
              · rw [upL_rr e10, upL_rr e9, upL_rr e8, upL_rr e7, upL_rr e6, upL_rr e5, e2 j (by omega)]
theorem r_looksH {h : Nat} (hh : h < 24) (hp : A 40 882 = nI (pn (A 40)) ∧ pn (A 40) ≤ 200) : ∃ L', ex S (d + 3) 238 [.ref 39, .int (-1), .int (nI h)] (Hh k E A L T) = some (.inl none, Hh k E A L' T) ∧ (∀ j, j < 11 → L' 45 j = fc0 (A 40) (A 40 (1684 + 11 * h + 1)) (A 40 (1684 + 11 * h + 2)) j) ∧ ∀ r, r ≠ 45 → L' r = L r := by
  rw [x_X12_looks, g_X12_looks_0]
  simp -implicitDefEqProofs only [hv_39_14, hc_39, r_year, q_I, sw_45_0]
  obtain ⟨L1, g', hg', e1, e2, e3⟩ := loop_RK (K := 1) (α := fL) (F := fun g i M => bd S (ex S (d + 2)) dflT E_X12_looks g 13 [some (.ref 39), some (.int (-1)), some (.int (nI h)), some (.int (nI (1 + i)))] [] (Hh k E A M T)) (N := 4) (P := fun i M => (∀ j, j < 1 + i → M 45 j = fc0 (A 40) (A 40 (1684 + 11 * h + 1)) (A 40 (1684 + 11 * h + 2)) j) ∧ ∀ r, r ≠ 45 → M r = L r) (s := upL L 45 0 (A 40 0 / 4).toInt64) (by
    rintro g i M hi ⟨h1, h2⟩
    have g0 : ¬ (5 : Int32) ≤ nI (1 + i) := nI_ge (b := 5) (by omega) (by decide)
    rw [g_X12_looks_13]
    simp -implicitDefEqProofs only [if_neg g0, hv_39_14, hc_39, r_prc hp, q_I, sn_45 (show 1 + i < 11 by omega), nI_p1]
    refine ⟨_, g, Nat.le_refl _, rfl, fun j hj => ?_, fun r hr => by rw [upL_ne hr]; exact h2 r hr⟩
    by_cases e : j = 1 + i
    · subst e; rw [upL_ii]; unfold fc0; rw [if_neg (by omega), if_pos (by omega)]
    · rw [upL_rr e]; exact h1 j (by omega)) ⟨fun j hj => by rw [show j = 0 by omega, upL_ii]; rfl, fun r hr => upL_ne hr⟩ 90000 99999 (by decide)
  rw [show bd S (ex S (d + 2)) dflT E_X12_looks 99999 13 [some (.ref 39), some (.int (-1)), some (.int (nI h)), some (.int 1)] [] (Hh k E A (upL L 45 0 (A 40 0 / 4).toInt64) T) = _ from e1]
  obtain ⟨g2, rfl⟩ : ∃ g2, g' = g2 + 10 := ⟨g' - 10, by omega⟩
  rw [g_X12_looks_13, if_pos (by decide)]
  refine ⟨upL (upL (upL (upL (upL (upL L1 45 5 0) 45 6 0) 45 7 0) 45 8 0) 45 9 (A 40 (1684 + 11 * h + 1)).toInt64) 45 10 (A 40 (1684 + 11 * h + 2)).toInt64, ?_, fun j hj => ?_, fun r hr => by rw [upL_ne hr, upL_ne hr, upL_ne hr, upL_ne hr, upL_ne hr, upL_ne hr]; exact e3 r hr⟩
  · simp -implicitDefEqProofs only [hv_39_14, if_neg (show ¬ (0 : Int32) ≤ -1 by decide), hc_39, q_I, g_X12_looks_57, g_X12_looks_79, g_X12_looks_101, g_X12_looks_123, g_X12_looks_151, sw_45_5, sw_45_6, sw_45_7, sw_45_8, sw_45_9, sw_45_10, if_pos (nI_pos' (show h < 2 ^ 31 by omega)), ri_1 hh, ri_2 hh, hv_39_1, aw_40_1]
  · skip
    by_cases e5 : j = 5
    · subst e5; rw [upL_rr (by decide), upL_rr (by decide), upL_rr (by decide), upL_rr (by decide), upL_rr (by decide), upL_ii]; rfl
    · by_cases e6 : j = 6
      · subst e6; rw [upL_rr (by decide), upL_rr (by decide), upL_rr (by decide), upL_rr (by decide), upL_ii]; rfl
      · by_cases e7 : j = 7
        · subst e7; rw [upL_rr (by decide), upL_rr (by decide), upL_rr (by decide), upL_ii]; rfl
        · by_cases e8 : j = 8
          · subst e8; rw [upL_rr (by decide), upL_rr (by decide), upL_ii]; rfl
          · by_cases e9 : j = 9
            · subst e9; rw [upL_rr (by decide), upL_ii]; rfl
            · by_cases e10 : j = 10
              · subst e10; rw [upL_ii]; rfl
              · rw [upL_rr e10, upL_rr e9, upL_rr e8, upL_rr e7, upL_rr e6, upL_rr e5, e2 j (by omega)]
theorem r_looksF {f : Nat} (hf : f < 48) (hp : A 40 882 = nI (pn (A 40)) ∧ pn (A 40) ≤ 200) : ∃ L', ex S (d + 3) 238 [.ref 39, .int (nI f), .int (-1)] (Hh k E A L T) = some (.inl none, Hh k E A L' T) ∧ (∀ j, j < 11 → L' 45 j = fcF (A 40) f (fc0 (A 40) (A 40 1) (0)) j) ∧ ∀ r, r ≠ 45 → L' r = L r := by
  rw [x_X12_looks, g_X12_looks_0]
  simp -implicitDefEqProofs only [hv_39_14, hc_39, r_year, q_I, sw_45_0]
  obtain ⟨L1, g', hg', e1, e2, e3⟩ := loop_RK (K := 1) (α := fL) (F := fun g i M => bd S (ex S (d + 2)) dflT E_X12_looks g 13 [some (.ref 39), some (.int (nI f)), some (.int (-1)), some (.int (nI (1 + i)))] [] (Hh k E A M T)) (N := 4) (P := fun i M => (∀ j, j < 1 + i → M 45 j = fc0 (A 40) (A 40 1) (0) j) ∧ ∀ r, r ≠ 45 → M r = L r) (s := upL L 45 0 (A 40 0 / 4).toInt64) (by
    rintro g i M hi ⟨h1, h2⟩
    have g0 : ¬ (5 : Int32) ≤ nI (1 + i) := nI_ge (b := 5) (by omega) (by decide)
    rw [g_X12_looks_13]
    simp -implicitDefEqProofs only [if_neg g0, hv_39_14, hc_39, r_prc hp, q_I, sn_45 (show 1 + i < 11 by omega), nI_p1]
    refine ⟨_, g, Nat.le_refl _, rfl, fun j hj => ?_, fun r hr => by rw [upL_ne hr]; exact h2 r hr⟩
    by_cases e : j = 1 + i
    · subst e; rw [upL_ii]; unfold fc0; rw [if_neg (by omega), if_pos (by omega)]
    · rw [upL_rr e]; exact h1 j (by omega)) ⟨fun j hj => by rw [show j = 0 by omega, upL_ii]; rfl, fun r hr => upL_ne hr⟩ 90000 99999 (by decide)
  rw [show bd S (ex S (d + 2)) dflT E_X12_looks 99999 13 [some (.ref 39), some (.int (nI f)), some (.int (-1)), some (.int 1)] [] (Hh k E A (upL L 45 0 (A 40 0 / 4).toInt64) T) = _ from e1]
  obtain ⟨g2, rfl⟩ : ∃ g2, g' = g2 + 10 := ⟨g' - 10, by omega⟩
  rw [g_X12_looks_13, if_pos (by decide)]
  refine ⟨upL (upL (upL (upL (upL (upL L1 45 5 (A 40 (8 + 14 * f + 7)).toInt64) 45 6 (A 40 (8 + 14 * f + 2)).toInt64) 45 7 (A 40 (8 + 14 * f + 1)).toInt64) 45 8 (A 40 (8 + 14 * f + 0)).toInt64) 45 9 (A 40 1).toInt64) 45 10 0, ?_, fun j hj => ?_, fun r hr => by rw [upL_ne hr, upL_ne hr, upL_ne hr, upL_ne hr, upL_ne hr, upL_ne hr]; exact e3 r hr⟩
  · simp -implicitDefEqProofs only [hv_39_14, if_pos (nI_pos' (show f < 2 ^ 31 by omega)), hc_39, ro_7 hf, ro_2 hf, ro_1 hf, ro_0 hf, q_I, g_X12_looks_57, g_X12_looks_79, g_X12_looks_101, g_X12_looks_123, g_X12_looks_151, sw_45_5, sw_45_6, sw_45_7, sw_45_8, sw_45_9, sw_45_10, if_neg (show ¬ (0 : Int32) ≤ -1 by decide), hv_39_1, aw_40_1]
  · unfold fcF
    by_cases e5 : j = 5
    · subst e5; rw [upL_rr (by decide), upL_rr (by decide), upL_rr (by decide), upL_rr (by decide), upL_rr (by decide), upL_ii]; rfl
    · by_cases e6 : j = 6
      · subst e6; rw [upL_rr (by decide), upL_rr (by decide), upL_rr (by decide), upL_rr (by decide), upL_ii]; rfl
      · by_cases e7 : j = 7
        · subst e7; rw [upL_rr (by decide), upL_rr (by decide), upL_rr (by decide), upL_ii]; rfl
        · by_cases e8 : j = 8
          · subst e8; rw [upL_rr (by decide), upL_rr (by decide), upL_ii]; rfl
          · by_cases e9 : j = 9
            · subst e9; rw [upL_rr (by decide), upL_ii]; rfl
            · by_cases e10 : j = 10
              · subst e10; rw [upL_ii]; rfl
              · rw [upL_rr e10, upL_rr e9, upL_rr e8, upL_rr e7, upL_rr e6, upL_rr e5, if_neg e5, if_neg e6, if_neg e7, if_neg e8, e2 j (by omega)]
theorem r_looksFH {f : Nat} {h : Nat} (hf : f < 48) (hh : h < 24) (hp : A 40 882 = nI (pn (A 40)) ∧ pn (A 40) ≤ 200) : ∃ L', ex S (d + 3) 238 [.ref 39, .int (nI f), .int (nI h)] (Hh k E A L T) = some (.inl none, Hh k E A L' T) ∧ (∀ j, j < 11 → L' 45 j = fcF (A 40) f (fc0 (A 40) (A 40 (1684 + 11 * h + 1)) (A 40 (1684 + 11 * h + 2))) j) ∧ ∀ r, r ≠ 45 → L' r = L r := by
  rw [x_X12_looks, g_X12_looks_0]
  simp -implicitDefEqProofs only [hv_39_14, hc_39, r_year, q_I, sw_45_0]
  obtain ⟨L1, g', hg', e1, e2, e3⟩ := loop_RK (K := 1) (α := fL) (F := fun g i M => bd S (ex S (d + 2)) dflT E_X12_looks g 13 [some (.ref 39), some (.int (nI f)), some (.int (nI h)), some (.int (nI (1 + i)))] [] (Hh k E A M T)) (N := 4) (P := fun i M => (∀ j, j < 1 + i → M 45 j = fc0 (A 40) (A 40 (1684 + 11 * h + 1)) (A 40 (1684 + 11 * h + 2)) j) ∧ ∀ r, r ≠ 45 → M r = L r) (s := upL L 45 0 (A 40 0 / 4).toInt64) (by
    rintro g i M hi ⟨h1, h2⟩
    have g0 : ¬ (5 : Int32) ≤ nI (1 + i) := nI_ge (b := 5) (by omega) (by decide)
    rw [g_X12_looks_13]
    simp -implicitDefEqProofs only [if_neg g0, hv_39_14, hc_39, r_prc hp, q_I, sn_45 (show 1 + i < 11 by omega), nI_p1]
    refine ⟨_, g, Nat.le_refl _, rfl, fun j hj => ?_, fun r hr => by rw [upL_ne hr]; exact h2 r hr⟩
    by_cases e : j = 1 + i
    · subst e; rw [upL_ii]; unfold fc0; rw [if_neg (by omega), if_pos (by omega)]
    · rw [upL_rr e]; exact h1 j (by omega)) ⟨fun j hj => by rw [show j = 0 by omega, upL_ii]; rfl, fun r hr => upL_ne hr⟩ 90000 99999 (by decide)
  rw [show bd S (ex S (d + 2)) dflT E_X12_looks 99999 13 [some (.ref 39), some (.int (nI f)), some (.int (nI h)), some (.int 1)] [] (Hh k E A (upL L 45 0 (A 40 0 / 4).toInt64) T) = _ from e1]
  obtain ⟨g2, rfl⟩ : ∃ g2, g' = g2 + 10 := ⟨g' - 10, by omega⟩
  rw [g_X12_looks_13, if_pos (by decide)]
  refine ⟨upL (upL (upL (upL (upL (upL L1 45 5 (A 40 (8 + 14 * f + 7)).toInt64) 45 6 (A 40 (8 + 14 * f + 2)).toInt64) 45 7 (A 40 (8 + 14 * f + 1)).toInt64) 45 8 (A 40 (8 + 14 * f + 0)).toInt64) 45 9 (A 40 (1684 + 11 * h + 1)).toInt64) 45 10 (A 40 (1684 + 11 * h + 2)).toInt64, ?_, fun j hj => ?_, fun r hr => by rw [upL_ne hr, upL_ne hr, upL_ne hr, upL_ne hr, upL_ne hr, upL_ne hr]; exact e3 r hr⟩
  · simp -implicitDefEqProofs only [hv_39_14, if_pos (nI_pos' (show f < 2 ^ 31 by omega)), hc_39, ro_7 hf, ro_2 hf, ro_1 hf, ro_0 hf, q_I, g_X12_looks_57, g_X12_looks_79, g_X12_looks_101, g_X12_looks_123, g_X12_looks_151, sw_45_5, sw_45_6, sw_45_7, sw_45_8, sw_45_9, sw_45_10, if_pos (nI_pos' (show h < 2 ^ 31 by omega)), ri_1 hh, ri_2 hh, hv_39_1, aw_40_1]
  · unfold fcF
    by_cases e5 : j = 5
    · subst e5; rw [upL_rr (by decide), upL_rr (by decide), upL_rr (by decide), upL_rr (by decide), upL_rr (by decide), upL_ii]; rfl
    · by_cases e6 : j = 6
      · subst e6; rw [upL_rr (by decide), upL_rr (by decide), upL_rr (by decide), upL_rr (by decide), upL_ii]; rfl
      · by_cases e7 : j = 7
        · subst e7; rw [upL_rr (by decide), upL_rr (by decide), upL_rr (by decide), upL_ii]; rfl
        · by_cases e8 : j = 8
          · subst e8; rw [upL_rr (by decide), upL_rr (by decide), upL_ii]; rfl
          · by_cases e9 : j = 9
            · subst e9; rw [upL_rr (by decide), upL_ii]; rfl
            · by_cases e10 : j = 10
              · subst e10; rw [upL_ii]; rfl
              · rw [upL_rr e10, upL_rr e9, upL_rr e8, upL_rr e7, upL_rr e6, upL_rr e5, if_neg e5, if_neg e6, if_neg e7, if_neg e8, e2 j (by omega)]
end LooksB
