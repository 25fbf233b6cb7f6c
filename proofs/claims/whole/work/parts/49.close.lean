/-! a holding is left: its fields are of none -/
section CloseB
variable {S : sT} {d c : Nat} {k : Value} {E : List dsc} {A : fA} {L : fL} {T : fT} {W : fW}
/-- the fields below n that are of h are of none, without crops -/
def lvN (W : fW) (h n : Nat) : fW := fun i => if 8 ≤ i ∧ (i - 8) / 14 < n ∧ W (8 + 14 * ((i - 8) / 14) + 10) = nI h then (if (i - 8) % 14 = 10 then -1 else if (i - 8) % 14 = 3 then 0 else W i) else W i
theorem lvN_0 (h : Nat) : lvN W h 0 = W := by funext i; simp [lvN]
theorem lvN_at {h n f w : Nat} (hw : w < 14) : lvN W h n (8 + 14 * f + w) = if f < n ∧ W (8 + 14 * f + 10) = nI h then (if w = 10 then -1 else if w = 3 then 0 else W (8 + 14 * f + w)) else W (8 + 14 * f + w) := by
  unfold lvN
  have e1 : (8 + 14 * f + w - 8) / 14 = f := by omega
  have e2 : (8 + 14 * f + w - 8) % 14 = w := by omega
  rw [e1, e2]
  by_cases q : f < n ∧ W (8 + 14 * f + 10) = nI h
  · rw [if_pos ⟨by omega, q⟩, if_pos q]
  · rw [if_neg (fun r => q r.2), if_neg q]
theorem lvN_hi {h n i : Nat} (hn : n ≤ 48) (hi : i < 8 ∨ 680 ≤ i) : lvN W h n i = W i := by
  unfold lvN
  rw [if_neg]
  rintro ⟨h1, h2, -⟩
  omega
theorem lvN_s {h n : Nat} (hn : n < 48) : lvN W h (n + 1) = if W (8 + 14 * n + 10) = nI h then upd (upd (lvN W h n) (8 + 14 * n + 10) (-1)) (8 + 14 * n + 3) 0 else lvN W h n := by
  funext i
  by_cases hi : 8 ≤ i ∧ i < 680
  · obtain ⟨f, w, hw, rfl⟩ : ∃ f w, w < 14 ∧ i = 8 + 14 * f + w := ⟨(i - 8) / 14, (i - 8) % 14, by omega, by omega⟩
    rw [lvN_at hw]
    by_cases q : W (8 + 14 * n + 10) = nI h
    · rw [if_pos q]
      by_cases hf : f = n
      · subst hf
        rw [if_pos ⟨by omega, q⟩]
        by_cases w10 : w = 10
        · subst w10; rw [if_pos rfl, upd_o (by omega), upd_s]
        · by_cases w3 : w = 3
          · subst w3; rw [if_neg (by decide), if_pos rfl, upd_s]
          · rw [if_neg w10, if_neg w3, upd_o (by omega), upd_o (by omega), lvN_at hw, if_neg (by omega)]
      · rw [upd_o (by omega), upd_o (by omega), lvN_at hw]
        by_cases q2 : f < n ∧ W (8 + 14 * f + 10) = nI h
        · rw [if_pos ⟨by omega, q2.2⟩, if_pos q2]
        · rw [if_neg (fun r => q2 ⟨by omega, r.2⟩), if_neg q2]
    · rw [if_neg q, lvN_at hw]
      by_cases q2 : f < n ∧ W (8 + 14 * f + 10) = nI h
      · rw [if_pos ⟨by omega, q2.2⟩, if_pos q2]
      · rw [if_neg, if_neg q2]
        rintro ⟨r1, r2⟩
        by_cases hf : f = n
        · subst hf; exact q r2
        · exact q2 ⟨by omega, r2⟩
  · rw [lvN_hi (by omega) (by omega)]
    split
    · rw [upd_o (by omega), upd_o (by omega), lvN_hi (by omega) (by omega)]
    · rw [lvN_hi (by omega) (by omega)]
theorem r_leaves {h : Nat} : ex S (d + 3) 179 [.ref 39, .int (nI h)] (Hh k E A L T) = some (.inl (some (.int (nI (fo (A 40) h)))), Hh k E (upR A 40 (lvN (A 40) h 48)) L T) := by
  rw [x_X12_leaves, g_X12_leaves_0]
  refine loop_Q (α := fA) (F := fun m f B => bd S (ex S (d + 2)) dflT E_X12_leaves m 4 [some (.ref 39), some (.int (nI h)), some (.int (nI (cntF (fun f => A 40 (8 + 14 * f + 10) = nI h) f))), some (.int (nI f))] [] (Hh k E B L T)) (N := 48) (P := fun f B => B = upR A 40 (lvN (A 40) h f)) (Q := fun r => r = some (.inl (some (.int (nI (fo (A 40) h)))), Hh k E (upR A 40 (lvN (A 40) h 48)) L T)) ?_ ?_ (s := A) ?_ (by decide)
  · intro n f B hf hB
    right
    have g0 : ¬ (48 : Int32) ≤ nI f := nI_ge hf (by decide)
    have e0 : B 40 = lvN (A 40) h f := by rw [hB]; simp [upR]
    have e1 : B 40 (8 + 14 * f + 10) = A 40 (8 + 14 * f + 10) := by rw [e0, lvN_at (by decide), if_neg (by omega)]
    have e2 : cntF (fun f => A 40 (8 + 14 * f + 10) = nI h) (f + 1) = cntF (fun f => A 40 (8 + 14 * f + 10) = nI h) f + (if A 40 (8 + 14 * f + 10) = nI h then 1 else 0) := by simp -implicitDefEqProofs only [cntF, decide_eq_true_eq]
    simp -implicitDefEqProofs only [g_X12_leaves_4, if_neg g0, hc_39, ro_10 hf, e1, q_I, hv_39_1, ra_10, ra_3, sn_40 (show 8 + 14 * f + 10 < 35877 by omega), sn_40 (show 8 + 14 * f + 3 < 35877 by omega), e2, lvN_s hf]
    by_cases q : A 40 (8 + 14 * f + 10) = nI h
    · simp -implicitDefEqProofs only [if_pos q, nI_1]
      refine ⟨_, rfl, ?_⟩
      rw [hB]
      funext r
      by_cases hr : r = 40
      · subst hr; rw [up_eq, up_eq]; simp [upR]
      · rw [up_ne hr, up_ne hr]; simp [upR, hr]
    · simp -implicitDefEqProofs only [if_neg q, nI_1, Nat.add_zero]
      exact ⟨_, rfl, hB⟩
  · intro n B hB
    simp -implicitDefEqProofs only [g_X12_leaves_4]
    rw [if_pos (show (48 : Int32) ≤ nI 48 by decide), hB]
    rfl
  · rw [lvN_0]; funext r; by_cases hr : r = 40
    · subst hr; simp [upR]
    · simp [upR, hr]
theorem Fg_upR {V : fW} : Fg A (upR A 40 V) := by
  refine ⟨fun r hr => ?_, rfl, rfl, rfl, rfl⟩
  have : r ≠ 40 := by omega
  simp [upR, this]
theorem upR40 {V : fW} : upR A 40 V 40 = V := by simp [upR]
theorem nI_m1 {h : Nat} (hh : h < 2 ^ 31) : ¬ nI h = -1 := fun e => absurd (e ▸ nI_pos' hh) (by decide)
theorem fo_lv_s {h : Nat} (hh : h < 24) : fo (lvN W h 48) h = 0 := by
  unfold fo
  apply cntF_zero
  intro f hf
  rw [lvN_at (by decide)]
  by_cases q : W (8 + 14 * f + 10) = nI h
  · rw [if_pos ⟨hf, q⟩, if_pos rfl]
    simp -implicitDefEqProofs only [decide_eq_false_iff_not]
    exact fun e => nI_m1 (by omega) e.symm
  · rw [if_neg (fun r => q r.2)]; simpa using q
theorem fo_lv_o {h g : Nat} (hh : h < 24) (hg : g < 24) (hne : g ≠ h) : fo (lvN W h 48) g = fo W g := by
  unfold fo
  apply cntF_congr
  intro f hf
  rw [lvN_at (by decide)]
  by_cases q : W (8 + 14 * f + 10) = nI h
  · rw [if_pos ⟨hf, q⟩, if_pos rfl, q]
    have e1 : ¬ (-1 : Int32) = nI g := fun e => nI_m1 (by omega) e.symm
    have e2 : ¬ nI h = nI g := fun e => hne ((nI_eq (by omega) (by omega)).mp e).symm
    simp [e1, e2]
  · rw [if_neg (fun r => q r.2)]
theorem jLv {h : Nat} (hI : Iv c W) (hh : h < hn W) (hk : W (1684 + 11 * h + 0) = 1 → W (1684 + 11 * h + 8) = 1) : Iv c (lvN W h 48) := by
  obtain ⟨i0, i1, i2, i3, i4, i5, i6, i7, i8, i9, i10⟩ := hI
  have h24 := i4.2.1
  have e : ∀ j, (j < 8 ∨ 680 ≤ j) → lvN W h 48 j = W j := fun j hj => lvN_hi (by decide) hj
  have hF : ∀ g, g < 48 → IvF (lvN W h 48) g := by
    intro g hg
    obtain ⟨a0, a1, a2, a3, a4, a5, a6, a7, a8, a9, a10, a11, a12⟩ := i1 g hg
    unfold IvF
    rw [hn_c (e 1683 (by omega)), lvN_at (by decide), lvN_at (by decide), lvN_at (by decide), lvN_at (by decide), lvN_at (by decide), lvN_at (by decide), lvN_at (by decide), lvN_at (by decide), lvN_at (by decide), lvN_at (by decide), lvN_at (by decide), lvN_at (by decide), lvN_at (by decide)]
    by_cases q : g < 48 ∧ W (8 + 14 * g + 10) = nI h
    · simp -implicitDefEqProofs only [if_pos q]
      refine ⟨a0, a1, a2, ?_, a4, a5, a6, a7, a8, Or.inl ⟨rfl, rfl⟩, ?_, a11, a12⟩
      · show rg 0 0 5; unfold rg; decide
      · show W (8 + 14 * g + 11) = 0 ∨ _
        rcases a10 with a10 | ⟨-, a10⟩
        · exact Or.inl a10
        · rw [q.2] at a10; exact absurd a10 (nI_m1 (by omega))
    · simp -implicitDefEqProofs only [if_neg q]
      refine ⟨a0, a1, a2, a3, a4, a5, a6, a7, a8, ?_, a10, a11, a12⟩
      rcases a9 with a9 | ⟨g', hg', a9⟩
      · exact Or.inl a9
      · refine Or.inr ⟨g', hg', ?_⟩
        rw [e (1684 + 11 * g' + 0) (by omega)]
        exact a9
  have hH : IvHs (lvN W h 48) := by
    unfold IvHs
    rw [hn_c (e 1683 (by omega)), e 1683 (by omega)]
    refine ⟨i4.1, i4.2.1, fun g hg => ?_⟩
    by_cases q : g = h
    · subst q
      have q := i4.2.2 g hg
      unfold IvH at q ⊢
      rw [fo_lv_s (by omega), e (1684 + 11 * g + 0) (by omega), e (1684 + 11 * g + 1) (by omega), e (1684 + 11 * g + 2) (by omega), e (1684 + 11 * g + 3) (by omega), e (1684 + 11 * g + 5) (by omega), e (1684 + 11 * g + 6) (by omega), e (1684 + 11 * g + 8) (by omega), e (1684 + 11 * g + 9) (by omega), e (1684 + 11 * g + 10) (by omega)]
      obtain ⟨a0, a1, a2, a3, a4, a5, a6, a7, a8, a9, a10⟩ := q
      refine ⟨a0, a1, a2, a3, a4, a5, a6, fun e _ => hk e, a8, a9, fun q => ?_⟩
      obtain ⟨nl, nc, t⟩ := a10 q
      exact ⟨nl, nc, WT_c (fun i h1 h2 => e i (by unfold tx at h1; omega)) t⟩
    · exact IvH_d (by omega) (fo_lv_o (by omega) (by omega) q) (fun i hi => e i (by omega)) (i4.2.2 g hg)
  exact ⟨Iv0_c (e 0 (by omega)) i0, hF, IvRn_c (fun i h1 h2 => e i (by omega)) i2, IvPr_c (by rw [e 0 (by omega)]; exact Int32.lt_irrefl) (fun i h1 h2 => e i (by omega)) i3, hH, IvG_0 (fun i h1 h2 => e i (by omega)) i5, IvLn_c (fun i h1 h2 => e i (by omega)) i6, IvJb_c (fun i h1 h2 => e i (by omega)) i7, IvTb_c (fun i h1 h2 => e i (by omega)) i8, IvRw_c (e _ (by omega)) i9, IvXs_c (fun i h1 h2 => e i (by omega)) i10⟩
theorem c_close {h : Nat} (hI : Iv c W) (hL : LkA 4 k E A T W) (hh : h < hn W) : ∃ A', ex S (d + 4) 175 [.ref 4, .int (nI h)] (Hh k E A L T) = some (.inl none, Hh k E A' L T) ∧ LkA 4 k E A' T (lvN W h 48) ∧ Fr A A' := by
  obtain ⟨i0, i1, i2, i3, i4, i5, i6, i7, i8, i9, i10⟩ := hI
  obtain ⟨l0, l1, l2, l3, l4, l5, l6, l7⟩ := hL
  have h24 := i4.2.1
  have e : ∀ j, (j < 8 ∨ 680 ≤ j) → lvN W h 48 j = W j := fun j hj => lvN_hi (by decide) hj
  rw [x_X0_close, g_X0_close_0]
  refine loop_Q (α := fA) (F := fun m f B => bd S (ex S (d + 3)) dflT E_X0_close m 2 [some (.ref 4), some (.int (nI h)), some (.int (nI f))] [] (Hh k E B L T)) (N := 48) (P := fun f B => LkL (B 10) (lvN W h f) ∧ ∀ r, r ≠ 10 → B r = A r) (Q := fun r => ∃ A', r = some (.inl none, Hh k E A' L T) ∧ LkA 4 k E A' T (lvN W h 48) ∧ Fr A A') ?_ ?_ (s := A) ?_ (by decide)
  · rintro n f B hf ⟨hB, hr⟩
    right
    have g0 : ¬ (48 : Int32) ≤ nI f := nI_ge hf (by decide)
    have e1 : lvN W h f (8 + 14 * f + 10) = W (8 + 14 * f + 10) := by rw [lvN_at (by decide), if_neg (by omega)]
    simp -implicitDefEqProofs only [g_X0_close_2, if_neg g0, hv_4_1, hc_9, gL_10 hB hf, e1, q_I, ls_10 hf, ls_3 hf, q_U, nI_p1, lvN_s hf]
    by_cases q : W (8 + 14 * f + 10) = nI h
    · simp -implicitDefEqProofs only [if_pos q]
      refine ⟨_, rfl, ?_, fun r hr' => by rw [up_ne hr', up_ne hr']; exact hr r hr'⟩
      rw [up_eq, up_eq]
      exact vL_3 (vL_10 hB hf) hf
    · simp -implicitDefEqProofs only [if_neg q]
      exact ⟨_, rfl, hB, hr⟩
  · rintro n B ⟨hB, hr⟩
    simp -implicitDefEqProofs only [g_X0_close_2]
    rw [if_pos (show (48 : Int32) ≤ nI 48 by decide)]
    simp -implicitDefEqProofs only [hv_4_2, hc_11, ts_1 (show h < 24 by omega), ts_6 (show h < 24 by omega), q_U]
    refine ⟨_, rfl, ?_, ?_⟩
    · have hA : ∀ r, outK k r → up (up B 12 (24 + h) 0) 12 (144 + h) 1 r = A r := fun r hr' => by have := hr'.1; rw [up_ne (by omega), up_ne (by omega)]; exact hr r (by omega)
      have rr : ∀ r, r ≠ 10 → r ≠ 12 → up (up B 12 (24 + h) 0) 12 (144 + h) 1 r = A r := fun r h1 h2 => by rw [up_ne h2, up_ne h2]; exact hr r h1
      have r10 : up (up B 12 (24 + h) 0) 12 (144 + h) 1 10 = B 10 := by rw [up_ne (by decide), up_ne (by decide)]
      have r12 : up (up B 12 (24 + h) 0) 12 (144 + h) 1 12 = upd (upd (A 12) (24 + h) 0) (144 + h) 1 := by rw [up_eq, up_eq, hr 12 (by decide)]
      unfold LkA
      rw [show up (up B 12 (24 + h) 0) 12 (144 + h) 1 4 = A 4 from rr 4 (by decide) (by decide), show up (up B 12 (24 + h) 0) 12 (144 + h) 1 (4 + 6) = B 10 from r10, rr (4 + 12) (by decide) (by decide), rr (4 + 13) (by decide) (by decide), rr (4 + 14) (by decide) (by decide), rr (4 + 15) (by decide) (by decide), rr (4 + 16) (by decide) (by decide), rr (4 + 17) (by decide) (by decide), rr (4 + 18) (by decide) (by decide), rr (4 + 19) (by decide) (by decide), rr (4 + 20) (by decide) (by decide), rr (4 + 21) (by decide) (by decide), rr (4 + 22) (by decide) (by decide), rr (4 + 23) (by decide) (by decide), rr (4 + 24) (by decide) (by decide), rr (4 + 25) (by decide) (by decide), rr (4 + 26) (by decide) (by decide), rr (4 + 27) (by decide) (by decide), rr (4 + 28) (by decide) (by decide), rr (4 + 29) (by decide) (by decide), rr (4 + 30) (by decide) (by decide), rr (4 + 31) (by decide) (by decide), rr (4 + 7) (by decide) (by decide), show up (up B 12 (24 + h) 0) 12 (144 + h) 1 (4 + 8) = _ from r12, rr (4 + 1) (by decide) (by decide), rr (4 + 3) (by decide) (by decide), rr (4 + 4) (by decide) (by decide)]
      refine ⟨l0.trans (e 0 (by omega)).symm, hB, LkM_c i3.2.1 (fun i h1 h2 => e i (by omega)) l2, LkG_c (fun i hi => e i (by omega)) l3, LkP_c (fun i h1 h2 => e i (by omega)) l4, LkR_c (fun i h1 h2 => e i (by omega)) l5, ?_, LkX_A (LkX_c i10.2.1 (fun i h1 h2 => e i (by omega)) l7) hA⟩
      obtain ⟨m1, m2, m3, m4⟩ := l6
      unfold LkH
      rw [hn_c (e 1683 (by omega)), e 1683 (by omega)]
      refine ⟨m1, fun g hg => ?_, m3, fun g hg hk => ?_⟩
      · obtain ⟨h0, h1, h2, h3, h4, h5, h6, h7, h8, h9, h10, h11, h12⟩ := m2 g hg
        unfold LkC
        rw [e (1684 + 11 * g + 0) (by omega), e (1684 + 11 * g + 1) (by omega), e (1684 + 11 * g + 2) (by omega), e (1684 + 11 * g + 3) (by omega), e (1684 + 11 * g + 4) (by omega), e (1684 + 11 * g + 5) (by omega), e (1684 + 11 * g + 6) (by omega), e (1684 + 11 * g + 7) (by omega), e (1684 + 11 * g + 8) (by omega), e (1684 + 11 * g + 9) (by omega), e (1684 + 11 * g + 10) (by omega), upd_o (by omega), upd_o (by omega), upd_o (i := 144 + h) (j := 24 + g) (by omega), upd_o (i := 144 + h) (j := 48 + g) (by omega), upd_o (i := 24 + h) (j := 48 + g) (by omega), upd_o (i := 144 + h) (j := 72 + g) (by omega), upd_o (i := 24 + h) (j := 72 + g) (by omega), upd_o (i := 144 + h) (j := 96 + g) (by omega), upd_o (i := 24 + h) (j := 96 + g) (by omega), upd_o (i := 144 + h) (j := 120 + g) (by omega), upd_o (i := 24 + h) (j := 120 + g) (by omega), upd_o (i := 144 + h) (j := 168 + g) (by omega), upd_o (i := 24 + h) (j := 168 + g) (by omega), upd_o (i := 144 + h) (j := 192 + g) (by omega), upd_o (i := 24 + h) (j := 192 + g) (by omega), upd_o (i := 144 + h) (j := 216 + g) (by omega), upd_o (i := 24 + h) (j := 216 + g) (by omega), upd_o (i := 144 + h) (j := 240 + g) (by omega), upd_o (i := 24 + h) (j := 240 + g) (by omega), upd_o (i := 144 + h) (j := 264 + g) (by omega), upd_o (i := 24 + h) (j := 264 + g) (by omega), upd_o (i := 144 + h) (j := 288 + g) (by omega), upd_o (i := 24 + h) (j := 288 + g) (by omega)]
        refine ⟨h0, ?_, h2, h3, h4, h5, ?_, h7, h8, h9, h10, h11, h12⟩
        · by_cases q : g = h
          · subst q; rw [upd_s, fo_lv_s (by omega)]; rfl
          · rw [upd_o (by omega), fo_lv_o (by omega) (by omega) q]; exact h1
        · by_cases q : g = h
          · subst q; rw [upd_s, fo_lv_s (by omega)]; rfl
          · rw [upd_o (by omega), upd_o (by omega), fo_lv_o (by omega) (by omega) q]; exact h6
      · rw [e _ (by omega)] at hk
        obtain ⟨a, e1, t⟩ := m4 g hg hk
        exact ⟨a, e1, TR_A (TR_c (fun i h1 h2 => e i (by unfold tx at h1; omega)) t) hA⟩
    · exact ⟨fun r hr' => by rw [up_ne (by omega), up_ne (by omega)]; exact hr r (by omega), by rw [up_ne (by decide), up_ne (by decide), hr 36 (by decide)], by rw [up_ne (by decide), up_ne (by decide), hr 36 (by decide)]⟩
  · rw [lvN_0]; exact ⟨l1, fun _ _ => rfl⟩
/-- class and reference answer a call alike, and are tied again behind it -/
def PK (c : Nat) (S : sT) (d : Nat) (k : Value) (E : List dsc) (A : fA) (T : fT) (mc mr : Nat) (av : List Value) (cd : Nat → Int32) : Prop :=
  ∀ L, ∃ k' E' A1 L1 T',
    (∃ v, okI mc v = true ∧ ex S d mc (.ref 0 :: av) (Hh k E A L T) = some (.inl v, Hh k' E' A1 L1 T') ∧ ∀ M : fL, ∃ A2 L2, ex S d mr (.ref 39 :: av) (Hh k' E' A1 M T') = some (.inl v, Hh k' E' A2 L2 T') ∧ L2 48 = M 48 ∧ A2 39 0 = 0 ∧ Rel (c + 1) k' E' A2 T')
    ∨ ∃ e, cd e ≠ 0 ∧ ex S d mc (.ref 0 :: av) (Hh k E A L T) = some (.inr (xnm e), Hh k' E' A1 L1 T') ∧ ∀ M : fL, ∃ A2 L2 v, okI mc v = true ∧ ex S d mr (.ref 39 :: av) (Hh k' E' A1 M T') = some (.inl v, Hh k' E' A2 L2 T') ∧ L2 48 = M 48 ∧ A2 39 0 = cd e ∧ Rel (c + 1) k' E' A2 T'
theorem PI_K {mc mr : Nat} {av : List Value} {cd : Nat → Int32} (h : PI c S d k E A T mc mr av cd) : PK c S d k E A T mc mr av cd := by
  obtain ⟨k', E', A1, T', A2, hR, h⟩ := h
  intro L
  rcases h with ⟨v, hv, h1, h2, h3⟩ | ⟨e, h0, h1, h2, h3⟩
  · obtain ⟨L1, h1⟩ := h1 L
    exact ⟨k', E', A1, L1, T', Or.inl ⟨v, hv, h1, fun M => by obtain ⟨L2, a, b⟩ := h2 M; exact ⟨A2, L2, a, b, h3, hR⟩⟩⟩
  · obtain ⟨L1, h1⟩ := h1 L
    exact ⟨k', E', A1, L1, T', Or.inr ⟨e, h0, h1, fun M => by obtain ⟨L2, v, hv, a, b⟩ := h2 M; exact ⟨A2, L2, v, hv, a, b, h3, hR⟩⟩⟩
theorem p_give (hR : Rel c k E A T) (x : Int32) : PK c S (d + 6) k E A T 176 180 [.int x] cdF := by
  have hI := Rel_w hR
  have h1 := hI.2.2.2.2.1.1
  have h24 := hI.2.2.2.2.1.2.1
  have l1 : A 11 0 = nI (hn (A 40)) := (Rel_h hR).1.trans h1
  have w1 : up A 39 0 0 40 1683 = nI (hn (A 40)) := h1
  rcases idx_c x (n := hn (A 40)) (by omega) with ⟨h, hh, rfl, hw⟩ | ⟨hx, hw⟩
  · have hC := (Rel_h hR).2.1 h hh
    have hH := hI.2.2.2.2.1.2.2 h hh
    have h2 : h < 24 := by omega
    rcases let_c hH with ⟨e1, -⟩ | ⟨e1, e2, e3⟩
    · refine PI_K ⟨k, E, A, T, up A 39 0 2, Rel_thr hR 2, Or.inr ⟨2, by decide, fun L => ⟨L, ?_⟩, fun L => ⟨L, some (.int 0), rfl, ?_, rfl⟩, up_ii⟩⟩
      · simp -implicitDefEqProofs only [x_X11_give, g_X11_give_0, hc_0, c_nh1 l1 hh (show hn (A 40) < 2 ^ 31 by omega), q_U, hv_0_1, hv_4_2, hc_11, c_isLet hC hH h2, e1, q_I, i1_0, if_false, c_kd0, q_Ue]
      · simp -implicitDefEqProofs only [x_X12_give, g_X12_give_0, hp_39_0, hc_39, r_nh1 w1 hw, q_I, r_thr0, i0_0, if_true, r_isLet h2, u40_39, e1, r_thr1, i1_0, if_false, up_up]
    · intro L
      obtain ⟨A1, run, hL1, hF1⟩ := c_close (S := S) (d := d + 1) (L := L) hI hR.2.1 hh
      have e40 : A1 40 = A 40 := hF1.1 40 (by decide)
      refine ⟨k, E, A1, L, T, Or.inl ⟨some (.int (nI (fo (A 40) h))), rfl, ?_, fun M => ⟨upR (up A1 39 0 0) 40 (lvN (A 40) h 48), M, ?_, rfl, rfl, Rel_by hR hF1 Fg_upR (by rw [upR40]; exact hL1) (by rw [upR40]; exact Iv_c (Nat.le_succ c) (jLv hI hh (fun q => absurd q e3)))⟩⟩⟩
      · simp -implicitDefEqProofs only [x_X11_give, g_X11_give_0, hc_0, c_nh1 l1 hh (show hn (A 40) < 2 ^ 31 by omega), q_U, hv_0_1, hv_4_2, hc_11, c_isLet hC hH h2, e1, q_I, i0_0, if_true, c_kd1, gH_1 hC h2, hc_4, run]
      · have w2 : up A1 39 0 0 40 1683 = nI (hn (A 40)) := by rw [u40_39, e40]; exact h1
        simp -implicitDefEqProofs only [x_X12_give, g_X12_give_0, hp_39_0, hc_39, r_nh1 w2 hw, q_I, r_thr0, i0_0, if_true, r_isLet h2, u40_39, e40, e1, r_leaves]
  · refine PI_K ⟨k, E, A, T, up A 39 0 1, Rel_thr hR 1, Or.inr ⟨0, by decide, fun L => ⟨L, ?_⟩, fun L => ⟨L, some (.int 0), rfl, ?_, rfl⟩, up_ii⟩⟩
    · simp -implicitDefEqProofs only [x_X11_give, g_X11_give_0, hc_0, c_nh0 l1 hx, q_Ue]
    · simp -implicitDefEqProofs only [x_X12_give, g_X12_give_0, hp_39_0, hc_39, r_nh0 w1 hw, q_I, r_thr1, i1_0, if_false, up_up]
end CloseB
