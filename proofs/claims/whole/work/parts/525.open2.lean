/-! a holding is begun: the class; what the world keeps; keep -/
section OpenC
variable {S : sT} {d c : Nat} {k : Value} {E : List dsc} {A : fA} {L : fL} {T : fT} {W : fW}
theorem inW_self {f : Nat} (b : Int32) : ¬ inW (nI f) (nI f) b = 0 := by
  have h : ∀ n b : Int32, btw n n b = 1 := by
    intro n b
    unfold btw
    have e1 : ¬ n < (if b < n then b else n) := by
      split
      · rename_i h; exact fun q => Int32.lt_irrefl (Int32.lt_trans h q)
      · exact Int32.lt_irrefl
    have e2 : ¬ (if n < b then b else n) < n := by
      split
      · rename_i h; exact fun q => Int32.lt_irrefl (Int32.lt_trans h q)
      · exact Int32.lt_irrefl
    rw [if_neg e1, if_neg e2]
  unfold inW
  rw [h, h]
  decide
theorem fr_c {a b : Int32} (hf : frN W a b 48 = true) {f : Nat} (h48 : f < 48) (hi : ¬ inW (nI f) a b = 0) : W (8 + 14 * f + 11) = 0 ∧ W (8 + 14 * f + 10) < 0 := by
  have := frN_all.mp hf f h48
  unfold frF at this
  simpa [hi] using this
theorem beg_hn {a b kd : Int32} (h24 : hn W < 24) : hn (begW W a b kd) = hn W + 1 := by
  unfold hn; rw [beg_n]; exact nI_clamp (by unfold hn at *; omega)
theorem fo_beg_o {a b kd : Int32} (h24 : hn W < 24) (hf : frN W a b 48 = true) {g : Nat} (hg : g < hn W) : fo (begW W a b kd) g = fo W g := by
  unfold fo
  apply cntF_congr
  intro f h48
  rw [beg_at h48 (by decide)]
  by_cases q : ¬ inW (nI f) a b = 0
  · rw [if_pos ⟨rfl, q⟩]
    have h1 := (fr_c hf h48 q).2
    have e1 : ¬ nI (hn W) = nI g := fun e => by have := (nI_eq (by omega) (by omega)).mp e; omega
    have e2 : ¬ W (8 + 14 * f + 10) = nI g := fun e => by rw [e] at h1; exact nI_pos (by omega) h1
    simp [e1, e2]
  · rw [if_neg (fun r => q r.2)]
theorem fo_beg_s {a b kd : Int32} (h24 : hn W < 24) (hI : ∀ f, f < 48 → IvF W f) : fo (begW W a b kd) (hn W) = cntF (fun f => decide (¬ inW (nI f) a b = 0)) 48 := by
  unfold fo
  apply cntF_congr
  intro f h48
  rw [beg_at h48 (by decide)]
  by_cases q : ¬ inW (nI f) a b = 0
  · rw [if_pos ⟨rfl, q⟩]; simp [q]
  · rw [if_neg (fun r => q r.2)]
    have e : ¬ W (8 + 14 * f + 10) = nI (hn W) := by
      rcases hol_c (hI f h48) (by omega) with ⟨e1, -, -⟩ | ⟨h, h1, h2, e1, -⟩
      · rw [e1]; exact fun e => nI_m1 (by omega) e.symm
      · rw [e1]; intro e; have := (nI_eq (by omega) (by omega)).mp e; omega
    have q' : inW (nI f) a b = 0 := Decidable.not_not.mp q
    simp [e, q']
theorem jBeg {a b kd : Int32} (hI : Iv c W) (h24 : hn W < 24) (hf : frN W a b 48 = true) (hm : ∃ f, f < 48 ∧ ¬ inW (nI f) a b = 0) (hk : rg kd 0 5) (hw : (kd = 0 ∨ kd = 1) → ∃ nl nc, WT W (tx (12 + hn W)) nl nc) : Iv c (begW W a b kd) := by
  obtain ⟨i0, i1, i2, i3, i4, i5, i6, i7, i8, i9, i10⟩ := hI
  have e : ∀ j, (j < 8 ∨ 680 ≤ j) → (j < 1683 ∨ 1948 ≤ j) → begW W a b kd j = W j := fun j h1 h2 => beg_o h1 (by omega) (by omega)
  have eh : ∀ g w, g < hn W → w < 11 → begW W a b kd (1684 + 11 * g + w) = W (1684 + 11 * g + w) := fun g w h1 h2 => beg_o (by omega) (by omega) (by omega)
  have en := beg_hn (a := a) (b := b) (kd := kd) h24
  have hF : ∀ g, g < 48 → IvF (begW W a b kd) g := by
    intro g hg
    obtain ⟨a0, a1, a2, a3, a4, a5, a6, a7, a8, a9, a10, a11, a12⟩ := i1 g hg
    unfold IvF
    rw [en, beg_at hg (w := 0) (by decide), beg_at hg (w := 1) (by decide), beg_at hg (w := 2) (by decide), beg_at hg (w := 3) (by decide), beg_at hg (w := 4) (by decide), beg_at hg (w := 5) (by decide), beg_at hg (w := 6) (by decide), beg_at hg (w := 7) (by decide), beg_at hg (w := 8) (by decide), beg_at hg (w := 10) (by decide), beg_at hg (w := 11) (by decide), beg_at hg (w := 12) (by decide), beg_at hg (w := 13) (by decide), if_neg (by simp), if_neg (by simp), if_neg (by simp), if_neg (by simp), if_neg (by simp), if_neg (by simp), if_neg (by simp), if_neg (by simp), if_neg (by simp), if_neg (c := (11 : Nat) = 10 ∧ _) (by simp), if_neg (c := (12 : Nat) = 10 ∧ _) (by simp), if_neg (c := (13 : Nat) = 10 ∧ _) (by simp)]
    by_cases q : ¬ inW (nI g) a b = 0
    · obtain ⟨f1, f2⟩ := fr_c hf hg q
      rw [if_pos ⟨rfl, q⟩]
      refine ⟨a0, a1, a2, a3, a4, a5, a6, a7, a8, Or.inr ⟨hn W, by omega, rfl, fun _ => ?_⟩, Or.inl f1, a11, a12⟩
      rcases a9 with ⟨-, b2⟩ | ⟨h, h1, h2, -⟩
      · exact b2
      · rw [h2] at f2; exact absurd f2 (nI_pos (by omega))
    · rw [if_neg (fun r => q r.2)]
      refine ⟨a0, a1, a2, a3, a4, a5, a6, a7, a8, ?_, a10, a11, a12⟩
      rcases a9 with a9 | ⟨h, h1, h2, h3⟩
      · exact Or.inl a9
      · refine Or.inr ⟨h, by omega, h2, ?_⟩
        rw [eh h 0 h1 (by decide)]; exact h3
  have hH : IvHs (begW W a b kd) := by
    unfold IvHs
    rw [en, beg_n]
    refine ⟨rfl, by omega, fun g hg => ?_⟩
    by_cases q : g = hn W
    · subst q
      have hpos : 0 < fo (begW W a b kd) (hn W) := by
        rw [fo_beg_s h24 i1]
        obtain ⟨f, h1, h2⟩ := hm
        exact cntF_pos h1 (by simp [h2])
      unfold IvH
      rw [show begW W a b kd (1684 + 11 * hn W + 0) = kd from beg_h (w := 0) (by decide), show begW W a b kd (1684 + 11 * hn W + 1) = 0 from beg_h (w := 1) (by decide), show begW W a b kd (1684 + 11 * hn W + 2) = 0 from beg_h (w := 2) (by decide), show begW W a b kd (1684 + 11 * hn W + 3) = 0 from beg_h (w := 3) (by decide), show begW W a b kd (1684 + 11 * hn W + 5) = 0 from beg_h (w := 5) (by decide), show begW W a b kd (1684 + 11 * hn W + 6) = 0 from beg_h (w := 6) (by decide), show begW W a b kd (1684 + 11 * hn W + 8) = 0 from beg_h (w := 8) (by decide), show begW W a b kd (1684 + 11 * hn W + 9) = 0 from beg_h (w := 9) (by decide), show begW W a b kd (1684 + 11 * hn W + 10) = 0 from beg_h (w := 10) (by decide)]
      refine ⟨hk, by unfold rg; decide, by unfold rg; decide, by unfold rg; decide, by unfold rg; decide, by unfold rg; decide, Or.inl rfl, fun _ h0 => by omega, fun _ => by unfold rg; decide, fun _ => by unfold rg; decide, fun hk => ?_⟩
      obtain ⟨nl, nc, t⟩ := hw hk
      exact ⟨nl, nc, WT_c (fun i h1 h2 => e i (by unfold tx at h1; omega) (by unfold tx at h1; omega)) t⟩
    · have hg' : g < hn W := by omega
      have q := i4.2.2 g hg'
      unfold IvH at q ⊢
      rw [fo_beg_o h24 hf hg', eh g 0 hg' (by decide), eh g 1 hg' (by decide), eh g 2 hg' (by decide), eh g 3 hg' (by decide), eh g 5 hg' (by decide), eh g 6 hg' (by decide), eh g 8 hg' (by decide), eh g 9 hg' (by decide), eh g 10 hg' (by decide)]
      obtain ⟨a0, a1, a2, a3, a4, a5, a6, a7, a8, a9, a10⟩ := q
      refine ⟨a0, a1, a2, a3, a4, a5, a6, a7, a8, a9, fun q => ?_⟩
      obtain ⟨nl, nc, t⟩ := a10 q
      exact ⟨nl, nc, WT_c (fun i h1 h2 => e i (by unfold tx at h1; omega) (by unfold tx at h1; omega)) t⟩
  exact ⟨Iv0_c (e 0 (by omega) (by omega)) i0, hF, IvRn_c (fun i h1 h2 => e i (by omega) (by omega)) i2, IvPr_c (by rw [e 0 (by omega) (by omega)]; exact Int32.lt_irrefl) (fun i h1 h2 => e i (by omega) (by omega)) i3, hH, IvG_0 (fun i h1 h2 => e i (by omega) (by omega)) i5, IvLn_c (fun i h1 h2 => e i (by omega) (by omega)) i6, IvJb_c (fun i h1 h2 => e i (by omega) (by omega)) i7, IvTb_c (fun i h1 h2 => e i (by omega) (by omega)) i8, IvRw_c (e _ (by omega) (by omega)) i9, IvXs_c (fun i h1 h2 => e i (by omega) (by omega)) i10⟩
/-- the class's cells of a new holding -/
def opN (C : Nat → Int32) (h n : Nat) : Nat → Int32 := fun i => if i < 24 * n ∧ i % 24 = h then 0 else C i
theorem opN_s {C : Nat → Int32} {h n : Nat} (hh : h < 24) : opN C h (n + 1) = upd (opN C h n) (n * 24 + h) 0 := by
  funext i; simp -implicitDefEqProofs only [opN, upd]
  by_cases q : i = n * 24 + h
  · rw [if_pos q, if_pos (by omega)]
  · rw [if_neg q]
    by_cases q2 : i < 24 * n ∧ i % 24 = h
    · rw [if_pos q2, if_pos (by omega)]
    · rw [if_neg q2, if_neg (by omega)]
theorem c_open {h : Nat} {kd : Int32} (l1 : A 11 0 = nI h) (hh : h < 24) : ∃ A', ex S (d + 3) 101 [.ref 11, .int kd] (Hh k E A L T) = some (.inl (some (.int (nI h))), Hh k E A' L T) ∧ A' 11 = upd (A 11) 0 (nI (h + 1)) ∧ A' 12 = upd (upd (opN (A 12) h 13) (0 + h) kd) (120 + h) (-1) ∧ ∀ r, r ≠ 11 → r ≠ 12 → A' r = A r := by
  rw [x_X1_open, g_X1_open_0]
  simp -implicitDefEqProofs only [hg_11_0, l1, if_pos (show nI h < 24 from nI_lt (b := 24) hh (by decide))]
  refine loop_Q (α := fA) (F := fun m w B => bd S (ex S (d + 2)) dflT E_X1_open m 13 [some (.ref 11), some (.int kd), some (.int (nI w))] [] (Hh k E B L T)) (N := 13) (P := fun w B => B 12 = opN (A 12) h w ∧ ∀ r, r ≠ 12 → B r = A r) (Q := fun r => ∃ A', r = some (.inl (some (.int (nI h))), Hh k E A' L T) ∧ A' 11 = upd (A 11) 0 (nI (h + 1)) ∧ A' 12 = upd (upd (opN (A 12) h 13) (0 + h) kd) (120 + h) (-1) ∧ ∀ r, r ≠ 11 → r ≠ 12 → A' r = A r) ?_ ?_ (s := A) ⟨by funext i; simp [opN], fun _ _ => rfl⟩ (by decide)
  · rintro n w B hw ⟨h1, h2⟩
    right
    have g0 : ¬ (13 : Int32) ≤ nI w := nI_ge hw (by decide)
    have b11 : B 11 0 = nI h := by rw [h2 11 (by decide)]; exact l1
    rw [g_X1_open_13]
    simp -implicitDefEqProofs only [if_neg g0, hg_11_0, b11, hc_11, tset hw hh, q_U, nI_p1]
    exact ⟨up B 12 (w * 24 + h) 0, rfl, by rw [up_eq, h1, opN_s hh], fun r hr => by rw [up_ne hr]; exact h2 r hr⟩
  · rintro n B ⟨h1, h2⟩
    have b11 : B 11 0 = nI h := by rw [h2 11 (by decide)]; exact l1
    rw [g_X1_open_13, if_pos (by decide)]
    simp -implicitDefEqProofs only [hg_11_0, b11, hc_11, ts_0 hh, q_U, up_ne (show (11 : Nat) ≠ 12 by decide), ts_5 hh, hp_11_0, up_ii, nI_p1, nI_pred]
    refine ⟨_, rfl, ?_, ?_, fun r r1 r2 => ?_⟩
    · rw [up_eq, up_ne (by decide), up_ne (by decide), h2 11 (by decide)]
    · rw [up_ne (by decide), up_eq, up_eq, h1]
    · rw [up_ne r1, up_ne r2, up_ne r2]; exact h2 r r2
theorem kp_inc {m : Nat} (hm : m < 1000) : kp ((nI m).toInt64 + 1) = nI (m + 1) := by
  apply i32_ext
  rw [kp_toInt, nI_toInt (by omega), nI_l (by omega)]
  have : (lN m + 1).toInt = (m : Int) + 1 := by
    have e := lN_toInt (n := m) (by omega)
    rw [a64 (by rw [e]; show -9223372036854775808 ≤ (m : Int) + 1; omega) (by rw [e]; show (m : Int) + 1 ≤ 9223372036854775807; omega), e]
    rfl
  rw [this]
  omega
theorem c_openOn {a b kd : Int32} (hL : LkL (A 10) W) (l1 : A 11 0 = nI (hn W)) (h24 : hn W < 24) : ∃ A', ex S (d + 4) 105 [.ref 4, .int a, .int b, .int kd] (Hh k E A L T) = some (.inl (some (.int (nI (hn W)))), Hh k E A' L T) ∧ LkL (A' 10) (ofN W a b (hn W) 48) ∧ A' 11 = upd (A 11) 0 (nI (hn W + 1)) ∧ A' 12 = upd (upd (upd (opN (A 12) (hn W) 13) (0 + hn W) kd) (120 + hn W) (-1)) (24 + hn W) (nI (cntF (fun f => decide (¬ inW (nI f) a b = 0)) 48)) ∧ ∀ r, r ≠ 10 → r ≠ 11 → r ≠ 12 → A' r = A r := by
  generalize hH : hn W = h at *
  rw [x_X0_openOn, g_X0_openOn_0]
  obtain ⟨A1, run, a11, a12, ar⟩ := c_open (S := S) (d := d) (k := k) (E := E) (L := L) (T := T) (kd := kd) l1 h24
  simp -implicitDefEqProofs only [hv_4_2, hc_11, run, q_I, if_neg (nI_m1 (show h < 2 ^ 31 by omega))]
  have a24 : (upd (upd (opN (A 12) h 13) (0 + h) kd) (120 + h) (-1)) (24 + h) = nI 0 := by
    rw [upd_o (by omega), upd_o (by omega)]; unfold opN; rw [if_pos (by omega)]; rfl
  refine loop_Q (α := fA) (F := fun m f B => bd S (ex S (d + 3)) dflT E_X0_openOn m 21 [some (.ref 4), some (.int a), some (.int b), some (.int kd), some (.int (nI h)), some (.int (nI f))] [] (Hh k E B L T)) (N := 48) (P := fun f B => LkL (B 10) (ofN W a b h f) ∧ B 12 = upd (upd (upd (opN (A 12) h 13) (0 + h) kd) (120 + h) (-1)) (24 + h) (nI (cntF (fun f => decide (¬ inW (nI f) a b = 0)) f)) ∧ ∀ r, r ≠ 10 → r ≠ 12 → B r = A1 r) (Q := fun r => ∃ A', r = some (.inl (some (.int (nI h))), Hh k E A' L T) ∧ LkL (A' 10) (ofN W a b h 48) ∧ A' 11 = upd (A 11) 0 (nI (h + 1)) ∧ A' 12 = upd (upd (upd (opN (A 12) h 13) (0 + h) kd) (120 + h) (-1)) (24 + h) (nI (cntF (fun f => decide (¬ inW (nI f) a b = 0)) 48)) ∧ ∀ r, r ≠ 10 → r ≠ 11 → r ≠ 12 → A' r = A r) ?_ ?_ (s := A1) ⟨?_, ?_, fun _ _ _ => rfl⟩ (by decide)
  · rintro n f B hf ⟨h1, h2, h3⟩
    right
    have g0 : ¬ (48 : Int32) ≤ nI f := nI_ge hf (by decide)
    have e : cntF (fun f => decide (¬ inW (nI f) a b = 0)) (f + 1) = cntF (fun f => decide (¬ inW (nI f) a b = 0)) f + (if ¬ inW (nI f) a b = 0 then 1 else 0) := by simp -implicitDefEqProofs only [cntF, decide_eq_true_eq]
    have cl := cntF_le (fun f => decide (¬ inW (nI f) a b = 0)) f
    rw [g_X0_openOn_21]
    simp -implicitDefEqProofs only [if_neg g0, c_within, q_I, hv_4_1, hc_9, ls_10 hf, q_U, hv_4_2, hc_11, tw_g1 h24, nI_p1, ofN_s hf, e]
    by_cases c1 : inW (nI f) a b = 0
    · simp -implicitDefEqProofs only [if_pos c1, if_neg (Decidable.not_not.mpr c1), Nat.add_zero]
      exact ⟨B, rfl, h1, h2, h3⟩
    · simp -implicitDefEqProofs only [if_neg c1, if_pos (show ¬ inW (nI f) a b = 0 from c1)]
      refine ⟨_, rfl, ?_, ?_, fun r r1 r2 => by rw [up_ne r2, up_ne r1]; exact h3 r r1 r2⟩
      · rw [up_ne (by decide), up_eq]; exact vL_10 h1 hf
      · rw [up_eq, up_ne (by decide), h2, upd_s, upd_two, kp_inc (by omega)]
  · rintro n B ⟨h1, h2, h3⟩
    rw [g_X0_openOn_21, if_pos (by decide)]
    exact ⟨B, rfl, h1, by rw [h3 11 (by decide) (by decide)]; exact a11, h2, fun r r1 r2 r3 => by rw [h3 r r1 r3]; exact ar r r2 r3⟩
  · rw [ofN_0, ar 10 (by decide) (by decide)]; exact hL
  · rw [a12]
    have : (cntF (fun f => decide (¬ inW (nI f) a b = 0)) 0) = 0 := rfl
    rw [this, ← a24, upd_id]
/-- the tie with a new holding -/
theorem LkA_open {A' : fA} {T' : fT} {V : fW} (hI : Iv c W) (h0 : LkA 4 k E A T W) (h24 : hn W < 24) (hv : ∀ j, (j < 8 ∨ 680 ≤ j) → (j < 1683 ∨ 1948 ≤ j) → j < 13427 → V j = W j) (r10 : LkL (A' 10) V) (hnV : V 1683 = nI (hn W + 1)) (r11 : A' 11 0 = nI (hn W + 1)) (r12 : ∀ g, g < hn W + 1 → LkC (A' 12) V g) (rr : ∀ r, r ≠ 10 → r ≠ 11 → r ≠ 12 → r < 49 → A' r = A r) (ra : ∀ r, outK k r → A' r = A r) (hT : T' 6 = T 6) (hts : ∀ g, g < 24 → TS k E (T' 13 g)) (hl : ∀ g, g < hn W + 1 → (V (1684 + 11 * g + 0) = 0 ∨ V (1684 + 11 * g + 0) = 1) → ∃ a, T' 13 g = some a ∧ TR k E A' a V (tx (12 + g))) : LkA 4 k E A' T' V := by
  obtain ⟨i0, i1, i2, i3, i4, i5, i6, i7, i8, i9, i10⟩ := hI
  obtain ⟨l0, l1, l2, l3, l4, l5, l6, l7⟩ := h0
  have hnE : hn V = hn W + 1 := by unfold hn at *; rw [hnV]; exact nI_clamp (by omega)
  unfold LkA
  rw [show A' 4 = A 4 from rr 4 (by decide) (by decide) (by decide) (by decide), rr (4 + 12) (by decide) (by decide) (by decide) (by decide), rr (4 + 13) (by decide) (by decide) (by decide) (by decide), rr (4 + 14) (by decide) (by decide) (by decide) (by decide), rr (4 + 15) (by decide) (by decide) (by decide) (by decide), rr (4 + 16) (by decide) (by decide) (by decide) (by decide), rr (4 + 17) (by decide) (by decide) (by decide) (by decide), rr (4 + 18) (by decide) (by decide) (by decide) (by decide), rr (4 + 19) (by decide) (by decide) (by decide) (by decide), rr (4 + 20) (by decide) (by decide) (by decide) (by decide), rr (4 + 21) (by decide) (by decide) (by decide) (by decide), rr (4 + 22) (by decide) (by decide) (by decide) (by decide), rr (4 + 23) (by decide) (by decide) (by decide) (by decide), rr (4 + 24) (by decide) (by decide) (by decide) (by decide), rr (4 + 25) (by decide) (by decide) (by decide) (by decide), rr (4 + 26) (by decide) (by decide) (by decide) (by decide), rr (4 + 27) (by decide) (by decide) (by decide) (by decide), rr (4 + 28) (by decide) (by decide) (by decide) (by decide), rr (4 + 29) (by decide) (by decide) (by decide) (by decide), rr (4 + 30) (by decide) (by decide) (by decide) (by decide), rr (4 + 31) (by decide) (by decide) (by decide) (by decide), rr (4 + 1) (by decide) (by decide) (by decide) (by decide), rr (4 + 3) (by decide) (by decide) (by decide) (by decide), rr (4 + 4) (by decide) (by decide) (by decide) (by decide), show T' (4 + 2) = T 6 from hT]
  refine ⟨l0.trans (hv 0 (by omega) (by omega) (by omega)).symm, r10, LkM_c i3.2.1 (fun i h1 h2 => hv i (by omega) (by omega) (by omega)) l2, LkG_c (fun i hi => hv i (by omega) (by omega) (by omega)) l3, LkP_c (fun i h1 h2 => hv i (by omega) (by omega) (by omega)) l4, LkR_c (fun i h1 h2 => hv i (by omega) (by omega) (by omega)) l5, ?_, LkX_A (LkX_c i10.2.1 (fun i h1 h2 => hv i (by omega) (by omega) (by omega)) l7) ra⟩
  unfold LkH
  rw [hnE, hnV]
  exact ⟨r11, r12, hts, hl⟩
/-- an old holding's cells are as they were -/
theorem LkC_old {C C' : Nat → Int32} {V : fW} {g : Nat} (hg : g < 24) (h : LkC C W g) (hC : ∀ w, w < 13 → C' (24 * w + g) = C (24 * w + g)) (hv : ∀ w, w < 11 → V (1684 + 11 * g + w) = W (1684 + 11 * g + w)) (hf : fo V g = fo W g) : LkC C' V g := by
  unfold LkC at h ⊢
  rw [hf, hv 0 (by decide), hv 1 (by decide), hv 2 (by decide), hv 3 (by decide), hv 4 (by decide), hv 5 (by decide), hv 6 (by decide), hv 7 (by decide), hv 8 (by decide), hv 9 (by decide), hv 10 (by decide), show C' (0 + g) = C (0 + g) from hC 0 (by decide), show C' (24 + g) = C (24 + g) from hC 1 (by decide), show C' (48 + g) = C (48 + g) from hC 2 (by decide), show C' (72 + g) = C (72 + g) from hC 3 (by decide), show C' (96 + g) = C (96 + g) from hC 4 (by decide), show C' (120 + g) = C (120 + g) from hC 5 (by decide), show C' (144 + g) = C (144 + g) from hC 6 (by decide), show C' (168 + g) = C (168 + g) from hC 7 (by decide), show C' (192 + g) = C (192 + g) from hC 8 (by decide), show C' (216 + g) = C (216 + g) from hC 9 (by decide), show C' (240 + g) = C (240 + g) from hC 10 (by decide), show C' (264 + g) = C (264 + g) from hC 11 (by decide), show C' (288 + g) = C (288 + g) from hC 12 (by decide)]
  exact h
end OpenC
