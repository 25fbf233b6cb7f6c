/-! a holding is begun on the fields of a rectangle -/
section OpenB
variable {S : sT} {d c : Nat} {k : Value} {E : List dsc} {A : fA} {L : fL} {T : fT} {W : fW}
/-- a field may be taken -/
def frF (W : fW) (a b : Int32) (f : Nat) : Bool := decide (inW (nI f) a b = 0) || (decide (W (8 + 14 * f + 11) = 0) && decide (W (8 + 14 * f + 10) < 0))
def frN (W : fW) (a b : Int32) : Nat → Bool
  | 0 => true
  | n + 1 => frN W a b n && frF W a b n
theorem frN_all {a b : Int32} {n : Nat} : frN W a b n = true ↔ ∀ f, f < n → frF W a b f = true := by
  induction n with
  | zero => simp [frN]
  | succ n ih =>
    unfold frN
    rw [Bool.and_eq_true, ih]
    constructor
    · rintro ⟨h1, h2⟩ f hf
      by_cases e : f = n
      · subst e; exact h2
      · exact h1 f (by omega)
    · exact fun h => ⟨fun f hf => h f (by omega), h n (by omega)⟩
def frW (W : fW) (a b : Int32) : Int32 := if hn W < 24 then (if frN W a b 48 = true then 1 else 0) else 0
theorem r_free {a b : Int32} (hp : A 40 1683 = nI (hn (A 40))) (h24 : hn (A 40) ≤ 24) : ex S (d + 3) 147 [.ref 39, .int a, .int b] (Hh k E A L T) = some (.inl (some (.int (frW (A 40) a b))), Hh k E A L T) := by
  rw [x_X12_areFree, g_X12_areFree_0]
  simp -implicitDefEqProofs only [hv_39_1, aw_40_1683, hp]
  have key : ∀ z : Int32, (z = 0 ∨ z = 1) → bd S (ex S (d + 2)) dflT E_X12_areFree 99999 22 [some (.ref 39), some (.int a), some (.int b), some (.int z), some (.int (nI 0))] [] (Hh k E A L T) = some (.inl (some (.int (if z = 1 ∧ frN (A 40) a b 48 = true then 1 else 0))), Hh k E A L T) := by
    intro z hz
    refine loop_Q (α := Unit) (F := fun m f _ => bd S (ex S (d + 2)) dflT E_X12_areFree m 22 [some (.ref 39), some (.int a), some (.int b), some (.int (if z = 1 ∧ frN (A 40) a b f = true then 1 else 0)), some (.int (nI f))] [] (Hh k E A L T)) (N := 48) (P := fun _ _ => True) (Q := fun r => r = some (.inl (some (.int (if z = 1 ∧ frN (A 40) a b 48 = true then 1 else 0))), Hh k E A L T)) ?_ ?_ (s := ()) trivial (m := 99999) (by decide) |> (fun h => by
      have e : (if z = 1 ∧ frN (A 40) a b 0 = true then (1 : Int32) else 0) = z := by rcases hz with h9 | h9 <;> subst h9 <;> rfl
      rw [e] at h; exact h)
    · intro n f _ hf _
      right
      refine ⟨(), ?_, trivial⟩
      have g0 : ¬ (48 : Int32) ≤ nI f := nI_ge hf (by decide)
      have e : frN (A 40) a b (f + 1) = (frN (A 40) a b f && frF (A 40) a b f) := rfl
      rw [g_X12_areFree_22, if_neg g0]
      by_cases q : z = 1 ∧ frN (A 40) a b f = true
      · simp -implicitDefEqProofs only [if_pos q, i1_0, if_false, r_isIn, q_I, hc_39, ro_11 hf, ro_10 hf, nI_p1, e]
        by_cases c1 : inW (nI f) a b = 0
        · have e1 : frF (A 40) a b f = true := by unfold frF; simp [c1]
          rw [if_pos c1, if_pos ⟨q.1, by rw [q.2, e1]; rfl⟩]
        · rw [if_neg c1]
          by_cases c2 : A 40 (8 + 14 * f + 11) = 0
          · rw [if_pos c2]
            by_cases c3 : 0 ≤ A 40 (8 + 14 * f + 10)
            · have e1 : ¬ frF (A 40) a b f = true := by unfold frF; have := Int32.not_lt.mpr c3; simp [c1, c2, this]
              rw [if_pos c3, if_neg (fun r => e1 (by have := r.2; rw [q.2] at this; exact this))]
            · have e1 : frF (A 40) a b f = true := by unfold frF; have := Int32.not_le.mp c3; simp [c2, this]
              rw [if_neg c3, if_pos ⟨q.1, by rw [q.2, e1]; rfl⟩]
          · have e1 : ¬ frF (A 40) a b f = true := by unfold frF; simp [c1, c2]
            rw [if_neg c2, if_neg (fun r => e1 (by have := r.2; rw [q.2] at this; exact this))]
      · have q2 : ¬ (z = 1 ∧ frN (A 40) a b (f + 1) = true) := fun r => q ⟨r.1, by have := r.2; rw [e, Bool.and_eq_true] at this; exact this.1⟩
        rw [if_neg q, if_neg q2, if_pos rfl, nI_p1]
    · intro n _ _
      rw [g_X12_areFree_22, if_pos (by decide)]
      split
      · rw [q_z1]
      · rw [q_z0]
  unfold frW
  by_cases q : hn (A 40) < 24
  · rw [if_neg (show ¬ (24 : Int32) ≤ nI (hn (A 40)) from nI_ge q (by decide)), show bd S (ex S (d + 2)) dflT E_X12_areFree 99999 22 [some (.ref 39), some (.int a), some (.int b), some (.int 1), some (.int 0)] [] (Hh k E A L T) = _ from key 1 (Or.inr rfl), if_pos q]
    simp
  · rw [if_pos (show (24 : Int32) ≤ nI (hn (A 40)) from nI_le (a := 24) (by omega) (by omega)), show bd S (ex S (d + 2)) dflT E_X12_areFree 99999 22 [some (.ref 39), some (.int a), some (.int b), some (.int 0), some (.int 0)] [] (Hh k E A L T) = _ from key 0 (Or.inl rfl), if_neg q]
    simp
theorem c_free {a b : Int32} (hL : LkL (A 10) W) (l1 : A 11 0 = nI (hn W)) (h24 : hn W ≤ 24) (hI : ∀ f, f < 48 → IvF W f) : ex S (d + 4) 96 [.ref 4, .int a, .int b] (Hh k E A L T) = some (.inl (some (.int (frW W a b))), Hh k E A L T) := by
  rw [x_X0_isFree, g_X0_isFree_0]
  simp -implicitDefEqProofs only [hv_4_2, hg_11_0, l1]
  unfold frW
  by_cases q : hn W < 24
  · rw [if_pos (show nI (hn W) < 24 from nI_lt (b := 24) q (by decide)), if_pos q]
    refine loop_QK (K := 2) (α := Option Value) (F := fun m f o => bd S (ex S (d + 3)) dflT E_X0_isFree m 16 [some (.ref 4), some (.int a), some (.int b), some (.int (nI f)), o] [] (Hh k E A L T)) (N := 48) (P := fun f _ => frN W a b f = true) (Q := fun r => r = some (.inl (some (.int (if frN W a b 48 = true then 1 else 0))), Hh k E A L T)) ?_ ?_ (s := none) rfl (by decide)
    · intro n f o hf hp
      have g0 : ¬ (48 : Int32) ≤ nI f := nI_ge hf (by decide)
      have e : frN W a b (f + 1) = (frN W a b f && frF W a b f) := rfl
      have no : ¬ frF W a b f = true → (if frN W a b 48 = true then (1 : Int32) else 0) = 0 := fun h => by
        rw [if_neg]; intro h2; exact h (frN_all.mp h2 f hf)
      rw [g_X0_isFree_16, if_neg g0]
      simp -implicitDefEqProofs only [hv_4_1, hc_9, c_sold hL (hI f hf) hf, gL_10 hL hf, q_I, g_X0_isFree_52, c_within, nI_p1]
      obtain ⟨-, -, -, -, -, -, -, -, -, a9, a10, -⟩ := hI f hf
      have a9' : W (8 + 14 * f + 10) = -1 ∨ ¬ W (8 + 14 * f + 10) < 0 := by
        rcases a9 with ⟨h, -⟩ | ⟨h, h1, h2, -⟩
        · exact Or.inl h
        · exact Or.inr (by rw [h2]; exact nI_pos (by omega))
      by_cases c2 : W (8 + 14 * f + 11) = 0
      · rw [if_pos c2]
        by_cases c3 : W (8 + 14 * f + 10) = -1
        · have e1 : frF W a b f = true := by unfold frF; rw [c3]; simp [c2]
          simp -implicitDefEqProofs only [if_pos c3, if_true]
          right; exact ⟨_, n, Nat.le_refl _, rfl, by rw [e, hp, e1]; rfl⟩
        · have c4 := a9'.resolve_left c3
          rw [if_neg c3, if_neg (by decide)]
          by_cases c1 : inW (nI f) a b = 0
          · have e1 : frF W a b f = true := by unfold frF; simp [c1]
            rw [if_pos c1]
            right; exact ⟨_, n, Nat.le_refl _, rfl, by rw [e, hp, e1]; rfl⟩
          · have e1 : ¬ frF W a b f = true := by unfold frF; simp [c1, c2, c4]
            left; rw [if_neg c1, q_z0, no e1]
      · rw [if_neg c2, if_neg (by decide)]
        by_cases c1 : inW (nI f) a b = 0
        · have e1 : frF W a b f = true := by unfold frF; simp [c1]
          rw [if_pos c1]
          right; exact ⟨_, n, Nat.le_refl _, rfl, by rw [e, hp, e1]; rfl⟩
        · have e1 : ¬ frF W a b f = true := by unfold frF; simp [c1, c2]
          left; rw [if_neg c1, q_z0, no e1]
    · intro n o hp
      rw [g_X0_isFree_16, if_pos (by decide), if_pos hp, q_z1]
  · rw [if_neg (show ¬ nI (hn W) < 24 from nI_nlt (b := 24) (by omega) (by omega)), if_neg q, q_z0]
/-- the fields of the rectangle below n are of h -/
def ofN (W : fW) (a b : Int32) (h n : Nat) : fW := fun i => if 8 ≤ i ∧ (i - 8) / 14 < n ∧ (i - 8) % 14 = 10 ∧ ¬ inW (nI ((i - 8) / 14)) a b = 0 then nI h else W i
theorem ofN_0 (a b : Int32) (h : Nat) : ofN W a b h 0 = W := by funext i; simp [ofN]
theorem ofN_at {a b : Int32} {h n f w : Nat} (hw : w < 14) : ofN W a b h n (8 + 14 * f + w) = if f < n ∧ w = 10 ∧ ¬ inW (nI f) a b = 0 then nI h else W (8 + 14 * f + w) := by
  unfold ofN
  have e1 : (8 + 14 * f + w - 8) / 14 = f := by omega
  have e2 : (8 + 14 * f + w - 8) % 14 = w := by omega
  rw [e1, e2]
  by_cases q : f < n ∧ w = 10 ∧ ¬ inW (nI f) a b = 0
  · rw [if_pos ⟨by omega, q⟩, if_pos q]
  · rw [if_neg (fun r => q r.2), if_neg q]
theorem ofN_hi {a b : Int32} {h n i : Nat} (hn : n ≤ 48) (hi : i < 8 ∨ 680 ≤ i) : ofN W a b h n i = W i := by
  unfold ofN
  rw [if_neg]
  rintro ⟨h1, h2, -⟩
  omega
theorem ofN_s {a b : Int32} {h n : Nat} (hn : n < 48) : ofN W a b h (n + 1) = if inW (nI n) a b = 0 then ofN W a b h n else upd (ofN W a b h n) (8 + 14 * n + 10) (nI h) := by
  funext i
  by_cases hi : 8 ≤ i ∧ i < 680
  · obtain ⟨f, w, hw, rfl⟩ : ∃ f w, w < 14 ∧ i = 8 + 14 * f + w := ⟨(i - 8) / 14, (i - 8) % 14, by omega, by omega⟩
    rw [ofN_at hw]
    by_cases q : inW (nI n) a b = 0
    · rw [if_pos q, ofN_at hw]
      by_cases q2 : f < n ∧ w = 10 ∧ ¬ inW (nI f) a b = 0
      · rw [if_pos ⟨by omega, q2.2⟩, if_pos q2]
      · rw [if_neg, if_neg q2]
        rintro ⟨r1, r2, r3⟩
        by_cases e : f = n
        · subst e; exact r3 q
        · exact q2 ⟨by omega, r2, r3⟩
    · rw [if_neg q]
      by_cases e : f = n ∧ w = 10
      · obtain ⟨e1, e2⟩ := e; subst e1 e2
        rw [upd_s, if_pos ⟨by omega, rfl, q⟩]
      · rw [upd_o (by omega), ofN_at hw]
        by_cases q2 : f < n ∧ w = 10 ∧ ¬ inW (nI f) a b = 0
        · rw [if_pos ⟨by omega, q2.2⟩, if_pos q2]
        · rw [if_neg, if_neg q2]
          rintro ⟨r1, r2, r3⟩
          exact q2 ⟨by omega, r2, r3⟩
  · rw [ofN_hi (by omega) (by omega)]
    split
    · rw [ofN_hi (by omega) (by omega)]
    · rw [upd_o (by omega), ofN_hi (by omega) (by omega)]
/-- a new holding's cells -/
def nwN (W : fW) (h n : Nat) : fW := fun i => if 1684 + 11 * h ≤ i ∧ i < 1684 + 11 * h + n then 0 else W i
theorem nwN_s (h n : Nat) : nwN W h (n + 1) = upd (nwN W h n) (1684 + 11 * h + n) 0 := by
  funext i; simp -implicitDefEqProofs only [nwN, upd]
  by_cases q : i = 1684 + 11 * h + n
  · rw [if_pos (by omega), if_pos q]
  · rw [if_neg q]
    by_cases q2 : 1684 + 11 * h ≤ i ∧ i < 1684 + 11 * h + n
    · rw [if_pos (by omega), if_pos q2]
    · rw [if_neg (by omega), if_neg q2]
theorem nwN_o {h n i : Nat} (hi : i < 1684 + 11 * h ∨ 1684 + 11 * h + n ≤ i) : nwN W h n i = W i := by
  unfold nwN; rw [if_neg (by omega)]
def begW (W : fW) (a b kd : Int32) : fW := ofN (upd (upd (nwN (upd W 1683 (nI (hn W + 1))) (hn W) 11) (1684 + 11 * hn W + 0) kd) (1684 + 11 * hn W + 4) (-1)) a b (hn W) 48
theorem beg_at {a b kd : Int32} {f w : Nat} (hf : f < 48) (hw : w < 14) : begW W a b kd (8 + 14 * f + w) = if w = 10 ∧ ¬ inW (nI f) a b = 0 then nI (hn W) else W (8 + 14 * f + w) := by
  unfold begW
  rw [ofN_at hw, upd_o (by omega), upd_o (by omega), nwN_o (by omega), upd_o (by omega)]
  by_cases q : w = 10 ∧ ¬ inW (nI f) a b = 0
  · rw [if_pos ⟨hf, q⟩, if_pos q]
  · rw [if_neg (fun r => q r.2), if_neg q]
theorem beg_o {a b kd : Int32} {i : Nat} (h1 : i < 8 ∨ 680 ≤ i) (h2 : i ≠ 1683) (h3 : i < 1684 + 11 * hn W ∨ 1684 + 11 * hn W + 11 ≤ i) : begW W a b kd i = W i := by
  unfold begW
  rw [ofN_hi (by decide) h1, upd_o (by omega), upd_o (by omega), nwN_o (by omega), upd_o h2]
theorem beg_n {a b kd : Int32} : begW W a b kd 1683 = nI (hn W + 1) := by
  unfold begW
  rw [ofN_hi (by decide) (by decide), upd_o (by omega), upd_o (by omega), nwN_o (by omega), upd_s]
theorem beg_h {a b kd : Int32} {w : Nat} (hw : w < 11) : begW W a b kd (1684 + 11 * hn W + w) = if w = 0 then kd else if w = 4 then -1 else 0 := by
  unfold begW
  rw [ofN_hi (by decide) (by omega)]
  by_cases q4 : w = 4
  · subst q4; rw [upd_s]; rfl
  · rw [upd_o (by omega)]
    by_cases q0 : w = 0
    · subst q0; rw [upd_s]; rfl
    · rw [upd_o (by omega), if_neg q0, if_neg q4]
      unfold nwN
      rw [if_pos (by omega)]
theorem r_begins {a b kd : Int32} (hp : A 40 1683 = nI (hn (A 40))) (h24 : hn (A 40) < 24) : ex S (d + 3) 149 [.ref 39, .int a, .int b, .int kd] (Hh k E A L T) = some (.inl (some (.int (nI (hn (A 40))))), Hh k E (upR A 40 (begW (A 40) a b kd)) L T) := by
  generalize hH : hn (A 40) = h at *
  rw [x_X12_begins, g_X12_begins_0]
  simp -implicitDefEqProofs only [hv_39_1, aw_40_1683, hp, q_nr, nI_p1, sw_40_1683]
  obtain ⟨B, g', hg', e1, e2, e3⟩ := loop_RK (α := fA) (K := 1) (F := fun q i B => bd S (ex S (d + 2)) dflT E_X12_begins q 25 [some (.ref 39), some (.int a), some (.int b), some (.int kd), some (.int (nI h)), some (.int (nI i))] [] (Hh k E B L T)) (N := 11) (P := fun i B => B 40 = nwN (upd (A 40) 1683 (nI (h + 1))) h i ∧ ∀ r, r ≠ 40 → B r = A r) (s := up A 40 1683 (nI (h + 1))) (by
    rintro q i B hi ⟨h1, h2⟩
    have g0 : ¬ (11 : Int32) ≤ nI i := nI_ge hi (by decide)
    rw [g_X12_begins_25]
    simp -implicitDefEqProofs only [if_neg g0, hv_39_1, r_hat, q_I, sn_40 (show 1684 + 11 * h + i < 35877 by omega), nI_p1]
    refine ⟨up B 40 (1684 + 11 * h + i) 0, q, Nat.le_refl _, rfl, ?_, fun r hr => by rw [up_ne hr]; exact h2 r hr⟩
    rw [up40, h1, nwN_s]) ⟨by rw [up40]; funext i; simp [nwN]; intro h1 h2; omega, fun r hr => up_ne hr⟩ 90000 99999 (by decide)
  rw [show bd S (ex S (d + 2)) dflT E_X12_begins 99999 25 [some (.ref 39), some (.int a), some (.int b), some (.int kd), some (.int (nI h)), some (.int 0)] [] (Hh k E (up A 40 1683 (nI (h + 1))) L T) = _ from e1]
  obtain ⟨g2, rfl⟩ : ∃ g2, g' = g2 + 1 := ⟨g' - 1, by omega⟩
  rw [g_X12_begins_25, if_pos (by decide)]
  simp -implicitDefEqProofs only [hv_39_1, rh_0, rh_4, q_I, sn_40 (show 1684 + 11 * h + 0 < 35877 by omega), sn_40 (show 1684 + 11 * h + 4 < 35877 by omega)]
  have eV : up (up B 40 (1684 + 11 * h + 0) kd) 40 (1684 + 11 * h + 4) (-1) 40 = upd (upd (nwN (upd (A 40) 1683 (nI (h + 1))) h 11) (1684 + 11 * h + 0) kd) (1684 + 11 * h + 4) (-1) := by rw [up40, up40, e2]
  refine loop_Q (α := fA) (F := fun q f C => bd S (ex S (d + 2)) dflT E_X12_begins q 78 [some (.ref 39), some (.int a), some (.int b), some (.int kd), some (.int (nI h)), some (.int (nI f))] [] (Hh k E C L T)) (N := 48) (P := fun f C => C 40 = ofN (upd (upd (nwN (upd (A 40) 1683 (nI (h + 1))) h 11) (1684 + 11 * h + 0) kd) (1684 + 11 * h + 4) (-1)) a b h f ∧ ∀ r, r ≠ 40 → C r = A r) (Q := fun r => r = some (.inl (some (.int (nI h))), Hh k E (upR A 40 (begW (A 40) a b kd)) L T)) ?_ ?_ (s := up (up B 40 (1684 + 11 * h + 0) kd) 40 (1684 + 11 * h + 4) (-1)) ⟨by rw [ofN_0]; exact eV, fun r hr => by rw [up_ne hr, up_ne hr]; exact e3 r hr⟩ (by omega)
  · rintro q f C hf ⟨h1, h2⟩
    right
    have g0 : ¬ (48 : Int32) ≤ nI f := nI_ge hf (by decide)
    rw [g_X12_begins_78]
    simp -implicitDefEqProofs only [if_neg g0, r_isIn, q_I, hv_39_1, ra_10, sn_40 (show 8 + 14 * f + 10 < 35877 by omega), nI_p1, ofN_s hf]
    by_cases c1 : inW (nI f) a b = 0
    · simp -implicitDefEqProofs only [if_pos c1]
      exact ⟨C, rfl, h1, h2⟩
    · simp -implicitDefEqProofs only [if_neg c1]
      exact ⟨up C 40 (8 + 14 * f + 10) (nI h), rfl, by rw [up40, h1], fun r hr => by rw [up_ne hr]; exact h2 r hr⟩
  · rintro q C ⟨h1, h2⟩
    rw [g_X12_begins_78, if_pos (by decide)]
    have : C = upR A 40 (begW (A 40) a b kd) := by
      funext r
      by_cases hr : r = 40
      · subst hr; rw [h1, upR40]; unfold begW; rw [hH]
      · rw [h2 r hr]; simp [upR, hr]
    rw [this]
end OpenB
