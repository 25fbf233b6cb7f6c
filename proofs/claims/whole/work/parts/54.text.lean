/-! a text: its lines -/
section TextB
variable {S : sT} {d c : Nat} {k : Value} {E : List dsc} {A : fA} {L : fL} {T : fT} {W : fW} {a b B nl nc : Nat}
/-- a text at an address, taken apart -/
def TX (k : Value) (E : List dsc) (A : fA) (a b nl nc : Nat) (W : fW) (B : Nat) : Prop := (D0 k ++ E)[a]? = some (.inr (11, [none, some (.ref b)])) ∧ (D0 k ++ E)[b]? = some (.inl (0, 6 * nl + nc)) ∧ A a 0 = nI nl ∧ WT W B nl nc
  ∧ (∀ n, n < nl → A b (6 * n) = vb (W (B + 2 + 6 * n)) ∧ A b (6 * n + 1) = W (B + 2 + 6 * n + 1) ∧ A b (6 * n + 2) = fs (W (B + 2 + 6 * n)) (W (B + 2 + 6 * n + 2)) ∧ A b (6 * n + 3) = sc (W (B + 2 + 6 * n)) (W (B + 2 + 6 * n + 3)) ∧ A b (6 * n + 4) = W (B + 2 + 6 * n + 4) ∧ A b (6 * n + 5) = W (B + 2 + 6 * n + 5))
  ∧ (∀ i, i < nc → A b (6 * nl + i) = tr (W (B + 98 + 2 * i)) (W (B + 98 + 2 * i + 1)))
theorem TR_X (h : TR k E A a W B) : ∃ b nl nc, TX k E A a b nl nc W B := by
  obtain ⟨b, nl, nc, o1, o2, h1, h2, h3, h4, h5, h6⟩ := h
  exact ⟨b, nl, nc, h1, h2, h3, h4, h5, h6⟩
theorem tc (h : (D0 k ++ E)[a]? = some (.inr (11, [none, some (.ref b)]))) {κ : rO} : rC (Hh k E A L T) (.ref a) 11 κ = κ := rC_H h
theorem tl (h : (D0 k ++ E)[a]? = some (.inr (11, [none, some (.ref b)]))) {κ : Int32 → rO} : gI (Hh k E A L T) (.ref a) 11 0 κ = κ (A a 0) := gI_H h rfl
theorem tv (h : (D0 k ++ E)[a]? = some (.inr (11, [none, some (.ref b)]))) {κ : Value → rO} : gV (Hh k E A L T) (.ref a) 11 1 κ = κ (.ref b) := gV_H h rfl rfl
theorem tal {n : Nat} (h : (D0 k ++ E)[b]? = some (.inl (0, n))) {κ : Int32 → rO} : aLen (Hh k E A L T) (.ref b) κ = κ (nI n) := aLen_H h (by decide)
theorem ta {n i : Nat} (h : (D0 k ++ E)[b]? = some (.inl (0, n))) (hi : i < n) (hn : n < 2 ^ 31) {κ : Int32 → rO} : aI (Hh k E A L T) (.ref b) 0 (nI i) κ = κ (A b i) := by
  rw [Hh, aI_H h (by decide) (nI_pos (by omega)) (by rw [nI_clamp (by omega)]; exact hi), nI_clamp (by omega)]
theorem tx_n (h : TX k E A a b nl nc W B) : nl ≤ 16 ∧ nc ≤ 400 := ⟨h.2.2.2.1.2.1, h.2.2.2.1.2.2.1⟩
theorem c_tg {w n : Nat} (h : TX k E A a b nl nc W B) (hw : w < 6) (hn : n < nl) : ex S (d + 1) 88 [.ref a, .int (nI w), .int (nI n)] (Hh k E A L T) = some (.inl (some (.int (A b (6 * n + w)))), Hh k E A L T) := by
  obtain ⟨n1, n2⟩ := tx_n h
  obtain ⟨h1, h2, h3, h4, -, -⟩ := h
  have g0 : ¬ nI n < 0 := nI_pos (by omega)
  have g1 : ¬ nI nl ≤ nI n := nI_ge hn (by omega)
  have g2 : ¬ nI w < 0 := nI_pos (by omega)
  have g3 : ¬ (6 : Int32) ≤ nI w := nI_ge hw (by decide)
  simp -implicitDefEqProofs only [x_X8_get, g_X8_get_0, if_neg g0, tl h1, h3, if_neg g1, if_neg g2, if_neg g3, tv h1, mx_6, nI_add, ta h2 (show 6 * n + w < 6 * nl + nc by omega) (by omega)]
theorem c_tg0 {n : Nat} (h : TX k E A a b nl nc W B) (hn : n < nl) : ex S (d + 1) 88 [.ref a, .int 0, .int (nI n)] (Hh k E A L T) = some (.inl (some (.int (vb (W (B + 2 + 6 * n))))), Hh k E A L T) := by
  rw [← (h.2.2.2.2.1 n hn).1]; exact c_tg (w := 0) h (by decide) hn
theorem c_tg1 {n : Nat} (h : TX k E A a b nl nc W B) (hn : n < nl) : ex S (d + 1) 88 [.ref a, .int 1, .int (nI n)] (Hh k E A L T) = some (.inl (some (.int (W (B + 2 + 6 * n + 1)))), Hh k E A L T) := by
  rw [← (h.2.2.2.2.1 n hn).2.1]; exact c_tg (w := 1) h (by decide) hn
theorem c_tg2 {n : Nat} (h : TX k E A a b nl nc W B) (hn : n < nl) : ex S (d + 1) 88 [.ref a, .int 2, .int (nI n)] (Hh k E A L T) = some (.inl (some (.int (fs (W (B + 2 + 6 * n)) (W (B + 2 + 6 * n + 2))))), Hh k E A L T) := by
  rw [← (h.2.2.2.2.1 n hn).2.2.1]; exact c_tg (w := 2) h (by decide) hn
theorem c_tg3 {n : Nat} (h : TX k E A a b nl nc W B) (hn : n < nl) : ex S (d + 1) 88 [.ref a, .int 3, .int (nI n)] (Hh k E A L T) = some (.inl (some (.int (sc (W (B + 2 + 6 * n)) (W (B + 2 + 6 * n + 3))))), Hh k E A L T) := by
  rw [← (h.2.2.2.2.1 n hn).2.2.2.1]; exact c_tg (w := 3) h (by decide) hn
theorem c_tg4 {n : Nat} (h : TX k E A a b nl nc W B) (hn : n < nl) : ex S (d + 1) 88 [.ref a, .int 4, .int (nI n)] (Hh k E A L T) = some (.inl (some (.int (W (B + 2 + 6 * n + 4)))), Hh k E A L T) := by
  rw [← (h.2.2.2.2.1 n hn).2.2.2.2.1]; exact c_tg (w := 4) h (by decide) hn
theorem c_tg5 {n : Nat} (h : TX k E A a b nl nc W B) (hn : n < nl) : ex S (d + 1) 88 [.ref a, .int 5, .int (nI n)] (Hh k E A L T) = some (.inl (some (.int (W (B + 2 + 6 * n + 5)))), Hh k E A L T) := by
  rw [← (h.2.2.2.2.1 n hn).2.2.2.2.2]; exact c_tg (w := 5) h (by decide) hn
theorem c_tgN {w : Int32} (h : TX k E A a b nl nc W B) : ex S (d + 1) 88 [.ref a, .int w, .int (-1)] (Hh k E A L T) = some (.inl (some (.int 0)), Hh k E A L T) := by
  rw [x_X8_get, g_X8_get_0, if_pos (by decide)]
/-- the last of the first n lines of some kind -/
def lst (p : Nat → Bool) : Nat → Int32
  | 0 => -1
  | n + 1 => if p n then nI n else lst p n
theorem lst_cc (p : Nat → Bool) (n : Nat) : (lst p n = -1 ∧ ∀ j, j < n → p j = false) ∨ ∃ j, j < n ∧ lst p n = nI j ∧ p j = true ∧ ∀ i, j < i → i < n → p i = false := by
  induction n with
  | zero => exact Or.inl ⟨rfl, fun j hj => absurd hj (Nat.not_lt_zero j)⟩
  | succ n ih =>
    unfold lst
    by_cases q : p n = true
    · rw [if_pos q]; exact Or.inr ⟨n, by omega, rfl, q, fun i h1 h2 => by omega⟩
    · rw [if_neg q]
      have q' : p n = false := by simpa using q
      rcases ih with ⟨h1, h2⟩ | ⟨j, h1, h2, h3, h4⟩
      · exact Or.inl ⟨h1, fun j hj => by by_cases e : j = n
                                         · rw [e]; exact q'
                                         · exact h2 j (by omega)⟩
      · exact Or.inr ⟨j, by omega, h2, h3, fun i i1 i2 => by by_cases e : i = n
                                                             · rw [e]; exact q'
                                                             · exact h4 i i1 (by omega)⟩
theorem lst_congr {p q : Nat → Bool} {n : Nat} (h : ∀ j, j < n → p j = q j) : lst p n = lst q n := by
  induction n with
  | zero => rfl
  | succ n ih => unfold lst; rw [h n (by omega), ih (fun j hj => h j (by omega))]
/-- what the class looks for: a verb and a thing -/
theorem c_lastOf {v th : Int32} (h : TX k E A a b nl nc W B) : ex S (d + 2) 89 [.ref a, .int v, .int th] (Hh k E A L T) = some (.inl (some (.int (lst (fun n => decide (vb (W (B + 2 + 6 * n)) = v) && decide (fs (W (B + 2 + 6 * n)) (W (B + 2 + 6 * n + 2)) = th)) nl))), Hh k E A L T) := by
  obtain ⟨n1, n2⟩ := tx_n h
  obtain ⟨h1, h2, h3, -, -, -⟩ := id h
  rw [x_X8_lastOf, g_X8_lastOf_0, tl h1, h3]
  generalize hp : (fun n => decide (vb (W (B + 2 + 6 * n)) = v) && decide (fs (W (B + 2 + 6 * n)) (W (B + 2 + 6 * n + 2)) = th)) = p
  refine loop_Q (α := Unit) (F := fun m i _ => bd S (ex S (d + 1)) dflT E_X8_lastOf m 7 [some (.ref a), some (.int v), some (.int th), some (.int (nI (nl - i) - 1))] [] (Hh k E A L T)) (N := nl) (P := fun i _ => lst p nl = lst p (nl - i)) (Q := fun r => r = some (.inl (some (.int (lst p nl))), Hh k E A L T)) ?_ ?_ (s := ()) rfl (by omega)
  · intro n i _ hi hv
    obtain ⟨j, hj⟩ : ∃ j, nl - i = j + 1 := ⟨nl - i - 1, by omega⟩
    have hj2 : nl - (i + 1) = j := by omega
    have g0 : ¬ nI j < 0 := nI_pos (by omega)
    have g1 : nI j + (-1) = nI j - 1 := (Int32.sub_eq_add_neg _ _).symm
    have e : lst p (j + 1) = if p j = true then nI j else lst p j := rfl
    rw [hj, e] at hv
    simp -implicitDefEqProofs only [hj, hj2, nI_pred, g_X8_lastOf_7, if_neg g0, tc h1, c_tg0 h (show j < nl by omega), c_tg2 h (show j < nl by omega), q_I]
    by_cases c1 : vb (W (B + 2 + 6 * j)) = v
    · by_cases c2 : fs (W (B + 2 + 6 * j)) (W (B + 2 + 6 * j + 2)) = th
      · have e1 : p j = true := by rw [← hp]; simp [c1, c2]
        rw [if_pos e1] at hv
        left; rw [if_pos c1, if_pos c2, hv]
      · have e1 : ¬ p j = true := by rw [← hp]; simp [c2]
        rw [if_neg e1] at hv
        right; exact ⟨(), by rw [if_pos c1, if_neg c2, g1], hv⟩
    · have e1 : ¬ p j = true := by rw [← hp]; simp [c1]
      rw [if_neg e1] at hv
      right; exact ⟨(), by rw [if_neg c1, g1], hv⟩
  · intro n _ hv
    rw [Nat.sub_self] at hv
    simp -implicitDefEqProofs only [Nat.sub_self, g_X8_lastOf_7]
    rw [if_pos (by decide), hv]
    rfl
/-- the reference's own: where lines are -/
theorem r_tat {t : Nat} {h : pH} : ex S (d + 1) 116 [.int (nI t)] h = some (.inl (some (.int (nI (tx t)))), h) := by
  rw [x_X12_textAt, g_X12_textAt_0, ix_2651]; rfl
theorem r_lat {t n : Nat} {h : pH} : ex S (d + 2) 117 [.int (nI t), .int (nI n)] h = some (.inl (some (.int (nI (tx t + 2 + 6 * n)))), h) := by
  simp -implicitDefEqProofs only [x_X12_lineAt, g_X12_lineAt_0, r_tat, q_I, nI_p2, mx_6, nI_add]
theorem r_lns {t : Nat} (ht : t < 37) : ex S (d + 2) 141 [.ref 39, .int (nI t)] (Hh k E A L T) = some (.inl (some (.int (A 40 (tx t + 1)))), Hh k E A L T) := by
  simp -implicitDefEqProofs only [x_X12_linesOf, g_X12_linesOf_0, hv_39_1, r_tat, q_I, nI_p1, an_40 (show tx t + 1 < 35877 by unfold tx; omega)]
end TextB
