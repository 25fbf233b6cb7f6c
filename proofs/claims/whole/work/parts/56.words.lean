/-! the words: the last line of a verb in force -/
section WordsP
variable {W : fW}
def lnT (W : fW) (t : Nat) : Nat := (W (tx t + 1)).toNatClampNeg
def fl (W : fW) (i : Nat) : Nat := (FW W).getD i 0
/-- a line of a verb (and of a thing) -/
def ml (W : fW) (t : Nat) (s th : Int32) (n : Nat) : Bool := decide (W (tx t + 2 + 6 * n) = s) && (decide (¬ s = 14) || decide (W (tx t + 2 + 6 * n + 2) = th))
def lsT (W : fW) (t : Nat) (s th : Int32) : Int32 := lst (ml W t s th) (lnT W t)
def stN (W : fW) (t : Nat) (s : Int32) : Nat → Bool
  | 0 => false
  | n + 1 => stN W t s n || (decide (W (tx t + 2 + 6 * n) = 16) && decide (W (tx t + 2 + 6 * n + 2) = s))
def stT (W : fW) (t : Nat) (s : Int32) : Bool := stN W t s (lnT W t)
def skN (W : fW) (s : Int32) (i : Nat) : Nat → Bool
  | 0 => false
  | j + 1 => skN W s i j || (decide (i < j) && stT W (fl W j) s)
theorem skN_iff {s : Int32} {i j : Nat} : skN W s i j = true ↔ ∃ p, i < p ∧ p < j ∧ stT W (fl W p) s = true := by
  induction j with
  | zero => simp [skN]
  | succ j ih =>
    unfold skN
    rw [Bool.or_eq_true, Bool.and_eq_true, ih, decide_eq_true_eq]
    constructor
    · rintro (⟨p, h1, h2, h3⟩ | ⟨h1, h2⟩)
      · exact ⟨p, h1, by omega, h3⟩
      · exact ⟨j, h1, by omega, h2⟩
    · rintro ⟨p, h1, h2, h3⟩
      by_cases e : p = j
      · subst e; exact Or.inr ⟨h1, h3⟩
      · exact Or.inl ⟨p, h1, by omega, h3⟩
/-- as the reference goes -/
def fd (W : fW) (s th : Int32) : Nat → Int32
  | 0 => -1
  | j + 1 => if skN W s j (FW W).length = false ∧ ¬ lsT W (fl W j) s th = -1 then 16 * nI (fl W j) + lsT W (fl W j) s th else fd W s th j
/-- as the class goes -/
def cl (W : fW) (s th : Int32) : Nat → Int32
  | 0 => -1
  | j + 1 => if ¬ lsT W (fl W j) s th = -1 then 16 * nI (fl W j) + lsT W (fl W j) s th else if stT W (fl W j) s = true then -1 else cl W s th j
theorem fd_no {s th : Int32} {j : Nat} (h : ∃ p, j ≤ p ∧ p < (FW W).length ∧ stT W (fl W p) s = true) : fd W s th j = -1 := by
  induction j with
  | zero => rfl
  | succ j ih =>
    obtain ⟨p, h1, h2, h3⟩ := h
    have : skN W s j (FW W).length = true := skN_iff.mpr ⟨p, by omega, h2, h3⟩
    show (if _ then _ else fd W s th j) = -1
    rw [if_neg (fun q => by rw [this] at q; exact absurd q.1 (by decide))]
    exact ih ⟨p, by omega, h2, h3⟩
theorem fd_cl {s th : Int32} {j : Nat} (hj : j ≤ (FW W).length) (h : ∀ p, j ≤ p → p < (FW W).length → stT W (fl W p) s = false) : fd W s th j = cl W s th j := by
  induction j with
  | zero => rfl
  | succ j ih =>
    have hs : skN W s j (FW W).length = false := by
      cases q : skN W s j (FW W).length with
      | false => rfl
      | true =>
        obtain ⟨p, h1, h2, h3⟩ := skN_iff.mp q
        rw [h p (by omega) h2] at h3; exact absurd h3 (by decide)
    show (if _ then _ else fd W s th j) = (if _ then _ else if _ then _ else cl W s th j)
    by_cases q : ¬ lsT W (fl W j) s th = -1
    · rw [if_pos ⟨hs, q⟩, if_pos q]
    · rw [if_neg (fun r => q r.2), if_neg q]
      by_cases q2 : stT W (fl W j) s = true
      · rw [if_pos q2]; exact fd_no ⟨j, Nat.le_refl _, by omega, q2⟩
      · rw [if_neg q2]
        refine ih (by omega) (fun p h1 h2 => ?_)
        by_cases e : p = j
        · subst e; simpa using q2
        · exact h p (by omega) h2
def llW (W : fW) (s th : Int32) : Int32 := cl W s th (FW W).length
theorem fd_ll {s th : Int32} : fd W s th (FW W).length = llW W s th := fd_cl (Nat.le_refl _) (fun p h1 h2 => by omega)
/-- a verb and the number that the class has for it -/
theorem vb_eq {x s : Int32} (hx : rg x 0 6 ∨ rg x 10 16) (hs : rg s 10 16) : vb x = vb s ↔ x = s := by
  obtain ⟨m, hm, -, rfl⟩ := rg_of (b := 16) (x := s) ⟨by have := hs.1; omega, hs.2⟩
  obtain ⟨n, hn, -, rfl⟩ : ∃ n, n ≤ 16 ∧ n < 2 ^ 31 ∧ x = nI n := by
    rcases hx with h | h
    · obtain ⟨n, a, b, e⟩ := rg_of (b := 6) h; exact ⟨n, by omega, b, e⟩
    · exact rg_of (b := 16) ⟨by have := h.1; omega, h.2⟩
  have h1 : n ≤ 6 ∨ 10 ≤ n := by
    rcases hx with h | h
    · left; have := h.2; rw [nI_toInt (by omega)] at this; omega
    · right; have := h.1; rw [nI_toInt (by omega)] at this; omega
  have h2 : 10 ≤ m := by have := hs.1; rw [nI_toInt (by omega)] at this; omega
  have e : ∀ q, q ≤ 16 → vb (nI q) = nI (if q < 10 then q + 24 else q + 7) := by
    intro q hq
    unfold vb
    by_cases c : q < 10
    · rw [if_pos (show nI q < 10 from nI_lt (b := 10) c (by decide)), if_pos c]; exact nI_add q 24
    · rw [if_neg (show ¬ nI q < 10 from nI_nlt (b := 10) (by omega) (by omega)), if_neg c]; exact nI_add q 7
  rw [e n hn, e m hm, nI_eq (by split <;> omega) (by split <;> omega), nI_eq (by omega) (by omega)]
  split <;> split <;> omega
theorem add_inj (x y z : Int32) : x + z = y + z ↔ x = y := by
  constructor
  · intro h
    have : x + z - z = y + z - z := by rw [h]
    simpa [Int32.add_sub_cancel] using this
  · rintro rfl; rfl
end WordsP
section WordsB
variable {S : sT} {d c : Nat} {k : Value} {E : List dsc} {A : fA} {L : fL} {T : fT} {W : fW}
theorem lnT_eq {t nl nc : Nat} (h : WT W (tx t) nl nc) : lnT W t = nl := by
  unfold lnT; rw [h.1]; exact nI_clamp (by have := h.2.1; omega)
/-- what thing the class looks for -/
def thC (s th : Int32) : Int32 := if s = 14 then th + 12 else 0
theorem c_ls {a b nl nc t : Nat} {s th : Int32} (h : TX k E A a b nl nc W (tx t)) (hs : rg s 10 15) : ex S (d + 2) 89 [.ref a, .int (vb s), .int (thC s th)] (Hh k E A L T) = some (.inl (some (.int (lsT W t s th))), Hh k E A L T) := by
  rw [c_lastOf h]
  unfold lsT
  rw [lnT_eq h.2.2.2.1]
  congr 5
  apply lst_congr
  intro n hn
  obtain ⟨a1, -⟩ := h.2.2.2.1.2.2.2 n hn
  have e1 := vb_eq a1 (s := s) ⟨hs.1, by have := hs.2; omega⟩
  unfold ml
  by_cases q : W (tx t + 2 + 6 * n) = s
  · have q' : vb (W (tx t + 2 + 6 * n)) = vb s := e1.mpr q
    rw [q]
    obtain ⟨m, hm, -, rfl⟩ := rg_of (b := 15) (x := s) ⟨by have := hs.1; omega, hs.2⟩
    have h10 : 10 ≤ m := by have := hs.1; rw [nI_toInt (by omega)] at this; omega
    unfold fs thC
    by_cases c14 : m = 14
    · subst c14
      have e9 : (nI 14 : Int32) = 14 := rfl
      rw [e9, if_neg (by decide), if_neg (by decide), if_neg (by decide), if_pos rfl, if_pos rfl]
      simp -implicitDefEqProofs only [decide_true, Bool.true_and, add_inj]
      simp
    · have ne : ∀ j, j < 2 ^ 31 → j ≠ m → ¬ nI m = nI j := fun j hj hne e => hne ((nI_eq (by omega) hj).mp e).symm
      have n1 : ¬ nI m = 1 := ne 1 (by decide) (by omega)
      have n2 : ¬ nI m = 2 := ne 2 (by decide) (by omega)
      have n3 : ¬ nI m = 3 := ne 3 (by decide) (by omega)
      have n14 : ¬ nI m = 14 := ne 14 (by decide) (by omega)
      have n16 : ¬ nI m = 16 := ne 16 (by decide) (by omega)
      rw [if_neg n1, if_neg n2, if_neg n3, if_neg n14, if_neg n16, if_neg n14]
      simp [n14]
  · have q' : ¬ vb (W (tx t + 2 + 6 * n)) = vb s := fun r => q (e1.mp r)
    simp [q, q']
theorem stN_lst {t : Nat} {s : Int32} {n : Nat} {p : Nat → Bool} (h : ∀ j, j < n → p j = (decide (W (tx t + 2 + 6 * j) = 16) && decide (W (tx t + 2 + 6 * j + 2) = s))) (hn : n < 2 ^ 31) : (lst p n = -1) ↔ stN W t s n = false := by
  induction n with
  | zero => simp [lst, stN]
  | succ n ih =>
    unfold lst stN
    rw [h n (by omega)]
    by_cases q : (decide (W (tx t + 2 + 6 * n) = 16) && decide (W (tx t + 2 + 6 * n + 2) = s)) = true
    · rw [if_pos q, q, Bool.or_true]
      exact ⟨fun e => absurd e (nI_m1 (by omega)), fun e => absurd e (by decide)⟩
    · rw [if_neg q, ih (fun j hj => h j (by omega)) (by omega)]
      have : (decide (W (tx t + 2 + 6 * n) = 16) && decide (W (tx t + 2 + 6 * n + 2) = s)) = false := by simpa using q
      rw [this, Bool.or_false]
theorem c_stk {a b nl nc t : Nat} {s : Int32} (h : TX k E A a b nl nc W (tx t)) (hs : rg s 10 16) : ∃ x, ex S (d + 2) 89 [.ref a, .int 23, .int (vb s)] (Hh k E A L T) = some (.inl (some (.int x)), Hh k E A L T) ∧ (x = -1 ↔ stT W t s = false) := by
  refine ⟨_, c_lastOf h, ?_⟩
  unfold stT
  rw [lnT_eq h.2.2.2.1]
  have hnl := h.2.2.2.1.2.1
  refine stN_lst (fun n hn => ?_) (by omega)
  obtain ⟨a1, -, -, -, -, -, -, a8, -⟩ := h.2.2.2.1.2.2.2 n hn
  have e1 := vb_eq a1 (s := 16) (by unfold rg; decide)
  have e0 : (23 : Int32) = vb 16 := by decide
  rw [e0]
  by_cases q : W (tx t + 2 + 6 * n) = 16
  · rw [q]
    have e2 : fs 16 (W (tx t + 2 + 6 * n + 2)) = W (tx t + 2 + 6 * n + 2) + 7 := rfl
    have e3 : vb s = s + 7 := by
      unfold vb
      rw [if_neg]
      rw [Int32.lt_iff_toInt_lt]; have := hs.1; show ¬ s.toInt < 10; omega
    rw [e2, e3]
    simp -implicitDefEqProofs only [decide_true, Bool.true_and, add_inj]
  · have q' : ¬ vb (W (tx t + 2 + 6 * n)) = vb 16 := fun r => q (e1.mp r)
    simp [q, q']
/-- the texts of the class, by places -/
theorem txt_at {i : Nat} (hX : LkX k E A (A 5) (T 6) (A 7) (A 8) W) (hi : i < (FW W).length) : (FW W)[i]? = some (fl W i) ∧ fl W i < xn W ∧ ∃ a b nl nc, T 6 (fl W i) = some a ∧ TX k E A a b nl nc W (tx (fl W i)) := by
  obtain ⟨t, e1, e2, e3⟩ := FW_at hi
  have e : fl W i = t := by unfold fl; rw [List.getD_eq_getElem?_getD, e1]; rfl
  rw [e]
  obtain ⟨-, a, e4, e5⟩ := hX.2.2.1 t e2
  obtain ⟨b, nl, nc, h⟩ := TR_X e5
  exact ⟨e1, e2, a, b, nl, nc, e4, h⟩
theorem c_lastLine {s th : Int32} (hX : LkX k E A (A 5) (T 6) (A 7) (A 8) W) (hp : W 2650 = nI (xn W) ∧ xn W ≤ 12) (hs : rg s 10 15) : ex S (d + 3) 90 [.ref 5, .int (W 0), .int (vb s), .int (thC s th)] (Hh k E A L T) = some (.inl (some (.int (llW W s th))), Hh k E A L T) := by
  rw [x_X9_lastLine, g_X9_lastLine_0]
  have hm := FW_len (W := W)
  have p2 := hp.2
  simp -implicitDefEqProofs only [hc_5, c_inF hX hp, q_I]
  generalize hM : (FW W).length = m at *
  unfold llW
  rw [hM]
  refine loop_QK (K := 2) (α := Option Value × Option Value) (F := fun g i o => bd S (ex S (d + 2)) dflT E_X9_lastLine g 9 [some (.ref 5), some (.int (W 0)), some (.int (vb s)), some (.int (thC s th)), some (.int (nI (m - i) - 1)), o.1, o.2] [] (Hh k E A L T)) (N := m) (P := fun i _ => cl W s th m = cl W s th (m - i)) (Q := fun r => r = some (.inl (some (.int (cl W s th m))), Hh k E A L T)) ?_ ?_ (s := (none, none)) rfl (by omega)
  · rintro g i ⟨o1, o2⟩ hi hv
    obtain ⟨j, hj⟩ : ∃ j, m - i = j + 1 := ⟨m - i - 1, by omega⟩
    have hj2 : m - (i + 1) = j := by omega
    have g0 : ¬ nI j < 0 := nI_pos (by omega)
    have g1 : nI j + (-1) = nI j - 1 := (Int32.sub_eq_add_neg _ _).symm
    obtain ⟨f1, f2, a, b, nl, nc, f3, f4⟩ := txt_at (i := j) hX (by omega)
    have hc := c_tAt (S := S) (d := d + 1) (L := L) hX hp f1
    obtain ⟨x, hx1, hx2⟩ := c_stk (S := S) (d := d) (L := L) (T := T) f4 (s := s) ⟨hs.1, by have := hs.2; omega⟩
    have e : cl W s th (j + 1) = if ¬ lsT W (fl W j) s th = -1 then 16 * nI (fl W j) + lsT W (fl W j) s th else if stT W (fl W j) s = true then -1 else cl W s th j := rfl
    rw [hj, e] at hv
    simp -implicitDefEqProofs only [hj, hj2, nI_pred, g_X9_lastLine_9, if_neg g0, hv_5_1, hc_5, hc, q_I, an_6 (show fl W j < 12 by omega), f3, q_rf, q_iR, q_zr, tc f4.1, c_ls f4 hs, g_X9_lastLine_43, q_nr, hx1, g1]
    by_cases q : ¬ lsT W (fl W j) s th = -1
    · rw [if_pos q] at hv
      left; rw [if_neg q, hv]
    · rw [if_neg q] at hv
      rw [if_pos (Decidable.not_not.mp q)]
      by_cases q2 : stT W (fl W j) s = true
      · rw [if_pos q2] at hv
        left; rw [if_neg (fun r => by rw [hx2.mp r] at q2; exact absurd q2 (by decide)), hv]
      · rw [if_neg q2] at hv
        right
        rw [if_pos (hx2.mpr (by simpa using q2))]
        exact ⟨(_, _), g, Nat.le_refl _, rfl, hv⟩
  · rintro g ⟨o1, o2⟩ hv
    rw [Nat.sub_self] at hv
    simp -implicitDefEqProofs only [Nat.sub_self, g_X9_lastLine_9]
    rw [if_pos (by decide), hv]
    rfl
end WordsB
