/-! the first line that holds; sums of lines that hold -/
section FirstP
theorem loop_QR {α : Type} {F : Nat → Nat → α → rO} {N : Nat} (K : Nat) {P : Nat → α → Prop} {Q : rO → Prop} (hs : ∀ n f s, f < N → P f s → Q (F (n + K) f s) ∨ ∃ s' n', n ≤ n' ∧ F (n + K) f s = F n' (f + 1) s' ∧ P (f + 1) s') {s : α} (h0 : P 0 s) (n m : Nat) (hm : n + K * N ≤ m) : Q (F m 0 s) ∨ ∃ s' n', n ≤ n' ∧ F m 0 s = F n' N s' ∧ P N s' := by
  have key : ∀ j f s m, f + j = N → n + K * j ≤ m → P f s → Q (F m f s) ∨ ∃ s' n', n ≤ n' ∧ F m f s = F n' N s' ∧ P N s' := by
    intro j
    induction j with
    | zero =>
      intro f s m hf hm hp
      have hN : f = N := by omega
      rw [hN] at hp ⊢
      exact Or.inr ⟨s, m, by omega, rfl, hp⟩
    | succ j ih =>
      intro f s m hf hm hp
      rw [Nat.mul_add] at hm
      obtain ⟨q, rfl⟩ : ∃ q, m = q + K := ⟨m - K, by omega⟩
      rcases hs q f s (by omega) hp with h | ⟨s', n', hn, e, hp'⟩
      · exact Or.inl h
      · rw [e]
        exact ih (f + 1) s' n' (by omega) (by omega) hp'
  exact key N 0 s m (by omega) hm h0
variable {W : fW}
theorem vb_eq2 {x s : Int32} (hx : rg x 0 6 ∨ rg x 10 16) (hs : rg s 0 6 ∨ rg s 10 16) : vb x = vb s ↔ x = s := by
  have g : ∀ z : Int32, (rg z 0 6 ∨ rg z 10 16) → ∃ n, n ≤ 16 ∧ (n ≤ 6 ∨ 10 ≤ n) ∧ z = nI n := by
    intro z h
    rcases h with h | h
    · obtain ⟨n, a, b, e⟩ := rg_of (b := 6) h; exact ⟨n, by omega, by omega, e⟩
    · obtain ⟨n, a, b, e⟩ := rg_of (b := 16) (x := z) ⟨by have := h.1; omega, h.2⟩
      refine ⟨n, a, ?_, e⟩
      right; have := h.1; rw [e, nI_toInt b] at this; omega
  obtain ⟨m, hm, h2, rfl⟩ := g s hs
  obtain ⟨n, hn, h1, rfl⟩ := g x hx
  have e : ∀ q, q ≤ 16 → vb (nI q) = nI (if q < 10 then q + 24 else q + 7) := by
    intro q hq
    unfold vb
    by_cases c : q < 10
    · rw [if_pos (show nI q < 10 from nI_lt (b := 10) c (by decide)), if_pos c]; exact nI_add q 24
    · rw [if_neg (show ¬ nI q < 10 from nI_nlt (b := 10) (by omega) (by omega)), if_neg c]; exact nI_add q 7
  rw [e n hn, e m hm, nI_eq (by split <;> omega) (by split <;> omega), nI_eq (by omega) (by omega)]
  split <;> split <;> omega
/-- a line of a verb that holds -/
def hm (W : fW) (B : Nat) (s : Int32) (Fc : Nat → Int64) (n : Nat) : Bool := decide (W (B + 2 + 6 * n) = s) && decide (hlW W B n Fc = 1)
def fhT (W : fW) (t : Nat) (s : Int32) (Fc : Nat → Int64) : Int32 := fnd (hm W (tx t) s Fc) (lnT W t) 0
theorem hl_c (B n : Nat) (Fc : Nat → Int64) : hlW W B n Fc = 0 ∨ hlW W B n Fc = 1 := by
  unfold hlW; split
  · exact Or.inr rfl
  · split
    · exact Or.inr rfl
    · exact Or.inl rfl
/-- the last place that strikes a verb -/
def lkN (W : fW) (s : Int32) : Nat → Nat
  | 0 => 0
  | j + 1 => if 0 < j ∧ stT W (fl W j) s = true then j else lkN W s j
theorem lk_le {s : Int32} (j : Nat) : lkN W s j ≤ j := by
  induction j with
  | zero => exact Nat.le_refl _
  | succ j ih => unfold lkN; split <;> omega
theorem lk_sk {s : Int32} {i j : Nat} : skN W s i j = true ↔ i < lkN W s j := by
  induction j with
  | zero => simp [skN, lkN]
  | succ j ih =>
    unfold skN lkN
    rw [Bool.or_eq_true, Bool.and_eq_true, decide_eq_true_eq, ih]
    have := lk_le (W := W) (s := s) j
    by_cases q : 0 < j ∧ stT W (fl W j) s = true
    · rw [if_pos q]; constructor
      · rintro (h | ⟨h, -⟩) <;> omega
      · intro h; exact Or.inr ⟨h, q.2⟩
    · rw [if_neg q]; constructor
      · rintro (h | ⟨h1, h2⟩)
        · exact h
        · exact absurd ⟨by omega, h2⟩ q
      · exact Or.inl
/-- the first place from one on whose text has a line that holds -/
def fwN (W : fW) (s : Int32) (Fc : Nat → Int64) : Nat → Nat → Int32
  | 0, _ => -1
  | q + 1, i => if ¬ fhT W (fl W i) s Fc = -1 then 16 * nI (fl W i) + fhT W (fl W i) s Fc else fwN W s Fc q (i + 1)
def frN2 (W : fW) (s : Int32) (Fc : Nat → Int64) : Nat → Nat → Int32
  | 0, _ => -1
  | q + 1, i => if skN W s i (FW W).length = false ∧ ¬ fhT W (fl W i) s Fc = -1 then 16 * nI (fl W i) + fhT W (fl W i) s Fc else frN2 W s Fc q (i + 1)
def flW (W : fW) (s : Int32) (Fc : Nat → Int64) : Int32 := fwN W s Fc ((FW W).length - lkN W s (FW W).length) (lkN W s (FW W).length)
theorem fr_fw {s : Int32} {Fc : Nat → Int64} {q i : Nat} (h : lkN W s (FW W).length ≤ i) : frN2 W s Fc q i = fwN W s Fc q i := by
  induction q generalizing i with
  | zero => rfl
  | succ q ih =>
    have hs : skN W s i (FW W).length = false := by
      cases e : skN W s i (FW W).length with
      | false => rfl
      | true => have := lk_sk.mp e; omega
    show (if _ then _ else frN2 W s Fc q (i + 1)) = (if _ then _ else fwN W s Fc q (i + 1))
    rw [ih (by omega)]
    by_cases c : ¬ fhT W (fl W i) s Fc = -1
    · rw [if_pos ⟨hs, c⟩, if_pos c]
    · rw [if_neg (fun r => c r.2), if_neg c]
theorem fr_fl {s : Int32} {Fc : Nat → Int64} : frN2 W s Fc (FW W).length 0 = flW W s Fc := by
  have key : ∀ q i, i + q = (FW W).length → i ≤ lkN W s (FW W).length → frN2 W s Fc q i = flW W s Fc := by
    intro q
    induction q with
    | zero =>
      intro i hi hl
      have := lk_le (W := W) (s := s) (FW W).length
      unfold flW
      rw [show (FW W).length - lkN W s (FW W).length = 0 by omega]
      rfl
    | succ q ih =>
      intro i hi hl
      by_cases e : i = lkN W s (FW W).length
      · rw [fr_fw (by omega)]
        unfold flW
        rw [← e, show (FW W).length - i = q + 1 by omega]
      · have hs : skN W s i (FW W).length = true := lk_sk.mpr (by omega)
        show (if _ then _ else frN2 W s Fc q (i + 1)) = _
        rw [if_neg (fun r => by rw [hs] at r; exact absurd r.1 (by decide))]
        exact ih (i + 1) (by omega) (by omega)
  exact key _ 0 (by omega) (Nat.zero_le _)
end FirstP
section FirstB
variable {S : sT} {d c : Nat} {k : Value} {E : List dsc} {A : fA} {L : fL} {T : fT} {W : fW}
theorem c_fH {a b nl nc t : Nat} {s : Int32} {Fc : Nat → Int64} (h : TX k E A a b nl nc W (tx t)) (hs : rg s 0 6 ∨ rg s 10 16) (hF : ∀ j, j < 11 → L 37 j = Fc j) : ∃ L', ex S (d + 3) 284 [.ref a, .int (vb s), .ref 37] (Hh k E A L T) = some (.inl (some (.int (fhT W t s Fc))), Hh k E A L' T) ∧ (∀ j, j < 11 → L' 37 j = Fc j) ∧ ∀ r, r ≠ 37 → L' r = L r := by
  obtain ⟨n1, n2⟩ := tx_n h
  obtain ⟨h1, h2, h3, h4, -, -⟩ := id h
  have hl := lnT_eq h4
  rw [x_X8_firstHolding, g_X8_firstHolding_0, q_nr]
  unfold fhT
  rw [hl]
  refine loop_Q (α := fL) (F := fun g i M => bd S (ex S (d + 2)) dflT E_X8_firstHolding g 2 [some (.ref a), some (.int (vb s)), some (.ref 37), some (.int (nI i))] [] (Hh k E A M T)) (N := nl) (P := fun i M => fnd (hm W (tx t) s Fc) nl 0 = fnd (hm W (tx t) s Fc) (nl - i) i ∧ (∀ j, j < 11 → M 37 j = Fc j) ∧ ∀ r, r ≠ 37 → M r = L r) (Q := fun r => ∃ L', r = some (.inl (some (.int (fnd (hm W (tx t) s Fc) nl 0))), Hh k E A L' T) ∧ (∀ j, j < 11 → L' 37 j = Fc j) ∧ ∀ r, r ≠ 37 → L' r = L r) ?_ ?_ (s := L) ⟨rfl, hF, fun _ _ => rfl⟩ (by omega)
  · rintro g i M hi ⟨hp, m1, m2⟩
    have g0 : ¬ nI nl ≤ nI i := nI_ge hi (by omega)
    obtain ⟨j, hj⟩ : ∃ j, nl - i = j + 1 := ⟨nl - i - 1, by omega⟩
    rw [hj] at hp
    rw [show nl - (i + 1) = j by omega]
    have e : fnd (hm W (tx t) s Fc) (j + 1) i = if hm W (tx t) s Fc i = true then nI i else fnd (hm W (tx t) s Fc) j (i + 1) := rfl
    rw [e] at hp
    have ev := vb_eq2 (h4.2.2.2 i hi).1 hs
    obtain ⟨M', r1, r2, r3⟩ := c_holds (S := S) (d := d) (k := k) (E := E) (A := A) (T := T) h hi m1
    rw [g_X8_firstHolding_2]
    simp -implicitDefEqProofs only [tl h1, h3, if_neg g0, tc h1, c_tg0 h hi, q_I, q_iR, r1, q_nr, nI_p1]
    by_cases c1 : W (tx t + 2 + 6 * i) = s
    · rw [if_pos (ev.mpr c1)]
      rcases hl_c (W := W) (tx t) i Fc with z | z
      · have e1 : ¬ hm W (tx t) s Fc i = true := by unfold hm; simp [z]
        rw [if_neg e1] at hp
        right
        rw [z, if_pos rfl]
        exact ⟨M', rfl, hp, r2, fun r hr => (r3 r hr).trans (m2 r hr)⟩
      · have e1 : hm W (tx t) s Fc i = true := by unfold hm; simp [z, c1]
        rw [if_pos e1] at hp
        left
        rw [z, if_neg (by decide), hp]
        exact ⟨M', rfl, r2, fun r hr => (r3 r hr).trans (m2 r hr)⟩
    · have e1 : ¬ hm W (tx t) s Fc i = true := by unfold hm; simp [c1]
      rw [if_neg e1] at hp
      right
      rw [if_neg (fun q => c1 (ev.mp q))]
      exact ⟨M, rfl, hp, m1, m2⟩
  · rintro g M ⟨hp, m1, m2⟩
    rw [Nat.sub_self] at hp
    rw [g_X8_firstHolding_2]
    simp -implicitDefEqProofs only [tl h1, h3, if_pos (Int32.le_refl (nI nl))]
    exact ⟨M, by rw [hp]; rfl, m1, m2⟩
theorem c_lastStrike {s : Int32} (hX : LkX k E A (A 5) (T 6) (A 7) (A 8) W) (hp : W 2650 = nI (xn W) ∧ xn W ≤ 12) (hs : rg s 10 16) : ex S (d + 3) 218 [.ref 5, .int (nI (FW W).length), .int (vb s)] (Hh k E A L T) = some (.inl (some (.int (nI (lkN W s (FW W).length)))), Hh k E A L T) := by
  rw [x_X9_lastStrike, g_X9_lastStrike_0]
  have hm := FW_len (W := W)
  have p2 := hp.2
  generalize hM : (FW W).length = m at *
  refine loop_Q (α := Option Value) (F := fun g i o => bd S (ex S (d + 2)) dflT E_X9_lastStrike g 4 [some (.ref 5), some (.int (nI m)), some (.int (vb s)), some (.int (nI (m - i) - 1)), o] [] (Hh k E A L T)) (N := m) (P := fun i _ => lkN W s m = lkN W s (m - i)) (Q := fun r => r = some (.inl (some (.int (nI (lkN W s m)))), Hh k E A L T)) ?_ ?_ (s := none) rfl (by omega)
  · intro g i o hi hv
    obtain ⟨j, hj⟩ : ∃ j, m - i = j + 1 := ⟨m - i - 1, by omega⟩
    have hj2 : m - (i + 1) = j := by omega
    have g1 : nI j + (-1) = nI j - 1 := (Int32.sub_eq_add_neg _ _).symm
    have e : lkN W s (j + 1) = if 0 < j ∧ stT W (fl W j) s = true then j else lkN W s j := rfl
    rw [hj, e] at hv
    simp -implicitDefEqProofs only [hj, hj2, nI_pred]
    rw [g_X9_lastStrike_4]
    by_cases j0 : j = 0
    · subst j0
      left
      rw [if_pos (by decide), hv, if_neg (by omega)]
      rfl
    · obtain ⟨f1, f2, a, b, nl, nc, f3, f4⟩ := txt_at (i := j) hX (by omega)
      have hc := c_tAt (S := S) (d := d + 1) (L := L) hX hp f1
      obtain ⟨x, hx1, hx2⟩ := c_stk (S := S) (d := d) (L := L) (T := T) f4 (s := s) hs
      rw [if_neg (nI_nle (by omega) (by omega))]
      simp -implicitDefEqProofs only [hv_5_1, hc_5, hc, q_I, an_6 (show fl W j < 12 by omega), f3, q_rf, q_iR, q_zr, tc f4.1, hx1, g1]
      by_cases q2 : stT W (fl W j) s = true
      · rw [if_pos ⟨by omega, q2⟩] at hv
        left; rw [if_neg (fun r => by rw [hx2.mp r] at q2; exact absurd q2 (by decide)), hv]
      · rw [if_neg (fun r => q2 r.2)] at hv
        right
        rw [if_pos (hx2.mpr (by simpa using q2))]
        exact ⟨_, rfl, hv⟩
  · intro g o hv
    rw [Nat.sub_self] at hv
    simp -implicitDefEqProofs only [Nat.sub_self]
    rw [g_X9_lastStrike_4, if_pos (by decide), hv]
    rfl
theorem c_firstW {s : Int32} {Fc : Nat → Int64} (hX : LkX k E A (A 5) (T 6) (A 7) (A 8) W) (hp : W 2650 = nI (xn W) ∧ xn W ≤ 12) (hs : rg s 10 16) (hF : ∀ j, j < 11 → L 37 j = Fc j) : ∃ L', ex S (d + 4) 285 [.ref 5, .int (W 0), .int (vb s), .ref 37] (Hh k E A L T) = some (.inl (some (.int (flW W s Fc))), Hh k E A L' T) ∧ (∀ j, j < 11 → L' 37 j = Fc j) ∧ ∀ r, r ≠ 37 → L' r = L r := by
  rw [x_X9_firstHolding, g_X9_firstHolding_0]
  have hm := FW_len (W := W)
  have p2 := hp.2
  have lkl := lk_le (W := W) (s := s) (FW W).length
  simp -implicitDefEqProofs only [hc_5, c_inF hX hp, q_I, q_nr, c_lastStrike hX hp hs]
  unfold flW
  generalize hM : (FW W).length = m at *
  generalize hK : lkN W s m = l at *
  refine loop_QK (K := 2) (α := fL × Option Value × Option Value) (F := fun g i M => bd S (ex S (d + 3)) dflT E_X9_firstHolding g 16 [some (.ref 5), some (.int (W 0)), some (.int (vb s)), some (.ref 37), some (.int (nI m)), some (.int (nI (l + i))), M.2.1, M.2.2] [] (Hh k E A M.1 T)) (N := m - l) (P := fun i M => fwN W s Fc (m - l) l = fwN W s Fc (m - l - i) (l + i) ∧ (∀ j, j < 11 → M.1 37 j = Fc j) ∧ ∀ r, r ≠ 37 → M.1 r = L r) (Q := fun r => ∃ L', r = some (.inl (some (.int (fwN W s Fc (m - l) l))), Hh k E A L' T) ∧ (∀ j, j < 11 → L' 37 j = Fc j) ∧ ∀ r, r ≠ 37 → L' r = L r) ?_ ?_ (s := (L, none, none)) ⟨rfl, hF, fun _ _ => rfl⟩ (by omega)
  · rintro g i ⟨M, o1, o2⟩ hi ⟨hpv, m1, m2⟩
    simp only at hpv m1 m2
    have g0 : ¬ nI m ≤ nI (l + i) := nI_ge (by omega) (by omega)
    obtain ⟨j, hj⟩ : ∃ j, m - l - i = j + 1 := ⟨m - l - i - 1, by omega⟩
    rw [hj] at hpv
    rw [show m - l - (i + 1) = j by omega]
    have e : fwN W s Fc (j + 1) (l + i) = if ¬ fhT W (fl W (l + i)) s Fc = -1 then 16 * nI (fl W (l + i)) + fhT W (fl W (l + i)) s Fc else fwN W s Fc j (l + i + 1) := rfl
    rw [e] at hpv
    obtain ⟨f1, f2, a, b, nl, nc, f3, f4⟩ := txt_at (i := l + i) hX (by omega)
    have hc := fun M => c_tAt (S := S) (d := d + 2) (L := M) hX hp f1
    obtain ⟨M', r1, r2, r3⟩ := c_fH (S := S) (d := d) (L := M) (T := T) (Fc := Fc) f4 (Or.inr hs) m1
    rw [show g + 2 = (g + 1) + 1 from rfl, g_X9_firstHolding_16]
    simp -implicitDefEqProofs only [if_neg g0, hv_5_1, hc_5, hc, q_I, an_6 (show fl W (l + i) < 12 by omega), f3, q_rf, q_iR, q_zr, tc f4.1, r1, g_X9_firstHolding_52, q_nr, nI_p1]
    by_cases q : ¬ fhT W (fl W (l + i)) s Fc = -1
    · rw [if_pos q] at hpv
      left; rw [if_neg q, hpv]
      exact ⟨M', rfl, r2, fun r hr => (r3 r hr).trans (m2 r hr)⟩
    · rw [if_neg q] at hpv
      right; rw [if_pos (Decidable.not_not.mp q)]
      exact ⟨(M', _, _), g, Nat.le_refl _, rfl, hpv, r2, fun r hr => (r3 r hr).trans (m2 r hr)⟩
  · rintro g ⟨M, o1, o2⟩ ⟨hpv, m1, m2⟩
    simp only at hpv m1 m2
    rw [Nat.sub_self] at hpv
    have e : l + (m - l) = m := by omega
    rw [show g + 2 = (g + 1) + 1 from rfl, g_X9_firstHolding_16]
    simp -implicitDefEqProofs only [e, if_pos (Int32.le_refl (nI m))]
    exact ⟨M, by rw [hpv]; rfl, m1, m2⟩
end FirstB
