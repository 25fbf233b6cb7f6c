/-! who owes most -/
section RankP
/-- one is ahead of another: it owes more, or as much and came earlier -/
def ah (a : Nat → Int32) (o h : Nat) : Bool := decide (a h < a o) || (decide (a o = a h) && decide (o < h))
theorem ah_iff {a : Nat → Int32} {o h : Nat} : ah a o h = true ↔ (a h).toInt < (a o).toInt ∨ ((a o).toInt = (a h).toInt ∧ o < h) := by
  unfold ah
  simp -implicitDefEqProofs only [Bool.or_eq_true, Bool.and_eq_true, decide_eq_true_eq, Int32.lt_iff_toInt_lt]
  constructor
  · rintro (h | ⟨h1, h2⟩)
    · exact Or.inl h
    · exact Or.inr ⟨by rw [h1], h2⟩
  · rintro (h | ⟨h1, h2⟩)
    · exact Or.inl h
    · exact Or.inr ⟨i32_ext h1, h2⟩
theorem cntF_mono {p q : Nat → Bool} {n : Nat} (h : ∀ o, o < n → p o = true → q o = true) : cntF p n ≤ cntF q n := by
  induction n with
  | zero => exact Nat.le_refl _
  | succ n ih =>
    have := ih (fun o ho => h o (by omega))
    unfold cntF
    by_cases q1 : p n = true
    · rw [q1, h n (by omega) q1]; omega
    · rw [if_neg q1]; omega
theorem cntF_lt {p q : Nat → Bool} {n j : Nat} (h : ∀ o, o < n → p o = true → q o = true) (hj : j < n) (h1 : q j = true) (h2 : p j = false) : cntF p n < cntF q n := by
  induction n with
  | zero => omega
  | succ n ih =>
    unfold cntF
    by_cases e : j = n
    · subst e
      have := cntF_mono (fun o ho => h o (by omega : o < j + 1)) (n := j)
      rw [h1, h2]; simp; omega
    · have := ih (fun o ho => h o (by omega)) (by omega)
      by_cases q1 : p n = true
      · rw [q1, h n (by omega) q1]; omega
      · rw [if_neg q1]; omega
theorem cntF_add1 {p q : Nat → Bool} {n j : Nat} (hj : j < n) (h1 : p j = false) (h : ∀ o, o < n → q o = (p o || decide (o = j))) : cntF q n = cntF p n + 1 := by
  induction n with
  | zero => omega
  | succ n ih =>
    unfold cntF
    by_cases e : j = n
    · subst e
      rw [cntF_congr (p := q) (q := p) (fun o ho => by rw [h o (by omega)]; have : o ≠ j := by omega
                                                       simp [this]), h j (by omega), h1]
      simp
    · rw [ih (by omega) (fun o ho => h o (by omega)), h n (by omega)]
      have : n ≠ j := by omega
      simp [this]; omega
def rkA (a : Nat → Int32) (N h : Nat) : Nat := cntF (fun o => ah a o h) N
theorem rk_lt {a : Nat → Int32} {N h j : Nat} (hh : h < N) (q : ah a h j = true) : rkA a N h < rkA a N j := by
  unfold rkA
  refine cntF_lt (j := h) ?_ hh q ?_
  · intro o ho q2
    rw [ah_iff] at q q2 ⊢
    omega
  · have : ¬ ah a h h = true := by rw [ah_iff]; omega
    simpa using this
theorem ah_tot {a : Nat → Int32} {h j : Nat} (hne : h ≠ j) : ah a h j = true ∨ ah a j h = true := by
  rw [ah_iff, ah_iff]; omega
theorem rk_inj {a : Nat → Int32} {N h j : Nat} (hh : h < N) (hj : j < N) (q : rkA a N h = rkA a N j) : h = j := by
  by_cases e : h = j
  · exact e
  · rcases ah_tot (a := a) e with r | r
    · have := rk_lt hh r; omega
    · have := rk_lt hj r; omega
theorem rk_N {a : Nat → Int32} {N h : Nat} (hh : h < N) : rkA a N h < N := by
  unfold rkA
  have : cntF (fun o => ah a o h) N < cntF (fun _ => true) N := by
    refine cntF_lt (j := h) (fun _ _ _ => rfl) hh rfl ?_
    have : ¬ ah a h h = true := by rw [ah_iff]; omega
    simpa using this
  have := cntF_le (fun _ => true) N
  omega
/-- the first of some kind, as the class looks for it -/
def fnd (p : Nat → Bool) : Nat → Nat → Int32
  | 0, _ => -1
  | m + 1, i => if p i then nI i else fnd p m (i + 1)
theorem fnd_no {p : Nat → Bool} {m i : Nat} (h : ∀ j, i ≤ j → j < i + m → p j = false) : fnd p m i = -1 := by
  induction m generalizing i with
  | zero => rfl
  | succ m ih => unfold fnd; rw [h i (by omega) (by omega)]; exact ih (fun j h1 h2 => h j (by omega) (by omega))
theorem fnd_yes {p : Nat → Bool} {m i j : Nat} (h1 : i ≤ j) (h2 : j < i + m) (hj : p j = true) (hu : ∀ o, i ≤ o → o < i + m → p o = true → o = j) : fnd p m i = nI j := by
  induction m generalizing i with
  | zero => omega
  | succ m ih =>
    unfold fnd
    by_cases e : i = j
    · subst e; rw [hj]; rfl
    · have : ¬ p i = true := fun q => e (hu i (by omega) (by omega) q)
      rw [if_neg this]
      exact ih (by omega) (by omega) (fun o a b c => hu o (by omega) (by omega) c)
end RankP
section RankB
variable {S : sT} {d c : Nat} {k : Value} {E : List dsc} {A : fA} {L : fL} {T : fT} {W : fW}
/-- what each holding owes -/
def arW (W : fW) (h : Nat) : Int32 := W (1684 + 11 * h + 2)
def pAr (W : fW) (x : Int32) (h : Nat) : Bool := decide ((0 : Int32) < arW W h) && decide (nI (rkA (arW W) (hn W) h) = x)
theorem c_rank {h : Nat} (l1 : A 11 0 = nI (hn W)) (h24 : hn W ≤ 24) (hC : ∀ g, g < hn W → LkC (A 12) W g) (hh : h < hn W) : ex S (d + 3) 273 [.ref 11, .int (nI h)] (Hh k E A L T) = some (.inl (some (.int (nI (rkA (arW W) (hn W) h)))), Hh k E A L T) := by
  rw [x_X1_rankOf, g_X1_rankOf_0]
  simp -implicitDefEqProofs only [hc_11, gH_3 (hC h hh) (show h < 24 by omega), q_I]
  refine loop_Q (α := Option Value) (F := fun m f o => bd S (ex S (d + 2)) dflT E_X1_rankOf m 12 [some (.ref 11), some (.int (nI h)), some (.int (nI (cntF (fun o => ah (arW W) o h) f))), some (.int (W (1684 + 11 * h + 2))), some (.int (nI f)), o] [] (Hh k E A L T)) (N := hn W) (P := fun _ _ => True) (Q := fun r => r = some (.inl (some (.int (nI (rkA (arW W) (hn W) h)))), Hh k E A L T)) ?_ ?_ (s := none) trivial (by omega)
  · intro n f o hf _
    right
    have g0 : ¬ nI (hn W) ≤ nI f := nI_ge hf (by omega)
    have e : cntF (fun o => ah (arW W) o h) (f + 1) = cntF (fun o => ah (arW W) o h) f + (if ah (arW W) f h = true then 1 else 0) := rfl
    simp -implicitDefEqProofs only [g_X1_rankOf_12, hg_11_0, l1, if_neg g0, hc_11, gH_3 (hC f hf) (show f < 24 by omega), q_I, e]
    by_cases c1 : W (1684 + 11 * h + 2) < W (1684 + 11 * f + 2)
    · have e1 : ah (arW W) f h = true := by unfold ah arW; simp [c1]
      simp -implicitDefEqProofs only [if_pos c1, if_pos e1, nI_1]
      exact ⟨_, rfl, trivial⟩
    · by_cases c2 : W (1684 + 11 * f + 2) = W (1684 + 11 * h + 2)
      · by_cases c3 : h ≤ f
        · have e1 : ¬ ah (arW W) f h = true := by unfold ah arW; simp [c1, c2]; omega
          simp -implicitDefEqProofs only [if_neg c1, if_pos c2, if_pos (nI_le c3 (show f < 2 ^ 31 by omega)), if_neg e1, Nat.add_zero, nI_1]
          exact ⟨_, rfl, trivial⟩
        · have e1 : ah (arW W) f h = true := by unfold ah arW; simp [c2]; omega
          simp -implicitDefEqProofs only [if_neg c1, if_pos c2, if_neg (nI_ge (a := f) (b := h) (by omega) (by omega)), if_pos e1, nI_1]
          exact ⟨_, rfl, trivial⟩
      · have e1 : ¬ ah (arW W) f h = true := by unfold ah arW; simp [c1, c2]
        simp -implicitDefEqProofs only [if_neg c1, if_neg c2, if_neg e1, Nat.add_zero, nI_1]
        exact ⟨_, rfl, trivial⟩
  · intro n o _
    simp -implicitDefEqProofs only [g_X1_rankOf_12, hg_11_0, l1]
    rw [if_pos (Int32.le_refl _)]
    rfl
theorem c_ofRank {x : Int32} (l1 : A 11 0 = nI (hn W)) (h24 : hn W ≤ 24) (hC : ∀ g, g < hn W → LkC (A 12) W g) : ex S (d + 4) 274 [.ref 11, .int x] (Hh k E A L T) = some (.inl (some (.int (fnd (pAr W x) (hn W) 0))), Hh k E A L T) := by
  rw [x_X1_ofRank, g_X1_ofRank_0]
  refine loop_Q (α := Unit) (F := fun m f _ => bd S (ex S (d + 3)) dflT E_X1_ofRank m 2 [some (.ref 11), some (.int x), some (.int (nI f))] [] (Hh k E A L T)) (N := hn W) (P := fun f _ => fnd (pAr W x) (hn W) 0 = fnd (pAr W x) (hn W - f) f) (Q := fun r => r = some (.inl (some (.int (fnd (pAr W x) (hn W) 0))), Hh k E A L T)) ?_ ?_ (s := ()) rfl (by omega)
  · intro n f _ hf hp
    have g0 : ¬ nI (hn W) ≤ nI f := nI_ge hf (by omega)
    obtain ⟨j, hj⟩ : ∃ j, hn W - f = j + 1 := ⟨hn W - f - 1, by omega⟩
    rw [hj] at hp
    rw [show hn W - (f + 1) = j by omega]
    have e : fnd (pAr W x) (j + 1) f = if pAr W x f = true then nI f else fnd (pAr W x) j (f + 1) := rfl
    rw [e] at hp
    simp -implicitDefEqProofs only [g_X1_ofRank_2, hg_11_0, l1, if_neg g0, hc_11, gH_3 (hC f hf) (show f < 24 by omega), q_I, c_rank l1 h24 hC hf, nI_p1]
    by_cases c1 : W (1684 + 11 * f + 2) ≤ 0
    · have e1 : ¬ pAr W x f = true := by unfold pAr arW; have := Int32.not_lt.mpr c1; simp [this]
      rw [if_neg e1] at hp
      right; exact ⟨(), by rw [if_pos c1], hp⟩
    · have c1' : 0 < W (1684 + 11 * f + 2) := Int32.not_le.mp c1
      by_cases c2 : nI (rkA (arW W) (hn W) f) = x
      · have e1 : pAr W x f = true := by unfold pAr arW; rw [show (fun h => W (1684 + 11 * h + 2)) = arW W from rfl]; simp [c1', c2]
        rw [if_pos e1] at hp
        left; rw [if_neg c1, if_pos c2, hp]
      · have e1 : ¬ pAr W x f = true := by unfold pAr; simp [c2]
        rw [if_neg e1] at hp
        right; exact ⟨(), by rw [if_neg c1, if_neg c2], hp⟩
  · intro n _ hp
    rw [Nat.sub_self] at hp
    simp -implicitDefEqProofs only [g_X1_ofRank_2, hg_11_0, l1]
    rw [if_pos (Int32.le_refl _), hp]
    rfl
end RankB
