/-! loops with any end; small functions and numbers -/
section Tools
theorem loop_Q {α : Type} {F : Nat → Nat → α → rO} {N : Nat} {P : Nat → α → Prop} {Q : rO → Prop} (hs : ∀ n f s, f < N → P f s → Q (F (n + 1) f s) ∨ ∃ s', F (n + 1) f s = F n (f + 1) s' ∧ P (f + 1) s') (he : ∀ n s, P N s → Q (F (n + 1) N s)) {s : α} (h0 : P 0 s) {m : Nat} (hm : N < m) : Q (F m 0 s) := by
  have key : ∀ j f s m, f + j = N → j < m → P f s → Q (F m f s) := by
    intro j
    induction j with
    | zero =>
      intro f s m hf hm hp
      obtain ⟨n, rfl⟩ : ∃ n, m = n + 1 := ⟨m - 1, by omega⟩
      have hN : f = N := by omega
      rw [hN] at hp ⊢
      exact he n s hp
    | succ j ih =>
      intro f s m hf hm hp
      obtain ⟨n, rfl⟩ : ∃ n, m = n + 1 := ⟨m - 1, by omega⟩
      rcases hs n f s (by omega) hp with h | ⟨s', e, hp'⟩
      · exact h
      · rw [e]; exact ih (f + 1) s' n (by omega) (by omega) hp'
  exact key N 0 s m (by omega) hm h0
/-- a loop that goes on to its end and then elsewhere, with what is left of the fuel -/
theorem loop_R {α : Type} {F : Nat → Nat → α → rO} {N : Nat} {P : Nat → α → Prop} (hs : ∀ n f s, f < N → P f s → ∃ s', F (n + 1) f s = F n (f + 1) s' ∧ P (f + 1) s') {s : α} (h0 : P 0 s) (n : Nat) : ∃ s', F (n + N) 0 s = F n N s' ∧ P N s' := by
  have key : ∀ j, j ≤ N → ∃ s', F (n + N) 0 s = F (n + (N - j)) j s' ∧ P j s' := by
    intro j
    induction j with
    | zero => intro _; exact ⟨s, rfl, h0⟩
    | succ j ih =>
      intro hj
      obtain ⟨s1, e1, p1⟩ := ih (by omega)
      obtain ⟨s2, e2, p2⟩ := hs (n + (N - (j + 1))) j s1 (by omega) p1
      refine ⟨s2, ?_, p2⟩
      rw [e1, show n + (N - j) = n + (N - (j + 1)) + 1 by omega, e2]
  have := key N (Nat.le_refl _)
  rw [Nat.sub_self] at this
  exact this
/-- sums and counts over the first places -/
def sumI (g : Nat → Int32) : Nat → Int32
  | 0 => 0
  | n + 1 => sumI g n + g n
def sumJ (g : Nat → Int64) : Nat → Int64
  | 0 => 0
  | n + 1 => sumJ g n + g n
def cntF (p : Nat → Bool) : Nat → Nat
  | 0 => 0
  | n + 1 => cntF p n + (if p n then 1 else 0)
theorem cntF_le (p : Nat → Bool) (n : Nat) : cntF p n ≤ n := by
  induction n with
  | zero => exact Nat.le_refl _
  | succ n ih => unfold cntF; split <;> omega
theorem cntF_congr {p q : Nat → Bool} {n : Nat} (h : ∀ f, f < n → p f = q f) : cntF p n = cntF q n := by
  induction n with
  | zero => rfl
  | succ n ih => unfold cntF; rw [ih (fun f hf => h f (by omega)), h n (by omega)]
theorem cntF_pos {p : Nat → Bool} {n f : Nat} (hf : f < n) (h : p f = true) : 0 < cntF p n := by
  induction n with
  | zero => omega
  | succ n ih =>
    unfold cntF
    by_cases hn : f = n
    · subst hn; rw [h]; simp
    · have := ih (by omega); omega
theorem cntF_zero {p : Nat → Bool} {n : Nat} (h : ∀ f, f < n → p f = false) : cntF p n = 0 := by
  induction n with
  | zero => rfl
  | succ n ih => unfold cntF; rw [ih (fun f hf => h f (by omega)), h n (by omega)]; rfl
theorem sumI_congr {p q : Nat → Int32} {n : Nat} (h : ∀ f, f < n → p f = q f) : sumI p n = sumI q n := by
  induction n with
  | zero => rfl
  | succ n ih => unfold sumI; rw [ih (fun f hf => h f (by omega)), h n (by omega)]
theorem sumJ_congr {p q : Nat → Int64} {n : Nat} (h : ∀ f, f < n → p f = q f) : sumJ p n = sumJ q n := by
  induction n with
  | zero => rfl
  | succ n ih => unfold sumJ; rw [ih (fun f hf => h f (by omega)), h n (by omega)]
theorem sumJ_add (p q : Nat → Int64) (n : Nat) : sumJ (fun f => p f + q f) n = sumJ p n + sumJ q n := by
  induction n with
  | zero => rfl
  | succ n ih => unfold sumJ; rw [ih]; ac_rfl
theorem sumJ_0 (n : Nat) : sumJ (fun _ => 0) n = 0 := by
  induction n with
  | zero => rfl
  | succ n ih => unfold sumJ; rw [ih]; rfl
theorem sumJ_comm (g : Nat → Nat → Int64) (n m : Nat) : sumJ (fun a => sumJ (g a) m) n = sumJ (fun b => sumJ (fun a => g a b) n) m := by
  induction n with
  | zero => exact (sumJ_0 m).symm
  | succ n ih =>
    show sumJ (fun a => sumJ (g a) m) n + sumJ (g n) m = _
    rw [ih, ← sumJ_add]
    rfl
abbrev fW : Type := Nat → Int32
theorem upd_s (W : fW) (i : Nat) (x : Int32) : upd W i x i = x := by simp [upd]
theorem upd_o {W : fW} {i j : Nat} {x : Int32} (h : j ≠ i) : upd W i x j = W j := by simp [upd, h]
theorem upd_id (W : fW) (i : Nat) : upd W i (W i) = W := by
  funext j; by_cases h : j = i
  · subst h; exact upd_s _ _ _
  · exact upd_o h
theorem upd_two (W : fW) (i : Nat) (x y : Int32) : upd (upd W i x) i y = upd W i y := by
  funext j; by_cases h : j = i
  · subst h; rw [upd_s, upd_s]
  · rw [upd_o h, upd_o h, upd_o h]
theorem upd_cm {W : fW} {i j : Nat} {x y : Int32} (h : i ≠ j) : upd (upd W i x) j y = upd (upd W j y) i x := by
  funext k
  by_cases h1 : k = i
  · subst h1; rw [upd_s, upd_o h, upd_s]
  · by_cases h2 : k = j
    · subst h2; rw [upd_s, upd_o h1, upd_s]
    · rw [upd_o h2, upd_o h1, upd_o h1, upd_o h2]
/-- a number is between two -/
def rg (x : Int32) (a b : Int) : Prop := a ≤ x.toInt ∧ x.toInt ≤ b
def wi (x a b : Int32) : Prop := ¬ x < a ∧ ¬ b < x
theorem rg_wi {x a b : Int32} (h : wi x a b) : rg x a.toInt b.toInt := by
  obtain ⟨h1, h2⟩ := h
  rw [Int32.lt_iff_toInt_lt] at h1 h2
  exact ⟨by omega, by omega⟩
theorem rg_nI {n : Nat} {b : Int} (h : (n : Int) ≤ b) (hn : n < 2 ^ 31) : rg (nI n) 0 b := by
  unfold rg; rw [nI_toInt hn]; omega
theorem rg_of {x : Int32} {b : Nat} (h : rg x 0 b) : ∃ n, n ≤ b ∧ n < 2 ^ 31 ∧ x = nI n := by
  obtain ⟨j, hj, rfl⟩ := nI_of (x := x) (by rw [Int32.lt_iff_toInt_lt]; have := h.1; simp; omega)
  refine ⟨j, ?_, hj, rfl⟩
  have := h.2; rw [nI_toInt hj] at this; omega
theorem i32_ext {x y : Int32} (h : x.toInt = y.toInt) : x = y := Int32.toInt_inj.mp h
theorem wi_n {x : Int32} {M : Nat} (hM : M < 2 ^ 31) (h : wi x 0 (nI M)) : ∃ n, n ≤ M ∧ x = nI n := by
  obtain ⟨j, hj, rfl⟩ := nI_of h.1
  refine ⟨j, ?_, rfl⟩
  have := h.2
  rw [nI_ltI hM hj] at this
  omega
/-- a loop each of whose turns takes up to K of the fuel -/
theorem loop_QK {α : Type} {F : Nat → Nat → α → rO} {N : Nat} (K : Nat) {P : Nat → α → Prop} {Q : rO → Prop} (hs : ∀ n f s, f < N → P f s → Q (F (n + K) f s) ∨ ∃ s' n', n ≤ n' ∧ F (n + K) f s = F n' (f + 1) s' ∧ P (f + 1) s') (he : ∀ n s, P N s → Q (F (n + K) N s)) {s : α} (h0 : P 0 s) {m : Nat} (hm : K * (N + 1) ≤ m) : Q (F m 0 s) := by
  have key : ∀ j f s m, f + j = N → K * (j + 1) ≤ m → P f s → Q (F m f s) := by
    intro j
    induction j with
    | zero =>
      intro f s m hf hm hp
      obtain ⟨n, rfl⟩ : ∃ n, m = n + K := ⟨m - K, by omega⟩
      have hN : f = N := by omega
      rw [hN] at hp ⊢
      exact he n s hp
    | succ j ih =>
      intro f s m hf hm hp
      rw [Nat.mul_add] at hm
      obtain ⟨n, rfl⟩ : ∃ n, m = n + K := ⟨m - K, by omega⟩
      rcases hs n f s (by omega) hp with h | ⟨s', n', hn, e, hp'⟩
      · exact h
      · rw [e]; exact ih (f + 1) s' n' (by omega) (by omega) hp'
  exact key N 0 s m (by omega) hm h0
theorem loop_RK {α : Type} {F : Nat → Nat → α → rO} {N : Nat} (K : Nat) {P : Nat → α → Prop} (hs : ∀ n f s, f < N → P f s → ∃ s' n', n ≤ n' ∧ F (n + K) f s = F n' (f + 1) s' ∧ P (f + 1) s') {s : α} (h0 : P 0 s) (n m : Nat) (hm : n + K * N ≤ m) : ∃ s' n', n ≤ n' ∧ F m 0 s = F n' N s' ∧ P N s' := by
  have key : ∀ j f s m, f + j = N → n + K * j ≤ m → P f s → ∃ s' n', n ≤ n' ∧ F m f s = F n' N s' ∧ P N s' := by
    intro j
    induction j with
    | zero =>
      intro f s m hf hm hp
      have hN : f = N := by omega
      rw [hN] at hp ⊢
      exact ⟨s, m, by omega, rfl, hp⟩
    | succ j ih =>
      intro f s m hf hm hp
      rw [Nat.mul_add] at hm
      obtain ⟨q, rfl⟩ : ∃ q, m = q + K := ⟨m - K, by omega⟩
      obtain ⟨s', n', hn, e, hp'⟩ := hs q f s (by omega) hp
      rw [e]
      exact ih (f + 1) s' n' (by omega) (by omega) hp'
  exact key N 0 s m (by omega) hm h0
theorem a32 {x y : Int32} (h1 : -2147483648 ≤ x.toInt + y.toInt) (h2 : x.toInt + y.toInt ≤ 2147483647) : (x + y).toInt = x.toInt + y.toInt := by
  rw [Int32.toInt_add]; unfold Int.bmod; simp only [Nat.reducePow]; split <;> omega
theorem s32 {x y : Int32} (h1 : -2147483648 ≤ x.toInt - y.toInt) (h2 : x.toInt - y.toInt ≤ 2147483647) : (x - y).toInt = x.toInt - y.toInt := by
  rw [Int32.toInt_sub]; unfold Int.bmod; simp only [Nat.reducePow]; split <;> omega
theorem m32 {x y : Int32} (h1 : -2147483648 ≤ x.toInt * y.toInt) (h2 : x.toInt * y.toInt ≤ 2147483647) : (x * y).toInt = x.toInt * y.toInt := by
  rw [Int32.toInt_mul]; generalize x.toInt * y.toInt = z at *; unfold Int.bmod; simp only [Nat.reducePow]; split <;> omega
theorem n32 {x : Int32} (h : -2147483648 < x.toInt) : (-x).toInt = -x.toInt := by
  have h2 := x.toInt_lt
  rw [Int32.toInt_neg]; unfold Int.bmod; simp only [Nat.reducePow]; split <;> omega
theorem a64 {x y : Int64} (h1 : -9223372036854775808 ≤ x.toInt + y.toInt) (h2 : x.toInt + y.toInt ≤ 9223372036854775807) : (x + y).toInt = x.toInt + y.toInt := by
  rw [Int64.toInt_add]; unfold Int.bmod; simp only [Nat.reducePow]; split <;> omega
theorem s64 {x y : Int64} (h1 : -9223372036854775808 ≤ x.toInt - y.toInt) (h2 : x.toInt - y.toInt ≤ 9223372036854775807) : (x - y).toInt = x.toInt - y.toInt := by
  rw [Int64.toInt_sub]; unfold Int.bmod; simp only [Nat.reducePow]; split <;> omega
theorem m64 {x y : Int64} (h1 : -9223372036854775808 ≤ x.toInt * y.toInt) (h2 : x.toInt * y.toInt ≤ 9223372036854775807) : (x * y).toInt = x.toInt * y.toInt := by
  rw [Int64.toInt_mul]; generalize x.toInt * y.toInt = z at *; unfold Int.bmod; simp only [Nat.reducePow]; split <;> omega
theorem b32 (x : Int32) : -2147483648 ≤ x.toInt ∧ x.toInt ≤ 2147483647 := ⟨by have := x.le_toInt; omega, by have := x.toInt_lt; omega⟩
end Tools
