/-! loops, in general -/
section Loops
/-- step 0, then step 1, .. -/
def itr {α : Type} (step : Nat → α → α) : Nat → α → α
  | 0, s => s
  | n + 1, s => step n (itr step n s)
theorem loop_up {α : Type} {F : Nat → Nat → α → rO} {N : Nat} {step : Nat → α → α} {P : Nat → α → Prop} (hs : ∀ n f s, f < N → P f s → F (n + 1) f s = F n (f + 1) (step f s) ∧ P (f + 1) (step f s)) {s : α} (h0 : P 0 s) (n : Nat) : F (n + N) 0 s = F n N (itr step N s) ∧ P N (itr step N s) := by
  have key : ∀ j, j ≤ N → F (n + N) 0 s = F (n + (N - j)) j (itr step j s) ∧ P j (itr step j s) := by
    intro j
    induction j with
    | zero => intro _; exact ⟨rfl, h0⟩
    | succ j ih =>
      intro hj
      obtain ⟨e1, e2⟩ := ih (by omega)
      obtain ⟨e3, e4⟩ := hs (n + (N - (j + 1))) j (itr step j s) (by omega) e2
      refine ⟨?_, e4⟩
      rw [e1, show n + (N - j) = n + (N - (j + 1)) + 1 by omega, e3]
      rfl
  have := key N (Nat.le_refl _)
  rw [Nat.sub_self] at this
  exact this
/-- a loop that ends at the first place where p holds -/
def fstP (p : Nat → Bool) : Nat → Nat → Option Nat
  | 0, _ => none
  | m + 1, f => if p f then some f else fstP p m (f + 1)
theorem loop_fst {F : Nat → Nat → rO} {N : Nat} {p : Nat → Bool} {R : Nat → rO} {X : rO} (hs : ∀ n f, f < N → F (n + 1) f = if p f then R f else F n (f + 1)) (hx : ∀ n, F (n + 1) N = X) (n : Nat) : F (n + 1 + N) 0 = match fstP p N 0 with | some f => R f | none => X := by
  have key : ∀ m f, f + m = N → F (n + 1 + m) f = match fstP p m f with | some f => R f | none => X := by
    intro m
    induction m with
    | zero => intro f hf; rw [show f = N by omega]; exact hx n
    | succ m ih =>
      intro f hf
      rw [show n + 1 + (m + 1) = n + 1 + m + 1 by omega, hs _ f (by omega)]
      unfold fstP
      split
      · rfl
      · exact ih (f + 1) (by omega)
  exact key N 0 (by omega)
end Loops
