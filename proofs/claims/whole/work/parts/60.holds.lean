/-! conditions: both reckon alike -/
section HoldsP
/-- what a step does with two -/
def op2 (s : Int32) (a b : Int64) : Int64 := if s = 101 then a + b else if s = 102 then (if b ≤ a then 0 else 1) else if s = 103 then (if a ≤ b then 0 else 1) else if s = 105 then a * b else (if b < a then a else b)
def uL (v : Nat → Int64) (i : Nat) (x : Int64) : Nat → Int64 := fun j => if j = i then x else v j
def st1 (Fc : Nat → Int64) (s n : Int32) (v : Nat → Int64) (m : Nat) : (Nat → Int64) × Nat :=
  if s = 100 then (uL v m n.toInt64, m + 1) else if s < 100 then (uL v m (Fc s.toNatClampNeg), m + 1)
  else if s = 104 then (uL v (m - 1) (1 - v (m - 1)), m) else (uL v (m - 2) (op2 s (v (m - 2)) (v (m - 1))), m - 1)
def rnN (Fc : Nat → Int64) (c : Nat → Int32 × Int32) (i : Nat) : Nat → (Nat → Int64) × Nat → (Nat → Int64) × Nat
  | 0, p => p
  | q + 1, p => rnN Fc c (i + 1) q (st1 Fc (c i).1 (c i).2 p.1 p.2)
/-- the kinds are right -/
def Ty (st : List Bool) (v : Nat → Int64) (m : Nat) : Prop := m = st.length ∧ ∀ j, j < m → st[m - 1 - j]? = some true → v j = 0 ∨ v j = 1
/-- a step that may stand there is one of these -/
theorem ck_c {s n : Int32} {st st' : List Bool} (h : ck1 s n st = some st') :
    (s = 100 ∧ ¬ n < 0 ∧ st.length < 20 ∧ st' = false :: st) ∨ (∃ f, f < 11 ∧ s = nI f ∧ st.length < 20 ∧ st' = false :: st) ∨ (s = 104 ∧ ∃ r, st = true :: r ∧ st' = true :: r)
    ∨ (s = 101 ∧ ∃ r, st = false :: false :: r ∧ st' = false :: r) ∨ ((s = 102 ∨ s = 103) ∧ ∃ r, st = false :: false :: r ∧ st' = true :: r) ∨ ((s = 105 ∨ s = 106) ∧ ∃ r, st = true :: true :: r ∧ st' = true :: r) := by
  unfold ck1 at h
  by_cases c0 : s = 100
  · rw [if_pos c0] at h
    by_cases c1 : n < 0
    · rw [if_pos c1] at h; cases h
    · rw [if_neg c1] at h
      by_cases c2 : st.length < 20
      · rw [if_pos c2] at h; cases h; exact Or.inl ⟨c0, c1, c2, rfl⟩
      · rw [if_neg c2] at h; cases h
  · rw [if_neg c0] at h
    by_cases c1 : s < 0
    · rw [if_pos c1] at h; cases h
    · rw [if_neg c1] at h
      by_cases c2 : s < 11
      · rw [if_pos c2] at h
        by_cases c3 : st.length < 20
        · rw [if_pos c3] at h; cases h
          obtain ⟨f, hf, rfl⟩ := nI_of c1
          have : f < 11 := by rw [show (11 : Int32) = nI 11 from rfl, nI_ltI hf (by decide)] at c2; exact c2
          exact Or.inr (Or.inl ⟨f, this, rfl, c3, rfl⟩)
        · rw [if_neg c3] at h; cases h
      · rw [if_neg c2] at h
        by_cases d1 : s = 101
        · rw [if_pos d1] at h
          split at h
          · cases h; exact Or.inr (Or.inr (Or.inr (Or.inl ⟨d1, _, rfl, rfl⟩)))
          · cases h
        · rw [if_neg d1] at h
          by_cases d2 : s = 102
          · rw [if_pos d2] at h
            split at h
            · cases h; exact Or.inr (Or.inr (Or.inr (Or.inr (Or.inl ⟨Or.inl d2, _, rfl, rfl⟩))))
            · cases h
          · rw [if_neg d2] at h
            by_cases d3 : s = 103
            · rw [if_pos d3] at h
              split at h
              · cases h; exact Or.inr (Or.inr (Or.inr (Or.inr (Or.inl ⟨Or.inr d3, _, rfl, rfl⟩))))
              · cases h
            · rw [if_neg d3] at h
              by_cases d4 : s = 104
              · rw [if_pos d4] at h
                split at h
                · cases h; exact Or.inr (Or.inr (Or.inl ⟨d4, _, rfl, rfl⟩))
                · cases h
              · rw [if_neg d4] at h
                by_cases d5 : s = 105
                · rw [if_pos d5] at h
                  split at h
                  · cases h; exact Or.inr (Or.inr (Or.inr (Or.inr (Or.inr ⟨Or.inl d5, _, rfl, rfl⟩))))
                  · cases h
                · rw [if_neg d5] at h
                  by_cases d6 : s = 106
                  · rw [if_pos d6] at h
                    split at h
                    · cases h; exact Or.inr (Or.inr (Or.inr (Or.inr (Or.inr ⟨Or.inr d6, _, rfl, rfl⟩))))
                    · cases h
                  · rw [if_neg d6] at h; cases h
theorem ty_push {st : List Bool} {v : Nat → Int64} {m : Nat} {x : Int64} (h : Ty st v m) : Ty (false :: st) (uL v m x) (m + 1) := by
  obtain ⟨h1, h2⟩ := h
  refine ⟨by simp [h1], fun j hj q => ?_⟩
  by_cases e : j = m
  · subst e; rw [show j + 1 - 1 - j = 0 by omega] at q; simp at q
  · unfold uL; rw [if_neg e]
    rw [show m + 1 - 1 - j = (m - 1 - j) + 1 by omega, List.getElem?_cons_succ] at q
    exact h2 j (by omega) q
/-- one is put in the place of the last, the rest is as it was -/
theorem ty_put {st r : List Bool} {v : Nat → Int64} {m q : Nat} {x : Int64} {t : Bool} (h : Ty st v m) (hr : ∃ l, st = l ++ r ∧ l.length = m - q) (hq : q = r.length) (hx : t = true → x = 0 ∨ x = 1) : Ty (t :: r) (uL v q x) (q + 1) := by
  obtain ⟨h1, h2⟩ := h
  obtain ⟨l, rfl, hl⟩ := hr
  have hm : q ≤ m := by rw [h1, hq]; simp
  refine ⟨by simp [hq], fun j hj e => ?_⟩
  by_cases c : j = q
  · subst c
    rw [show j + 1 - 1 - j = 0 by omega] at e
    simp -implicitDefEqProofs only [List.getElem?_cons_zero, Option.some.injEq] at e
    unfold uL; rw [if_pos rfl]; exact hx e
  · unfold uL; rw [if_neg c]
    rw [show q + 1 - 1 - j = (q - 1 - j) + 1 by omega, List.getElem?_cons_succ] at e
    refine h2 j (by omega) ?_
    rw [List.getElem?_append_right (by omega), hl, show m - 1 - j - (m - q) = q - 1 - j by omega]
    exact e
theorem ty_one {st r : List Bool} {v : Nat → Int64} {m : Nat} (h : Ty st v m) {j : Nat} (hj : j < m) (e : st[m - 1 - j]? = some true) : v j = 0 ∨ v j = 1 := h.2 j hj e
theorem st1_ty {Fc : Nat → Int64} {s n : Int32} {st st' : List Bool} {v : Nat → Int64} {m : Nat} (h : ck1 s n st = some st') (ht : Ty st v m) : Ty st' (st1 Fc s n v m).1 (st1 Fc s n v m).2 := by
  have hm := ht.1
  rcases ck_c h with ⟨rfl, -, -, rfl⟩ | ⟨f, hf, rfl, -, rfl⟩ | ⟨rfl, r, rfl, rfl⟩ | ⟨rfl, r, rfl, rfl⟩ | ⟨e, r, rfl, rfl⟩ | ⟨e, r, rfl, rfl⟩
  · exact ty_push ht
  · unfold st1
    have n1 : ¬ nI f = 100 := fun e => by rw [show (100 : Int32) = nI 100 from rfl, nI_eq (by omega) (by decide)] at e; omega
    rw [if_neg n1, if_pos (show nI f < 100 from nI_lt (b := 100) (by omega) (by decide))]
    exact ty_push ht
  · show Ty (true :: r) (uL v (m - 1) (1 - v (m - 1))) m
    have hm' : m = r.length + 1 := by simpa using hm
    have h1 := ht.2 (m - 1) (by omega) (by rw [show m - 1 - (m - 1) = 0 by omega]; rfl)
    have := ty_put (t := true) (x := 1 - v (m - 1)) (q := m - 1) (r := r) ht ⟨[true], rfl, by simp; omega⟩ (by omega) (fun _ => by rcases h1 with e | e <;> rw [e] <;> decide)
    rw [show m - 1 + 1 = m by omega] at this
    exact this
  · show Ty (false :: r) (uL v (m - 2) _) (m - 1)
    have hm' : m = r.length + 2 := by simpa using hm
    have := ty_put (t := false) (x := op2 101 (v (m - 2)) (v (m - 1))) (q := m - 2) (r := r) ht ⟨[false, false], rfl, by simp; omega⟩ (by omega) (fun q => by cases q)
    rw [show m - 2 + 1 = m - 1 by omega] at this
    exact this
  · have hm' : m = r.length + 2 := by simpa using hm
    have hx : op2 s (v (m - 2)) (v (m - 1)) = 0 ∨ op2 s (v (m - 2)) (v (m - 1)) = 1 := by
      rcases e with e | e <;> subst e
      · show (if _ then (0 : Int64) else 1) = 0 ∨ (if _ then (0 : Int64) else 1) = 1
        split <;> simp
      · show (if _ then (0 : Int64) else 1) = 0 ∨ (if _ then (0 : Int64) else 1) = 1
        split <;> simp
    have := ty_put (t := true) (x := op2 s (v (m - 2)) (v (m - 1))) (q := m - 2) (r := r) ht ⟨[false, false], rfl, by simp; omega⟩ (by omega) (fun _ => hx)
    rw [show m - 2 + 1 = m - 1 by omega] at this
    rcases e with e | e <;> subst e <;> exact this
  · have hm' : m = r.length + 2 := by simpa using hm
    have h1 := ht.2 (m - 1) (by omega) (by rw [show m - 1 - (m - 1) = 0 by omega]; rfl)
    have h2 := ht.2 (m - 2) (by omega) (by rw [show m - 1 - (m - 2) = 1 by omega]; rfl)
    have hx : op2 s (v (m - 2)) (v (m - 1)) = 0 ∨ op2 s (v (m - 2)) (v (m - 1)) = 1 := by
      rcases e with e | e <;> subst e <;> rcases h1 with h1 | h1 <;> rcases h2 with h2 | h2 <;> rw [h1, h2] <;> decide
    have := ty_put (t := true) (x := op2 s (v (m - 2)) (v (m - 1))) (q := m - 2) (r := r) ht ⟨[true, true], rfl, by simp; omega⟩ (by omega) (fun _ => hx)
    rw [show m - 2 + 1 = m - 1 by omega] at this
    rcases e with e | e <;> subst e <;> exact this
/-- whether a line's condition holds by the facts -/
def hlW (W : fW) (B n : Nat) (Fc : Nat → Int64) : Int32 := if W (B + 2 + 6 * n + 4) = W (B + 2 + 6 * n + 5) then 1 else if (rnN Fc (cds W B) (W (B + 2 + 6 * n + 4)).toNatClampNeg ((W (B + 2 + 6 * n + 5)).toNatClampNeg - (W (B + 2 + 6 * n + 4)).toNatClampNeg) (fun _ => 0, 0)).1 0 = 1 then 1 else 0
end HoldsP
