/-! the face's own tests: class and reference -/
section Api
variable {S : sT} {d : Nat} {k : Value} {E : List dsc} {A : fA} {L : fL} {T : fT} {W : fW}
theorem c_in1 {x a b : Int32} {h : pH} (q : wi x a b) : ex S (d + 1) 21 [.int x, .int a, .int b] h = some (.inl none, h) := by
  rw [x_X11_needWithin, g_X11_needWithin_0, if_neg q.1, if_pos (Int32.not_lt.mp q.2)]
theorem c_in0 {x a b : Int32} {h : pH} (q : ¬ wi x a b) : ex S (d + 1) 21 [.int x, .int a, .int b] h = some (.inr (xnm 1), h) := by
  rw [x_X11_needWithin, g_X11_needWithin_0]
  by_cases q1 : x < a
  · rw [if_pos q1]
  · rw [if_neg q1, if_neg (fun q2 => q ⟨q1, Int32.not_lt.mpr q2⟩)]
theorem r_in1 {x a b : Int32} {h : pH} (q : wi x a b) : ex S (d + 1) 28 [.int x, .int a, .int b] h = some (.inl (some (.int 1)), h) := by
  rw [x_X12_in, g_X12_in_0, if_neg q.1, if_neg q.2, q_z1]
theorem r_in0 {x a b : Int32} {h : pH} (q : ¬ wi x a b) : ex S (d + 1) 28 [.int x, .int a, .int b] h = some (.inl (some (.int 0)), h) := by
  rw [x_X12_in, g_X12_in_0]
  by_cases q1 : x < a
  · rw [if_pos q1, q_z0]
  · rw [if_neg q1, if_pos (Decidable.byContradiction fun q2 => q ⟨q1, q2⟩), q_z0]
/-- a number that is no field's -/
def nof (x : Int32) : Prop := x < 0 ∨ (48 : Int32) ≤ x
theorem fld_c (x : Int32) : nof x ∨ ∃ f, f < 48 ∧ x = nI f := by
  rcases pk_ix x (n := 48) (by decide) with h | h | h
  · exact Or.inl (Or.inl h)
  · exact Or.inl (Or.inr h)
  · exact Or.inr h
theorem c_f1 {f : Nat} {h : pH} (hf : f < 48) : ex S (d + 2) 20 [.int (nI f)] h = some (.inl none, h) := by
  rw [x_X11_needField, g_X11_needField_0, x_X11_needIndex, g_X11_needIndex_0, if_neg (nI_pos (by omega)), if_pos (show nI f < 48 from nI_lt hf (by decide)), q_U]
theorem c_f0 {x : Int32} {h : pH} (q : nof x) : ex S (d + 2) 20 [.int x] h = some (.inr (xnm 0), h) := by
  rw [x_X11_needField, g_X11_needField_0, x_X11_needIndex, g_X11_needIndex_0]
  by_cases q1 : x < 0
  · rw [if_pos q1, q_Ue]
  · rw [if_neg q1, if_neg (Int32.not_lt.mpr (q.resolve_left q1)), q_Ue]
theorem r_f1 {f : Nat} {h : pH} (hf : f < 48) : ex S (d + 2) 29 [.int (nI f)] h = some (.inl (some (.int 0)), h) := by
  rw [x_X12_noField, g_X12_noField_0, r_in1 (show wi (nI f) 0 47 from ⟨nI_pos (by omega), nI_nlt (a := 47) (by omega) (by decide)⟩), q_I, if_neg (by decide), q_z0]
theorem r_f0 {x : Int32} {h : pH} (q : nof x) : ex S (d + 2) 29 [.int x] h = some (.inl (some (.int 1)), h) := by
  rw [x_X12_noField, g_X12_noField_0, r_in0, q_I, if_pos rfl, q_z1]
  intro q2
  rcases q with q | q
  · exact q2.1 q
  · have h2 := q2.2
    rw [Int32.lt_iff_toInt_lt] at h2
    rw [Int32.le_iff_toInt_le] at q
    have e1 : (47 : Int32).toInt = 47 := rfl
    have e2 : (48 : Int32).toInt = 48 := rfl
    omega
theorem c_k1 {h : pH} : ex S (d + 1) 257 [.int 1] h = some (.inl none, h) := by
  rw [x_X11_needKnown, g_X11_needKnown_0, if_neg (by decide)]
theorem c_k0 {h : pH} : ex S (d + 1) 257 [.int 0] h = some (.inr (xnm 3), h) := by
  rw [x_X11_needKnown, g_X11_needKnown_0, if_pos rfl]
end Api
