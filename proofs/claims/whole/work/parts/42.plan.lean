/-! PLANS: works and troubles -/
section PlanB
variable {S : sT} {d c : Nat} {k : Value} {E : List dsc} {A : fA} {L : fL} {T : fT} {W : fW}
/-- what a job of a set brings in a year -/
def jobT (W : fW) (set : Int32) (y k : Nat) : Int32 := if ((set >>> (nI k &&& 31)) &&& 1) = 0 then 0 else if nI y ≤ W (2238 + 3 * k + 2) then (if W (2238 + 3 * k + 2) = nI y then -W (2238 + 3 * k) else 0) else W (2238 + 3 * k + 1)
/-- coin at the end of so many years; none if it was ever below 0 -/
def endY (W : fW) (set f ch x : Int32) : Nat → Option Int32
  | 0 => some x
  | n + 1 => match endY W set f ch x n with
    | none => none
    | some z => if 0 ≤ z + ((f + ch * nI n) + sumI (jobT W set n) (jn W)) then some (z + ((f + ch * nI n) + sumI (jobT W set n) (jn W))) else none
def endV (o : Option Int32) : Int32 := match o with | none => -1000000000 | some z => z
theorem endY_no {set f ch x : Int32} {n : Nat} (h : endY W set f ch x n = none) (m : Nat) (hm : n ≤ m) : endY W set f ch x m = none := by
  induction m with
  | zero => rw [show n = 0 by omega] at h; exact h
  | succ m ih =>
    by_cases q : n = m + 1
    · rw [← q]; exact h
    · unfold endY; rw [ih (by omega)]
theorem c_jobsIn {y : Nat} {set : Int32} (hP : LkP (A 27) (A 28) (A 29) (A 30) (A 31) (A 32) W) (hj : W 2237 = nI (jn W) ∧ jn W ≤ 6) : ex S (d + 1) 332 [.ref 27, .int (nI y), .int set] (Hh k E A L T) = some (.inl (some (.int (sumI (jobT W set y) (jn W)))), Hh k E A L T) := by
  rw [x_X5_jobsIn, g_X5_jobsIn_0]
  obtain ⟨h1, h2⟩ := hj
  obtain ⟨p1, p2, p3, p4⟩ := hP
  refine loop_QK (α := Unit) (K := 2) (F := fun m f _ => bd S (ex S d) dflT E_X5_jobsIn m 5 [some (.ref 27), some (.int (nI y)), some (.int set), some (.int (sumI (jobT W set y) f)), some (.int (nI f))] [] (Hh k E A L T)) (N := jn W) (P := fun _ _ => True) (Q := fun r => r = some (.inl (some (.int (sumI (jobT W set y) (jn W)))), Hh k E A L T)) ?_ ?_ (s := ()) trivial (by omega)
  · intro n f _ hf _
    right
    have g0 : ¬ nI (jn W) ≤ nI f := nI_ge hf (by omega)
    obtain ⟨a1, a2, a3⟩ := p3 f (by omega)
    have e : sumI (jobT W set y) (f + 1) = sumI (jobT W set y) f + jobT W set y f := rfl
    rw [g_X5_jobsIn_5]
    simp -implicitDefEqProofs only [g_X5_jobsIn_46, hg_27_0, p1, h1, if_neg g0, hv_27_2, hv_27_3, hv_27_4, an_28 (show f < 6 by omega), an_29 (show f < 6 by omega), an_30 (show f < 6 by omega), a1, a2, a3, nI_p1]
    rw [e]
    generalize sumI (jobT W set y) f = v
    unfold jobT
    by_cases c1 : ((set >>> (nI f &&& 31)) &&& 1) = 0
    · refine ⟨(), n + 1, by omega, ?_, trivial⟩
      rw [if_pos c1, if_pos c1, Int32.add_zero]
    · refine ⟨(), n, by omega, ?_, trivial⟩
      rw [if_neg c1, if_neg c1]
      by_cases c2 : nI y ≤ W (2238 + 3 * f + 2)
      · rw [if_pos c2, if_pos c2]
        by_cases c3 : W (2238 + 3 * f + 2) = nI y
        · rw [if_pos c3, if_pos c3.symm, Int32.add_zero, Int32.sub_eq_add_neg]
        · rw [if_neg c3, if_neg (fun q => c3 q.symm), Int32.add_zero, Int32.sub_zero]
      · have c3 : ¬ nI y = W (2238 + 3 * f + 2) := fun q => c2 (q ▸ Int32.le_refl _)
        rw [if_neg c2, if_neg c2, if_neg c3, Int32.sub_zero]
  · intro n _ _
    simp -implicitDefEqProofs only [g_X5_jobsIn_5, hg_27_0, p1, h1]
    rw [if_pos (Int32.le_refl _)]
theorem c_endOf {x f ch set : Int32} (hP : LkP (A 27) (A 28) (A 29) (A 30) (A 31) (A 32) W) (hj : W 2237 = nI (jn W) ∧ jn W ≤ 6) : ex S (d + 2) 333 [.ref 27, .int x, .int f, .int ch, .int set] (Hh k E A L T) = some (.inl (some (.int (endV (endY W set f ch x 30)))), Hh k E A L T) := by
  rw [x_X5_endOf, g_X5_endOf_0]
  refine loop_Q (α := Int32) (F := fun m y z => bd S (ex S (d + 1)) dflT E_X5_endOf m 6 [some (.ref 27), some (.int x), some (.int f), some (.int ch), some (.int set), some (.int z), some (.int (nI y))] [] (Hh k E A L T)) (N := 30) (P := fun y z => endY W set f ch x y = some z) (Q := fun r => r = some (.inl (some (.int (endV (endY W set f ch x 30)))), Hh k E A L T)) ?_ ?_ (s := x) rfl (by decide)
  · intro n y z hy hz
    have g0 : ¬ (30 : Int32) ≤ nI y := nI_ge hy (by decide)
    simp -implicitDefEqProofs only [g_X5_endOf_6, if_neg g0, hc_27, c_jobsIn hP hj, q_I, nI_p1]
    have e : endY W set f ch x (y + 1) = if 0 ≤ z + ((f + ch * nI y) + sumI (jobT W set y) (jn W)) then some (z + ((f + ch * nI y) + sumI (jobT W set y) (jn W))) else none := by
      show (match endY W set f ch x y with | none => none | some z => _) = _
      rw [hz]
    by_cases q : 0 ≤ z + ((f + ch * nI y) + sumI (jobT W set y) (jn W))
    · right
      rw [if_pos q] at e
      exact ⟨_, by rw [if_pos q], e⟩
    · left
      rw [if_neg q] at e
      rw [if_neg q, endY_no e 30 (by omega)]
      rfl
  · intro n z hz
    simp -implicitDefEqProofs only [g_X5_endOf_6]
    rw [if_pos (by decide), hz]
    rfl
theorem r_ends {x q set f ch : Int32} (hj : A 40 2237 = nI (jn (A 40)) ∧ jn (A 40) ≤ 6) : ex S (d + 1) 338 [.ref 39, .int x, .int q, .int set, .int f, .int ch] (Hh k E A L T) = some (.inl (some (.int (endV (endY (A 40) set (f - q) ch x 30)))), Hh k E A L T) := by
  rw [x_X12_endsWith, g_X12_endsWith_0]
  obtain ⟨h1, h2⟩ := hj
  refine loop_QK (α := Int32 × Option Value × Option Value) (K := 10) (F := fun m y z => bd S (ex S d) dflT E_X12_endsWith m 6 [some (.ref 39), some (.int x), some (.int q), some (.int set), some (.int f), some (.int ch), some (.int z.1), some (.int (nI y)), z.2.1, z.2.2] [] (Hh k E A L T)) (N := 30) (P := fun y z => endY (A 40) set (f - q) ch x y = some z.1) (Q := fun r => r = some (.inl (some (.int (endV (endY (A 40) set (f - q) ch x 30)))), Hh k E A L T)) ?_ ?_ (s := (x, none, none)) rfl (by decide)
  · rintro n y ⟨z, o1, o2⟩ hy hz
    have g0 : ¬ (30 : Int32) ≤ nI y := nI_ge hy (by decide)
    simp -implicitDefEqProofs only [g_X12_endsWith_6, if_neg g0]
    obtain ⟨s', n', hn', e1, e2⟩ := loop_RK (α := Int32 × Option Value) (K := 1) (F := fun m i s => bd S (ex S d) dflT E_X12_endsWith m 31 [some (.ref 39), some (.int x), some (.int q), some (.int set), some (.int f), some (.int ch), some (.int s.1), some (.int (nI y)), some (.int (nI i)), s.2] [] (Hh k E A L T)) (N := jn (A 40)) (P := fun i s => s.1 = (z + ((f + ch * nI y) - q)) + sumI (jobT (A 40) set y) i) (s := (z + ((f + ch * nI y) - q), o2)) (by
      rintro m i ⟨v, o⟩ hi hv
      have g1 : ¬ nI (jn (A 40)) ≤ nI i := nI_ge hi (by omega)
      have e : sumI (jobT (A 40) set y) (i + 1) = sumI (jobT (A 40) set y) i + jobT (A 40) set y i := rfl
      simp -implicitDefEqProofs only [g_X12_endsWith_31, hv_39_1, aw_40_2237, h1, if_neg g1, ix_2238, nI_p1, nI_p2, an_40 (show 2238 + 3 * i < 35877 by omega), an_40 (show 2238 + 3 * i + 1 < 35877 by omega), an_40 (show 2238 + 3 * i + 2 < 35877 by omega)]
      simp only at hv
      rw [e, ← Int32.add_assoc, ← hv]
      clear hv e
      unfold jobT
      by_cases c1 : ((set >>> (nI i &&& 31)) &&& 1) = 0
      · rw [if_pos c1, if_pos c1]
        exact ⟨(v, o), m, Nat.le_refl _, rfl, (Int32.add_zero _).symm⟩
      · rw [if_neg c1, if_neg c1]
        by_cases c2 : nI y ≤ A 40 (2238 + 3 * i + 2)
        · rw [if_pos c2, if_pos c2]
          by_cases c3 : A 40 (2238 + 3 * i + 2) = nI y
          · rw [if_pos c3, if_pos c3]
            exact ⟨(_, _), m, Nat.le_refl _, rfl, rfl⟩
          · rw [if_neg c3, if_neg c3]
            exact ⟨(_, _), m, Nat.le_refl _, rfl, rfl⟩
        · rw [if_neg c2, if_neg c2]
          exact ⟨(_, _), m, Nat.le_refl _, rfl, rfl⟩) (by simp -implicitDefEqProofs only [sumI, Int32.add_zero]) (n + 1) (n + 9) (by omega)
    obtain ⟨v, o⟩ := s'
    obtain ⟨n2, rfl⟩ : ∃ n2, n' = n2 + 1 := ⟨n' - 1, by omega⟩
    simp only at e2
    have e4 : endY (A 40) set (f - q) ch x (y + 1) = if 0 ≤ v then some v else none := by
      show (match endY (A 40) set (f - q) ch x y with | none => none | some z => _) = _
      rw [hz]
      have : z + (((f - q) + ch * nI y) + sumI (jobT (A 40) set y) (jn (A 40))) = v := by rw [e2]; grind
      simp -implicitDefEqProofs only [this]
    rw [show bd S (ex S d) dflT E_X12_endsWith (n + 9) 31 [some (.ref 39), some (.int x), some (.int q), some (.int set), some (.int f), some (.int ch), some (.int (z + ((f + ch * nI y) - q))), some (.int (nI y)), some (.int 0), o2] [] (Hh k E A L T) = _ from e1]
    rw [g_X12_endsWith_31]
    simp -implicitDefEqProofs only [hv_39_1, aw_40_2237, h1, if_pos (Int32.le_refl (nI (jn (A 40)))), nI_p1]
    by_cases c : 0 ≤ v
    · right
      rw [if_pos c] at e4
      exact ⟨(v, _, _), n2, by omega, by rw [if_pos c], e4⟩
    · left
      rw [if_neg c] at e4
      rw [if_neg c, endY_no e4 30 (by omega)]
      rfl
  · rintro n ⟨z, o1, o2⟩ hz
    simp -implicitDefEqProofs only [g_X12_endsWith_6]
    rw [if_pos (by decide), hz]
    rfl
end PlanB
