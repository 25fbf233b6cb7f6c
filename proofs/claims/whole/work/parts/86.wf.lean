/-! the steps of a condition that was read are well-formed -/
section WfB
variable {t : Nat → Int32} {n : Nat}
def ckL : Cs → List Bool → Option (List Bool)
  | [], st => some st
  | x :: r, st => (ck1 x.1 x.2 st).bind (ckL r)
theorem ckL_a (a b : Cs) (st : List Bool) : ckL (a ++ b) st = (ckL a st).bind (ckL b) := by
  induction a generalizing st with
  | nil => rfl
  | cons x r ih =>
    show (ck1 x.1 x.2 st).bind (ckL (r ++ b)) = ((ck1 x.1 x.2 st).bind (ckL r)).bind (ckL b)
    cases ck1 x.1 x.2 st with
    | none => rfl
    | some u => exact ih u
theorem ckL_1 (x : Int32 × Int32) (st : List Bool) : ckL [x] st = ck1 x.1 x.2 st := by
  show (ck1 x.1 x.2 st).bind (ckL []) = _
  cases ck1 x.1 x.2 st <;> rfl
theorem ckN_L {c : Nat → Int32 × Int32} (l : Cs) : ∀ (i : Nat) (st : List Bool), (∀ j, j < l.length → c (i + j) = l.getD j (0, 0)) → ckN c i l.length st = ckL l st := by
  induction l with
  | nil => intro i st h; rfl
  | cons x r ih =>
    intro i st h
    have e0 : c i = x := by simpa using h 0 (by simp)
    show (ck1 (c i).1 (c i).2 st).bind (ckN c (i + 1) r.length) = (ck1 x.1 x.2 st).bind (ckL r)
    rw [e0]
    cases ck1 x.1 x.2 st with
    | none => rfl
    | some u =>
      refine ih (i + 1) u (fun j hj => ?_)
      have := h (j + 1) (by simp; omega)
      rw [show i + 1 + j = i + (j + 1) by omega, this]
      simp
/-- what is written takes any room to one with a number, or a truth, more -/
def Wf (t : Nat → Int32) (n N : Nat) (b : Bool) (f : Nat → Cs → PR) : Prop := ∀ s cs s' cs', Nm t n s → f s cs = .inl (s', cs') → ∃ x, cs' = cs ++ x ∧ ∀ st : List Bool, st.length + N ≤ 20 → ckL x st = some (b :: st)
def Wl (t : Nat → Int32) (n N : Nat) (a b : Bool) (f : Nat → Cs → PR) : Prop := ∀ s cs s' cs', Nm t n s → f s cs = .inl (s', cs') → ∃ x, cs' = cs ++ x ∧ ∀ st : List Bool, st.length + N ≤ 20 → ckL x (a :: st) = some (b :: st)
theorem Wf_m {N M : Nat} {b : Bool} {f : Nat → Cs → PR} (h : Wf t n N b f) (hm : N ≤ M) : Wf t n M b f := by
  intro s cs s' cs' hs e
  obtain ⟨x, e1, e2⟩ := h s cs s' cs' hs e
  exact ⟨x, e1, fun st hst => e2 st (by omega)⟩
theorem Wf_part : Wf t n 1 false (pPart t n) := by
  intro s cs s' cs' hs h
  unfold pPart at h
  by_cases q : isFc t n s = true
  · rw [if_pos q] at h
    simp -implicitDefEqProofs only [Sum.inl.injEq, Prod.mk.injEq] at h
    obtain ⟨-, rfl⟩ := h
    refine ⟨_, rfl, fun st hst => ?_⟩
    rw [ckL_1]
    unfold isFc at q
    simp -implicitDefEqProofs only [Bool.and_eq_true, decide_eq_true_eq, Bool.not_eq_true', decide_eq_false_iff_not] at q
    obtain ⟨m, hm, em⟩ := wi_n (M := 10) (by decide) ⟨q.2.1, q.2.2⟩
    show ck1 (tV t n s) 0 st = _
    rw [em]
    unfold ck1
    rw [if_neg (show ¬ nI m = 100 from fun z => by have := (nI_eq (b := 100) (by omega) (by decide)).mp z; omega), if_neg (nI_pos (show m < 2 ^ 31 by omega)), if_pos (show nI m < 11 from nI_lt (b := 11) (by omega) (by decide)), if_pos (by omega)]
  · rw [if_neg q] at h
    by_cases q2 : isNm t n s 999999 = true
    · rw [if_pos q2] at h
      simp -implicitDefEqProofs only [Sum.inl.injEq, Prod.mk.injEq] at h
      obtain ⟨-, rfl⟩ := h
      refine ⟨_, rfl, fun st hst => ?_⟩
      obtain ⟨-, -, v3⟩ := (num_k (t := t) (n := n) (s := s) (p := s) (hi := 999999) hs.2 hs (by decide)).1 q2
      rw [ckL_1]
      show ck1 100 (tV t n s) st = _
      unfold ck1
      rw [if_pos rfl, if_neg (Int32.not_lt.mpr v3), if_pos (by omega)]
    · rw [if_neg q2] at h; cases h
theorem Wl_sumT (m : Nat) : Wl t n 2 false false (pSumT t n m) := by
  induction m with
  | zero => intro s cs s' cs' hs h; cases h
  | succ m ih =>
    intro s cs s' cs' hs h
    unfold pSumT at h
    by_cases q : sgP t n s 43 = true
    · rw [if_pos q] at h
      have n1 := (nx_c hs).1
      cases hr : pPart t n (nx t n s) cs with
      | inr e => simp [bnd, hr] at h
      | inl x =>
        simp -implicitDefEqProofs only [bnd, hr] at h
        have a1 := ((Gd_part (t := t) (n := n) (nx t n s) cs n1).1 x.1 x.2 hr).1
        obtain ⟨y, e1, e2⟩ := Wf_part _ _ _ _ n1 hr
        obtain ⟨z, e3, e4⟩ := ih _ _ _ _ a1 h
        refine ⟨y ++ ([(101, 0)] ++ z), by rw [e3, e1]; simp, fun st hst => ?_⟩
        rw [ckL_a, e2 (false :: st) (by simp -implicitDefEqProofs only [List.length_cons]; omega)]
        show ckL ([(101, 0)] ++ z) (false :: false :: st) = _
        rw [ckL_a, ckL_1]
        exact e4 st hst
    · rw [if_neg q] at h
      simp -implicitDefEqProofs only [Sum.inl.injEq, Prod.mk.injEq] at h
      obtain ⟨-, rfl⟩ := h
      exact ⟨[], by simp, fun st _ => rfl⟩
/-- one, then another on what it has laid -/
theorem Wf_b {N M : Nat} {a b : Bool} {f g : Nat → Cs → PR} (hG : Gd t n f) (hf : Wf t n N a f) (hg : Wl t n M a b g) (hN : N ≤ M) : Wf t n M b (fun s cs => bnd (f s cs) g) := by
  intro s cs s' cs' hs h
  cases hr : f s cs with
  | inr e => simp [bnd, hr] at h
  | inl x =>
    simp -implicitDefEqProofs only [bnd, hr] at h
    have a1 := ((hG s cs hs).1 x.1 x.2 hr).1
    obtain ⟨y, e1, e2⟩ := hf _ _ _ _ hs hr
    obtain ⟨z, e3, e4⟩ := hg _ _ _ _ a1 h
    refine ⟨y ++ z, by rw [e3, e1]; simp, fun st hst => ?_⟩
    rw [ckL_a, e2 st (by omega)]
    exact e4 st hst
theorem Wf_sum : Wf t n 2 false (pSum t n) := Wf_b Gd_part Wf_part (Wl_sumT 401) (by decide)
/-- something more, and an instruction over both -/
theorem Wl_op {N : Nat} {a b : Bool} {op : Int32} {f : Nat → Cs → PR} {s s' : Nat} {cs cs' : Cs} (hf : Wf t n N a f) (hs : Nm t n s) (ho : ∀ st, ck1 op 0 (a :: a :: st) = some (b :: st)) (h : bnd (f (nx t n s) cs) (fun a b => (.inl (a, b ++ [(op, 0)]) : PR)) = .inl (s', cs')) : ∃ x, cs' = cs ++ x ∧ ∀ st : List Bool, st.length + (N + 1) ≤ 20 → ckL x (a :: st) = some (b :: st) := by
  cases hr : f (nx t n s) cs with
  | inr e => simp [bnd, hr] at h
  | inl x =>
    simp -implicitDefEqProofs only [bnd, hr, Sum.inl.injEq, Prod.mk.injEq] at h
    obtain ⟨-, rfl⟩ := h
    obtain ⟨y, e1, e2⟩ := hf _ _ _ _ (nx_c hs).1 hr
    refine ⟨y ++ [(op, 0)], by rw [e1]; simp, fun st hst => ?_⟩
    rw [ckL_a, e2 (a :: st) (by simp -implicitDefEqProofs only [List.length_cons]; omega)]
    show ckL [(op, 0)] (a :: a :: st) = _
    rw [ckL_1]
    exact ho st
theorem Wl_cmp : Wl t n 3 false true (cmpT t n) := by
  intro s cs s' cs' hs h
  unfold cmpT at h
  by_cases q : sgP t n s 60 = true
  · rw [if_pos q] at h
    exact Wl_op Wf_sum hs (fun st => rfl) h
  · rw [if_neg q] at h
    by_cases q2 : sgP t n s 62 = true
    · rw [if_pos q2] at h
      exact Wl_op Wf_sum hs (fun st => rfl) h
    · rw [if_neg q2] at h; cases h
theorem Wf_at {N : Nat} {o : Option ((Nat → Cs → PR) × (Nat → Cs → PR))} (hN : 3 ≤ N) (ho : ∀ f, o = some f → Gd t n f.1 ∧ Gd t n f.2 ∧ Wf t n N true f.1 ∧ Wf t n N true f.2) : Wf t n N true (atO t n o) := by
  intro s cs s' cs' hs h
  have n1 := (nx_c hs).1
  unfold atO at h
  by_cases q : wdP t n s 36 = true
  · rw [if_pos q] at h
    cases o with
    | none => cases h
    | some f =>
      obtain ⟨-, -, w1, -⟩ := ho f rfl
      simp only at h
      cases hr : f.1 (nx t n s) cs with
      | inr e => simp [bnd, hr] at h
      | inl x =>
        simp -implicitDefEqProofs only [bnd, hr, Sum.inl.injEq, Prod.mk.injEq] at h
        obtain ⟨-, rfl⟩ := h
        obtain ⟨y, e1, e2⟩ := w1 _ _ _ _ n1 hr
        refine ⟨y ++ [(104, 0)], by rw [e1]; simp, fun st hst => ?_⟩
        rw [ckL_a, e2 st hst]
        show ckL [(104, 0)] (true :: st) = _
        rw [ckL_1]
        rfl
  · rw [if_neg q] at h
    by_cases q2 : sgP t n s 40 = true
    · rw [if_pos q2] at h
      cases o with
      | none => cases h
      | some f =>
        obtain ⟨-, -, -, w2⟩ := ho f rfl
        simp only at h
        cases hr : f.2 (nx t n s) cs with
        | inr e => simp [bnd, hr] at h
        | inl x =>
          simp -implicitDefEqProofs only [bnd, hr] at h
          unfold cls at h
          by_cases q3 : sgP t n x.1 41 = true
          · rw [if_pos q3] at h
            simp -implicitDefEqProofs only [Sum.inl.injEq, Prod.mk.injEq] at h
            obtain ⟨-, rfl⟩ := h
            exact w2 _ _ _ _ n1 hr
          · rw [if_neg q3] at h; cases h
    · rw [if_neg q2] at h
      obtain ⟨x, e1, e2⟩ := Wf_b Gd_sum Wf_sum Wl_cmp (by decide) s cs s' cs' hs h
      exact ⟨x, e1, fun st hst => e2 st (by omega)⟩
theorem Wl_wh {N w : Nat} {op : Int32} {f : Nat → Cs → PR} (hG : Gd t n f) (hf : Wf t n N true f) (ho : ∀ st, ck1 op 0 (true :: true :: st) = some (true :: st)) (m : Nat) : Wl t n (N + 1) true true (whW t n w op f m) := by
  induction m with
  | zero => intro s cs s' cs' hs h; cases h
  | succ m ih =>
    intro s cs s' cs' hs h
    unfold whW at h
    by_cases q : wdP t n s w = true
    · rw [if_pos q] at h
      have n1 := (nx_c hs).1
      cases hr : f (nx t n s) cs with
      | inr e => simp [bnd, hr] at h
      | inl x =>
        simp -implicitDefEqProofs only [bnd, hr] at h
        have a1 := ((hG (nx t n s) cs n1).1 x.1 x.2 hr).1
        obtain ⟨y, e1, e2⟩ := hf _ _ _ _ n1 hr
        obtain ⟨z, e3, e4⟩ := ih _ _ _ _ a1 h
        refine ⟨y ++ ([(op, 0)] ++ z), by rw [e3, e1]; simp, fun st hst => ?_⟩
        rw [ckL_a, e2 (true :: st) (by simp -implicitDefEqProofs only [List.length_cons]; omega)]
        show ckL ([(op, 0)] ++ z) (true :: true :: st) = _
        rw [ckL_a, ckL_1]
        show (ck1 op 0 (true :: true :: st)).bind (ckL z) = _
        rw [ho st]
        exact e4 st hst
    · rw [if_neg q] at h
      simp -implicitDefEqProofs only [Sum.inl.injEq, Prod.mk.injEq] at h
      obtain ⟨-, rfl⟩ := h
      exact ⟨[], by simp, fun st _ => rfl⟩
theorem Wf_sq {N w : Nat} {op : Int32} {f : Nat → Cs → PR} (hG : Gd t n f) (hf : Wf t n N true f) (ho : ∀ st, ck1 op 0 (true :: true :: st) = some (true :: st)) : Wf t n (N + 1) true (sqO t n w op f) := Wf_b hG hf (Wl_wh hG hf ho 401) (by omega)
theorem Wf_A (q : Nat) : Wf t n (3 + 2 * q) true (pA t n q) := by
  induction q with
  | zero => exact Wf_at (by decide) (fun f h => by cases h)
  | succ q ih =>
    exact Wf_at (by omega) (fun f h => by cases h; exact ⟨Gd_A q, Gd_C q, Wf_m ih (by omega), Wf_m (Wf_sq (Gd_L q) (Wf_sq (Gd_A q) ih (fun st => rfl)) (fun st => rfl)) (by omega)⟩)
theorem Wf_C : Wf t n 17 true (pCo t n 6) := Wf_sq (Gd_L 6) (Wf_sq (Gd_A 6) (Wf_A 6) (fun st => rfl)) (fun st => rfl)
end WfB
