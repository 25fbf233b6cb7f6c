/-! a line as it is read: a plain function -/
section LineB
variable {t : Nat → Int32} {n : Nat}
abbrev QV : Type := Sum (Nat × Int32) Nat
abbrev LV : Type := Int32 × Int32 × Int32
abbrev LR : Type := Sum (Nat × Cs × LV) Nat
def iW (t : Nat → Int32) (n s : Nat) (lo hi : Int32) : Bool := decide (tK t n s = 1) && (!decide (tV t n s < lo) && !decide (hi < tV t n s))
def qNum (t : Nat → Int32) (n : Nat) (hi : Int32) (s : Nat) : QV := if isNm t n s hi = true then .inl (nx t n s, tV t n s) else .inr s
def qWd (t : Nat → Int32) (n j s : Nat) : QV := if wdP t n s j = true then .inl (nx t n s, 0) else .inr s
def qOne (t : Nat → Int32) (n : Nat) (lo hi : Int32) (s : Nat) : QV := if iW t n s lo hi = true then .inl (nx t n s, tV t n s) else .inr s
def qCr (t : Nat → Int32) (n s : Nat) : QV := if wdP t n s 11 = true then .inl (nx t n s, 5) else if iW t n s 1 4 = true then .inl (nx t n s, tV t n s) else .inr s
def qIf (t : Nat → Int32) (n : Nat) (b : Bool) (s : Nat) (cs : Cs) : PR := if wdP t n s 31 = true then pCo t n 6 (nx t n s) cs else if b = true then .inr s else .inl (s, cs)
def bq (r : QV) (f : Nat → Int32 → LR) : LR := match r with | .inl x => f x.1 x.2 | .inr e => .inr e
def bi (r : PR) (v : LV) : LR := match r with | .inl x => .inl (x.1, x.2, v) | .inr e => .inr e
def sHN (t : Nat → Int32) (n : Nat) (hi : Int32) (m : Option Bool) (s : Nat) (cs : Cs) : LR := bq (qNum t n hi s) (fun s1 N => match m with | none => .inl (s1, cs, N, 0, 0) | some b => bi (qIf t n b s1 cs) (N, 0, 0))
def shI (t : Nat → Int32) (n s : Nat) (cs : Cs) : LR := bi (qIf t n false s cs) (0, 0, 0)
def shC (t : Nat → Int32) (n : Nat) (lo hi mx : Int32) (s : Nat) (cs : Cs) : LR := bq (qOne t n lo hi s) (fun s1 F => bq (qNum t n mx s1) (fun s2 N => .inl (s2, cs, N, F, 0)))
def shD (t : Nat → Int32) (n s : Nat) (cs : Cs) : LR := bq (qOne t n 17 22 s) (fun s1 F => .inl (s1, cs, 0, F, 0))
def shE (t : Nat → Int32) (n s : Nat) (cs : Cs) : LR := bq (qNum t n 999999 s) (fun s1 N => bq (qWd t n 32 s1) (fun s2 _ => bq (qCr t n s2) (fun s3 F => .inl (s3, cs, N, F, 0))))
def shF (t : Nat → Int32) (n s : Nat) (cs : Cs) : LR := bq (qCr t n s) (fun s1 F => bq (qWd t n 33 s1) (fun s2 _ => bq (qCr t n s2) (fun s3 G => .inl (s3, cs, 0, F, G))))
/-- what stands behind a verb -/
def rst (t : Nat → Int32) (n v : Nat) : Nat → Cs → LR :=
  if v = 25 then shE t n else if v = 26 then shF t n else if v = 27 then shC t n 12 13 999999 else if v = 29 then sHN t n 100 (some true) else if v = 30 then sHN t n 100 none
  else if v = 18 then shI t n else if v = 20 then shI t n else if v = 21 then shC t n 12 16 100 else if v = 23 then shD t n else if v = 17 then sHN t n 999999 none else if v = 19 then sHN t n 999999 none
  else sHN t n 999999 (some false)
def oV (v : Nat) (q : LV) : Prop := rg q.1 0 999999 ∧ ((v = 29 ∨ v = 30 ∨ v = 21) → rg q.1 0 100) ∧ ((v = 25 ∨ v = 26) → rg q.2.1 1 5) ∧ (v = 26 → rg q.2.2 1 5) ∧ (v = 27 → rg q.2.1 12 13) ∧ (v = 21 → rg q.2.1 12 16) ∧ (v = 23 → rg q.2.1 17 22) ∧ ((v ≠ 25 ∧ v ≠ 26 ∧ v ≠ 27 ∧ v ≠ 21 ∧ v ≠ 23) → q.2.1 = 0) ∧ (v ≠ 26 → q.2.2 = 0)
theorem bq_l {r : QV} {f : Nat → Int32 → LR} {y : Nat × Cs × LV} (h : bq r f = .inl y) : ∃ s1 x, r = .inl (s1, x) ∧ f s1 x = .inl y := by
  cases r with
  | inl x => exact ⟨x.1, x.2, rfl, h⟩
  | inr e => cases h
theorem bi_l {r : PR} {q : LV} {s' : Nat} {cs' : Cs} {q' : LV} (h : bi r q = .inl (s', cs', q')) : r = .inl (s', cs') ∧ q' = q := by
  cases r with
  | inl x =>
    simp -implicitDefEqProofs only [bi, Sum.inl.injEq, Prod.mk.injEq] at h
    obtain ⟨h1, h2, h3⟩ := h
    exact ⟨by rw [← h1, ← h2], h3.symm⟩
  | inr e => cases h
theorem rg_0 {b : Int} (h : 0 ≤ b) : rg 0 0 b := ⟨by decide, by simpa using h⟩
theorem qN_ok {hi N : Int32} {s s1 : Nat} (hs : Nm t n s) (hh : hi ≤ 999999) (h : qNum t n hi s = .inl (s1, N)) : Nm t n s1 ∧ s ≤ s1 ∧ rg N 0 hi.toInt := by
  unfold qNum at h
  by_cases q : isNm t n s hi = true
  · rw [if_pos q] at h
    simp -implicitDefEqProofs only [Sum.inl.injEq, Prod.mk.injEq] at h
    obtain ⟨rfl, rfl⟩ := h
    obtain ⟨-, -, v3⟩ := (num_k (t := t) (n := n) (s := s) (p := s) hs.2 hs hh).1 q
    unfold isNm at q
    simp -implicitDefEqProofs only [Bool.and_eq_true, decide_eq_true_eq, Bool.not_eq_true', decide_eq_false_iff_not] at q
    refine ⟨(nx_c hs).1, (nx_c hs).2.1, ?_, ?_⟩
    · rw [Int32.le_iff_toInt_le] at v3; exact v3
    · have := q.2; rw [Int32.lt_iff_toInt_lt] at this; omega
  · rw [if_neg q] at h; cases h
theorem qW_ok {j s s1 : Nat} {x : Int32} (hs : Nm t n s) (h : qWd t n j s = .inl (s1, x)) : Nm t n s1 ∧ s ≤ s1 := by
  unfold qWd at h
  by_cases q : wdP t n s j = true
  · rw [if_pos q] at h
    simp -implicitDefEqProofs only [Sum.inl.injEq, Prod.mk.injEq] at h
    obtain ⟨rfl, -⟩ := h
    exact ⟨(nx_c hs).1, (nx_c hs).2.1⟩
  · rw [if_neg q] at h; cases h
theorem inW_k {s : Nat} {lo hi : Int32} (h : iW t n s lo hi = true) : tK t n s = 1 ∧ wi (tV t n s) lo hi := by
  unfold iW at h
  simp -implicitDefEqProofs only [Bool.and_eq_true, decide_eq_true_eq, Bool.not_eq_true', decide_eq_false_iff_not] at h
  exact ⟨h.1, h.2⟩
theorem qO_ok {lo hi F : Int32} {s s1 : Nat} (hs : Nm t n s) (h : qOne t n lo hi s = .inl (s1, F)) : Nm t n s1 ∧ s ≤ s1 ∧ rg F lo.toInt hi.toInt := by
  unfold qOne at h
  by_cases q : iW t n s lo hi = true
  · rw [if_pos q] at h
    simp -implicitDefEqProofs only [Sum.inl.injEq, Prod.mk.injEq] at h
    obtain ⟨rfl, rfl⟩ := h
    exact ⟨(nx_c hs).1, (nx_c hs).2.1, rg_wi (inW_k q).2⟩
  · rw [if_neg q] at h; cases h
theorem qC_ok {F : Int32} {s s1 : Nat} (hs : Nm t n s) (h : qCr t n s = .inl (s1, F)) : Nm t n s1 ∧ s ≤ s1 ∧ rg F 1 5 := by
  unfold qCr at h
  by_cases q : wdP t n s 11 = true
  · rw [if_pos q] at h
    simp -implicitDefEqProofs only [Sum.inl.injEq, Prod.mk.injEq] at h
    obtain ⟨rfl, rfl⟩ := h
    exact ⟨(nx_c hs).1, (nx_c hs).2.1, by decide, by decide⟩
  · rw [if_neg q] at h
    by_cases q2 : iW t n s 1 4 = true
    · rw [if_pos q2] at h
      simp -implicitDefEqProofs only [Sum.inl.injEq, Prod.mk.injEq] at h
      obtain ⟨rfl, rfl⟩ := h
      obtain ⟨a, b⟩ := rg_wi (inW_k q2).2
      have e1 : (1 : Int32).toInt = 1 := rfl
      have e4 : (4 : Int32).toInt = 4 := rfl
      exact ⟨(nx_c hs).1, (nx_c hs).2.1, by omega, by omega⟩
    · rw [if_neg q2] at h; cases h
theorem qI_ok {b : Bool} {s s' : Nat} {cs cs' : Cs} (hs : Nm t n s) (h : qIf t n b s cs = .inl (s', cs')) : Nm t n s' ∧ s ≤ s' ∧ cs'.length + s ≤ cs.length + s' ∧ ∃ x, cs' = cs ++ x ∧ (x = [] ∨ ckL x [] = some [true]) := by
  unfold qIf at h
  by_cases q : wdP t n s 31 = true
  · rw [if_pos q] at h
    obtain ⟨n1, n2, -⟩ := nx_c hs
    obtain ⟨a1, a2, a3, -⟩ := (Gd_C (t := t) (n := n) 6 _ _ n1).1 _ _ h
    obtain ⟨x, e1, e2⟩ := Wf_C _ _ _ _ n1 h
    exact ⟨a1, by omega, by omega, x, e1, Or.inr (e2 [] (by decide))⟩
  · rw [if_neg q] at h
    by_cases qb : b = true
    · rw [if_pos qb] at h; cases h
    · rw [if_neg qb] at h
      simp -implicitDefEqProofs only [Sum.inl.injEq, Prod.mk.injEq] at h
      obtain ⟨rfl, rfl⟩ := h
      exact ⟨hs, Nat.le_refl _, Nat.le_refl _, [], by simp, Or.inl rfl⟩
def Lok (t : Nat → Int32) (n v : Nat) (f : Nat → Cs → LR) : Prop := ∀ s cs s' cs' q, Nm t n s → f s cs = .inl (s', cs', q) → Nm t n s' ∧ s ≤ s' ∧ cs'.length + s ≤ cs.length + s' ∧ (∃ x, cs' = cs ++ x ∧ (x = [] ∨ ckL x [] = some [true])) ∧ oV v q
theorem rg_w {x : Int32} {a b c : Int} (h : rg x a b) (hb : b ≤ c) : rg x a c := ⟨h.1, by have := h.2; omega⟩
theorem ok_N {v : Nat} {hi : Int32} {m : Option Bool} (hh : hi ≤ 999999) (hv : (v = 29 ∨ v = 30 ∨ v = 21) → hi = 100) (hv2 : v ≠ 25 ∧ v ≠ 26 ∧ v ≠ 27 ∧ v ≠ 21 ∧ v ≠ 23) : Lok t n v (sHN t n hi m) := by
  intro s cs s' cs' q hs h
  obtain ⟨s1, N, h1, h2⟩ := bq_l h
  obtain ⟨a1, a2, a3⟩ := qN_ok hs hh h1
  have e6 : (999999 : Int32).toInt = 999999 := rfl
  have r6 : rg N 0 999999 := rg_w a3 (by rw [Int32.le_iff_toInt_le] at hh; omega)
  have rV : oV v (N, 0, 0) := ⟨r6, fun z => by rw [hv z] at a3; exact a3, fun z => by omega, fun z => by omega, fun z => by omega, fun z => by omega, fun z => by omega, fun _ => rfl, fun _ => rfl⟩
  cases m with
  | none =>
    simp -implicitDefEqProofs only [Sum.inl.injEq, Prod.mk.injEq] at h2
    obtain ⟨rfl, rfl, rfl⟩ := h2
    exact ⟨a1, a2, by omega, ⟨[], by simp, Or.inl rfl⟩, rV⟩
  | some b =>
    obtain ⟨h3, rfl⟩ := bi_l h2
    obtain ⟨b1, b2, b3, b4⟩ := qI_ok a1 h3
    exact ⟨b1, by omega, by omega, b4, rV⟩
theorem ok_I {v : Nat} (hv : v ≠ 25 ∧ v ≠ 26 ∧ v ≠ 27 ∧ v ≠ 21 ∧ v ≠ 23) : Lok t n v (shI t n) := by
  intro s cs s' cs' q hs h
  obtain ⟨h3, rfl⟩ := bi_l h
  obtain ⟨b1, b2, b3, b4⟩ := qI_ok hs h3
  exact ⟨b1, b2, b3, b4, rg_0 (by decide), fun _ => rg_0 (by decide), fun z => by omega, fun z => by omega, fun z => by omega, fun z => by omega, fun z => by omega, fun _ => rfl, fun _ => rfl⟩
theorem ok_27 : Lok t n 27 (shC t n 12 13 999999) := by
  intro s cs s' cs' q hs h
  obtain ⟨s1, F, h1, h2⟩ := bq_l h
  obtain ⟨a1, a2, a3⟩ := qO_ok hs h1
  obtain ⟨s2, N, h3, h4⟩ := bq_l h2
  obtain ⟨b1, b2, b3⟩ := qN_ok a1 (by decide) h3
  simp -implicitDefEqProofs only [Sum.inl.injEq, Prod.mk.injEq] at h4
  obtain ⟨rfl, rfl, rfl⟩ := h4
  exact ⟨b1, by omega, by omega, ⟨[], by simp, Or.inl rfl⟩, b3, fun z => by omega, fun z => by omega, fun z => by omega, fun z => a3, fun z => by omega, fun z => by omega, fun z => by omega, fun _ => rfl⟩
theorem ok_21 : Lok t n 21 (shC t n 12 16 100) := by
  intro s cs s' cs' q hs h
  obtain ⟨s1, F, h1, h2⟩ := bq_l h
  obtain ⟨a1, a2, a3⟩ := qO_ok hs h1
  obtain ⟨s2, N, h3, h4⟩ := bq_l h2
  obtain ⟨b1, b2, b3⟩ := qN_ok a1 (by decide) h3
  simp -implicitDefEqProofs only [Sum.inl.injEq, Prod.mk.injEq] at h4
  obtain ⟨rfl, rfl, rfl⟩ := h4
  have b3' : rg N 0 100 := b3
  exact ⟨b1, by omega, by omega, ⟨[], by simp, Or.inl rfl⟩, rg_w b3' (by decide), fun z => b3', fun z => by omega, fun z => by omega, fun z => by omega, fun z => a3, fun z => by omega, fun z => by omega, fun _ => rfl⟩
theorem ok_23 : Lok t n 23 (shD t n) := by
  intro s cs s' cs' q hs h
  obtain ⟨s1, F, h1, h2⟩ := bq_l h
  obtain ⟨a1, a2, a3⟩ := qO_ok hs h1
  simp -implicitDefEqProofs only [Sum.inl.injEq, Prod.mk.injEq] at h2
  obtain ⟨rfl, rfl, rfl⟩ := h2
  exact ⟨a1, by omega, by omega, ⟨[], by simp, Or.inl rfl⟩, rg_0 (by decide), fun z => by omega, fun z => by omega, fun z => by omega, fun z => by omega, fun z => by omega, fun z => a3, fun z => by omega, fun _ => rfl⟩
theorem ok_25 : Lok t n 25 (shE t n) := by
  intro s cs s' cs' q hs h
  obtain ⟨s1, N, h1, h2⟩ := bq_l h
  obtain ⟨a1, a2, a3⟩ := qN_ok hs (by decide) h1
  obtain ⟨s2, x, h3, h4⟩ := bq_l h2
  obtain ⟨b1, b2⟩ := qW_ok a1 h3
  obtain ⟨s3, F, h5, h6⟩ := bq_l h4
  obtain ⟨c1, c2, c3⟩ := qC_ok b1 h5
  simp -implicitDefEqProofs only [Sum.inl.injEq, Prod.mk.injEq] at h6
  obtain ⟨rfl, rfl, rfl⟩ := h6
  exact ⟨c1, by omega, by omega, ⟨[], by simp, Or.inl rfl⟩, a3, fun z => by omega, fun z => c3, fun z => by omega, fun z => by omega, fun z => by omega, fun z => by omega, fun z => by omega, fun _ => rfl⟩
theorem ok_26 : Lok t n 26 (shF t n) := by
  intro s cs s' cs' q hs h
  obtain ⟨s1, F, h1, h2⟩ := bq_l h
  obtain ⟨a1, a2, a3⟩ := qC_ok hs h1
  obtain ⟨s2, x, h3, h4⟩ := bq_l h2
  obtain ⟨b1, b2⟩ := qW_ok a1 h3
  obtain ⟨s3, G, h5, h6⟩ := bq_l h4
  obtain ⟨c1, c2, c3⟩ := qC_ok b1 h5
  simp -implicitDefEqProofs only [Sum.inl.injEq, Prod.mk.injEq] at h6
  obtain ⟨rfl, rfl, rfl⟩ := h6
  exact ⟨c1, by omega, by omega, ⟨[], by simp, Or.inl rfl⟩, rg_0 (by decide), fun z => by omega, fun z => a3, fun z => c3, fun z => by omega, fun z => by omega, fun z => by omega, fun z => by omega, fun z => by omega⟩
theorem v_cases {v : Nat} (h1 : 17 ≤ v) (h2 : v ≤ 30) : v = 17 ∨ v = 18 ∨ v = 19 ∨ v = 20 ∨ v = 21 ∨ v = 22 ∨ v = 23 ∨ v = 24 ∨ v = 25 ∨ v = 26 ∨ v = 27 ∨ v = 28 ∨ v = 29 ∨ v = 30 := by omega
theorem rst_ok {v : Nat} (h1 : 17 ≤ v) (h2 : v ≤ 30) : Lok t n v (rst t n v) := by
  rcases v_cases h1 h2 with rfl | rfl | rfl | rfl | rfl | rfl | rfl | rfl | rfl | rfl | rfl | rfl | rfl | rfl
  · exact ok_N (hi := 999999) (m := none) (by decide) (by omega) (by decide)
  · exact ok_I (by decide)
  · exact ok_N (hi := 999999) (m := none) (by decide) (by omega) (by decide)
  · exact ok_I (by decide)
  · exact ok_21
  · exact ok_N (hi := 999999) (m := some false) (by decide) (by omega) (by decide)
  · exact ok_23
  · exact ok_N (hi := 999999) (m := some false) (by decide) (by omega) (by decide)
  · exact ok_25
  · exact ok_26
  · exact ok_27
  · exact ok_N (hi := 999999) (m := some false) (by decide) (by omega) (by decide)
  · exact ok_N (hi := 100) (m := some true) (by decide) (fun _ => rfl) (by decide)
  · exact ok_N (hi := 100) (m := none) (by decide) (fun _ => rfl) (by decide)
/-- one line, from its verb on -/
abbrev LN : Type := Nat × LV × Nat × Nat
abbrev LQ : Type := Sum (Nat × Cs × LN) Nat
def vlo (b : Bool) : Nat := if b = true then 24 else 17
def vhi (b : Bool) : Nat := if b = true then 30 else 23
def pLn (t : Nat → Int32) (n : Nat) (b : Bool) (s : Nat) (cs : Cs) : LQ := if iW t n s (nI (vlo b)) (nI (vhi b)) = true then (match rst t n (tV t n s).toNatClampNeg (nx t n s) cs with | .inl x => .inl (x.1, x.2.1, (tV t n s).toNatClampNeg, x.2.2, cs.length, x.2.1.length) | .inr e => .inr e) else .inr s
def pLs (t : Nat → Int32) (n : Nat) (b : Bool) : Nat → Nat → Cs → List LN → Sum (List LN × Cs) Nat
  | 0, s, _, _ => .inr s
  | m + 1, s, cs, acc => (match pLn t n b s cs with | .inl x => if tK t n x.1 = 0 then .inl (acc ++ [x.2.2], x.2.1) else if sgP t n x.1 59 = true then pLs t n b m (nx t n x.1) x.2.1 (acc ++ [x.2.2]) else .inr x.1 | .inr e => .inr e)
def pTx (t : Nat → Int32) (n : Nat) (b : Bool) : Sum (List LN × Cs) Nat := if tK t n (tS t n 0) = 0 then .inl ([], []) else pLs t n b 16 (tS t n 0) [] []
end LineB
