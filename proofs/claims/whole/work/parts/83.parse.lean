/-! conditions as they are read: a plain function -/
section ParseB
variable {t : Nat → Int32} {n : Nat}
theorem tS_i {p : Nat} (hp : p ≤ n) : tS t n (tS t n p) = tS t n p := by
  obtain ⟨a1, a2, a3, a4⟩ := run_c isB t (n := n) (p := p) hp
  exact run_u (Nat.le_refl _) a2 (fun i h1 h2 => absurd (Nat.lt_of_le_of_lt h1 h2) (Nat.lt_irrefl _)) a4
theorem tK_i {p : Nat} (hp : p ≤ n) : tK t n (tS t n p) = tK t n p := by unfold tK; rw [tS_i hp]
theorem tE_i {p : Nat} (hp : p ≤ n) : tE t n (tS t n p) = tE t n p := by unfold tE; rw [tS_i hp]
theorem tV_i {p : Nat} (hp : p ≤ n) : tV t n (tS t n p) = tV t n p := by unfold tV; rw [tS_i hp, tE_i hp]
/-- the token behind one -/
def nx (t : Nat → Int32) (n s : Nat) : Nat := tS t n (tE t n s)
def Nm (t : Nat → Int32) (n s : Nat) : Prop := s ≤ n ∧ tS t n s = s
theorem Nm_S {p : Nat} (hp : p ≤ n) : Nm t n (tS t n p) := ⟨(tS_c hp).2, tS_i hp⟩
theorem nx_c {s : Nat} (h : Nm t n s) : Nm t n (nx t n s) ∧ s ≤ nx t n s ∧ (s < n → s < nx t n s ∧ s < tE t n s) := by
  obtain ⟨h1, h2⟩ := h
  obtain ⟨a1, a2, a3⟩ := tE_c (t := t) (n := n) (p := s) h1
  rw [h2] at a1 a3
  obtain ⟨b1, b2⟩ := tS_c (t := t) (n := n) (p := tE t n s) a2
  refine ⟨Nm_S a2, by unfold nx; omega, fun h => ⟨by have := a3 h; unfold nx; omega, a3 h⟩⟩
theorem K_lt {s : Nat} (h : Nm t n s) (hk : ¬ tK t n s = 0) : s < n := by
  rcases Nat.lt_or_ge s n with q | q
  · exact q
  · exact absurd (by unfold tK; rw [h.2, if_pos q]) hk
def wdP (t : Nat → Int32) (n s j : Nat) : Bool := decide (tK t n s = 1) && decide (tV t n s = nI j)
def sgP (t : Nat → Int32) (n s : Nat) (x : Int32) : Bool := decide (tK t n s = 3) && decide (tV t n s = x)
theorem wd_k {s j : Nat} (h : wdP t n s j = true) : tK t n s = 1 ∧ tV t n s = nI j := by unfold wdP at h; simpa using h
theorem sg_k {s : Nat} {x : Int32} (h : sgP t n s x = true) : tK t n s = 3 ∧ tV t n s = x := by unfold sgP at h; simpa using h
abbrev Cs : Type := List (Int32 × Int32)
abbrev PR : Type := Sum (Nat × Cs) Nat
def isFc (t : Nat → Int32) (n s : Nat) : Bool := decide (tK t n s = 1) && (!decide (tV t n s < 0) && !decide (10 < tV t n s))
def isNm (t : Nat → Int32) (n s : Nat) (hi : Int32) : Bool := decide (tK t n s = 2) && !decide (hi < tV t n s)
def pPart (t : Nat → Int32) (n s : Nat) (cs : Cs) : PR := if isFc t n s = true then .inl (nx t n s, cs ++ [(tV t n s, 0)]) else if isNm t n s 999999 = true then .inl (nx t n s, cs ++ [(100, tV t n s)]) else .inr s
def bnd (r : PR) (f : Nat → Cs → PR) : PR := match r with | .inl x => f x.1 x.2 | .inr e => .inr e
def pSumT (t : Nat → Int32) (n : Nat) : Nat → Nat → Cs → PR
  | 0, s, _ => .inr s
  | m + 1, s, cs => if sgP t n s 43 = true then bnd (pPart t n (nx t n s) cs) (fun s' cs' => pSumT t n m s' (cs' ++ [(101, 0)])) else .inl (s, cs)
def pSum (t : Nat → Int32) (n s : Nat) (cs : Cs) : PR := bnd (pPart t n s cs) (fun s' cs' => pSumT t n 401 s' cs')
def cmpT (t : Nat → Int32) (n s : Nat) (cs : Cs) : PR := if sgP t n s 60 = true then bnd (pSum t n (nx t n s) cs) (fun s' cs' => .inl (s', cs' ++ [(102, 0)])) else if sgP t n s 62 = true then bnd (pSum t n (nx t n s) cs) (fun s' cs' => .inl (s', cs' ++ [(103, 0)])) else .inr s
def cls (t : Nat → Int32) (n s : Nat) (cs : Cs) : PR := if sgP t n s 41 = true then .inl (nx t n s, cs) else .inr s
def atO (t : Nat → Int32) (n : Nat) (o : Option ((Nat → Cs → PR) × (Nat → Cs → PR))) (s : Nat) (cs : Cs) : PR :=
  if wdP t n s 36 = true then (match o with | none => .inr s | some f => bnd (f.1 (nx t n s) cs) (fun s' cs' => .inl (s', cs' ++ [(104, 0)])))
  else if sgP t n s 40 = true then (match o with | none => .inr s | some f => bnd (f.2 (nx t n s) cs) (cls t n))
  else bnd (pSum t n s cs) (cmpT t n)
def whW (t : Nat → Int32) (n w : Nat) (op : Int32) (f : Nat → Cs → PR) : Nat → Nat → Cs → PR
  | 0, s, _ => .inr s
  | m + 1, s, cs => if wdP t n s w = true then bnd (f (nx t n s) cs) (fun s' cs' => whW t n w op f m s' (cs' ++ [(op, 0)])) else .inl (s, cs)
def sqO (t : Nat → Int32) (n w : Nat) (op : Int32) (f : Nat → Cs → PR) (s : Nat) (cs : Cs) : PR := bnd (f s cs) (fun s' cs' => whW t n w op f 401 s' cs')
def pA (t : Nat → Int32) (n : Nat) : Nat → Nat → Cs → PR
  | 0 => atO t n none
  | q + 1 => atO t n (some (pA t n q, sqO t n 35 106 (sqO t n 34 105 (pA t n q))))
def pAl (t : Nat → Int32) (n q : Nat) : Nat → Cs → PR := sqO t n 34 105 (pA t n q)
def pCo (t : Nat → Int32) (n q : Nat) : Nat → Cs → PR := sqO t n 35 106 (pAl t n q)
/-- what such a function keeps: it goes on, and writes no more steps than it reads bytes -/
def Gd (t : Nat → Int32) (n : Nat) (f : Nat → Cs → PR) : Prop := ∀ s cs, Nm t n s → (∀ s' cs', f s cs = .inl (s', cs') → Nm t n s' ∧ s < s' ∧ cs'.length + s ≤ cs.length + s' ∧ cs.length ≤ cs'.length ∧ (∀ i, i < cs.length → cs'.getD i (0, 0) = cs.getD i (0, 0))) ∧ ∀ e, f s cs = .inr e → Nm t n e
theorem gd_a {cs : Cs} {x : Int32 × Int32} {i : Nat} (hi : i < cs.length) : (cs ++ [x]).getD i (0, 0) = cs.getD i (0, 0) := by
  simp -implicitDefEqProofs only [List.getD_eq_getElem?_getD]; rw [List.getElem?_append_left hi]
theorem gd_z {cs : Cs} {x : Int32 × Int32} : (cs ++ [x]).getD cs.length (0, 0) = x := by
  simp -implicitDefEqProofs only [List.getD_eq_getElem?_getD]; rw [List.getElem?_append_right (Nat.le_refl _), Nat.sub_self]; rfl
theorem ln_a {cs : Cs} {x : Int32 × Int32} : (cs ++ [x]).length = cs.length + 1 := by simp
theorem Gd_part : Gd t n (pPart t n) := by
  intro s cs hs
  obtain ⟨n1, n2, n3⟩ := nx_c hs
  unfold pPart
  by_cases q : isFc t n s = true
  · rw [if_pos q]
    have hk : ¬ tK t n s = 0 := by unfold isFc at q; simp -implicitDefEqProofs only [Bool.and_eq_true, decide_eq_true_eq] at q; rw [q.1]; decide
    have := n3 (K_lt hs hk)
    refine ⟨fun s' cs' h => ?_, fun e h => by cases h⟩
    simp -implicitDefEqProofs only [Sum.inl.injEq, Prod.mk.injEq] at h
    obtain ⟨rfl, rfl⟩ := h
    exact ⟨n1, this.1, by rw [ln_a]; omega, by rw [ln_a]; omega, fun i hi => gd_a hi⟩
  · rw [if_neg q]
    by_cases q2 : isNm t n s 999999 = true
    · rw [if_pos q2]
      have hk : ¬ tK t n s = 0 := by unfold isNm at q2; simp -implicitDefEqProofs only [Bool.and_eq_true, decide_eq_true_eq] at q2; rw [q2.1]; decide
      have := n3 (K_lt hs hk)
      refine ⟨fun s' cs' h => ?_, fun e h => by cases h⟩
      simp -implicitDefEqProofs only [Sum.inl.injEq, Prod.mk.injEq] at h
      obtain ⟨rfl, rfl⟩ := h
      exact ⟨n1, this.1, by rw [ln_a]; omega, by rw [ln_a]; omega, fun i hi => gd_a hi⟩
    · rw [if_neg q2]
      exact ⟨fun s' cs' h => (by cases h), fun e h => by cases h; exact hs⟩
/-- one part, then something that may stand still -/
def Gw (t : Nat → Int32) (n : Nat) (f : Nat → Cs → PR) : Prop := ∀ s cs, Nm t n s → (∀ s' cs', f s cs = .inl (s', cs') → Nm t n s' ∧ s ≤ s' ∧ cs'.length + s ≤ cs.length + s' ∧ cs.length ≤ cs'.length ∧ (∀ i, i < cs.length → cs'.getD i (0, 0) = cs.getD i (0, 0))) ∧ ∀ e, f s cs = .inr e → Nm t n e
theorem Gd_w {f : Nat → Cs → PR} (h : Gd t n f) : Gw t n f := fun s cs hs => ⟨fun s' cs' e => by obtain ⟨a, b, c⟩ := (h s cs hs).1 s' cs' e; exact ⟨a, by omega, c⟩, (h s cs hs).2⟩
theorem Gd_b {f g : Nat → Cs → PR} (hf : Gd t n f) (hg : Gw t n g) : Gd t n (fun s cs => bnd (f s cs) g) := by
  intro s cs hs
  obtain ⟨f1, f2⟩ := hf s cs hs
  cases hr : f s cs with
  | inr e => exact ⟨fun s' cs' h => by simp [bnd, hr] at h, fun e' h => by simp [bnd, hr] at h; subst h; exact f2 e hr⟩
  | inl x =>
    obtain ⟨a1, a2, a3, a4, a5⟩ := f1 x.1 x.2 hr
    obtain ⟨g1, g2⟩ := hg x.1 x.2 a1
    refine ⟨fun s' cs' h => ?_, fun e h => ?_⟩
    · simp -implicitDefEqProofs only [bnd, hr] at h
      obtain ⟨b1, b2, b3, b4, b5⟩ := g1 s' cs' h
      exact ⟨b1, by omega, by omega, by omega, fun i hi => by rw [b5 i (by omega)]; exact a5 i hi⟩
    · simp -implicitDefEqProofs only [bnd, hr] at h
      exact g2 e h
/-- a token, something, and a step more -/
theorem Gd_op {f : Nat → Cs → PR} {op : Int32} {s : Nat} {cs : Cs} (hf : Gd t n f) (hs : Nm t n s) (hl : s < n) {s' : Nat} {cs' : Cs} (h : bnd (f (nx t n s) cs) (fun a b => (.inl (a, b ++ [(op, 0)]) : PR)) = .inl (s', cs')) : Nm t n s' ∧ s < s' ∧ cs'.length + s ≤ cs.length + s' ∧ cs.length ≤ cs'.length ∧ (∀ i, i < cs.length → cs'.getD i (0, 0) = cs.getD i (0, 0)) := by
  obtain ⟨n1, n2, n3⟩ := nx_c hs
  obtain ⟨n4, -⟩ := n3 hl
  obtain ⟨f1, f2⟩ := hf (nx t n s) cs n1
  cases hr : f (nx t n s) cs with
  | inr e => simp [bnd, hr] at h
  | inl x =>
    obtain ⟨a1, a2, a3, a4, a5⟩ := f1 x.1 x.2 hr
    simp -implicitDefEqProofs only [bnd, hr, Sum.inl.injEq, Prod.mk.injEq] at h
    obtain ⟨rfl, rfl⟩ := h
    exact ⟨a1, by omega, by rw [ln_a]; omega, by rw [ln_a]; omega, fun i hi => by rw [gd_a (by omega)]; exact a5 i hi⟩
theorem no_op {f g : Nat → Cs → PR} {s e : Nat} {cs : Cs} (hf : Gd t n f) (hs : Nm t n s) (hg : ∀ a b, Nm t n a → ∀ e, g a b = .inr e → Nm t n e) (h : bnd (f (nx t n s) cs) g = .inr e) : Nm t n e := by
  obtain ⟨n1, n2, n3⟩ := nx_c hs
  obtain ⟨f1, f2⟩ := hf (nx t n s) cs n1
  cases hr : f (nx t n s) cs with
  | inr e' => simp [bnd, hr] at h; subst h; exact f2 e' hr
  | inl x => simp -implicitDefEqProofs only [bnd, hr] at h; exact hg x.1 x.2 (f1 x.1 x.2 hr).1 e h
theorem Gw_sumT (m : Nat) : Gw t n (pSumT t n m) := by
  induction m with
  | zero => exact fun s cs hs => ⟨fun s' cs' h => (by cases h), fun e h => by cases h; exact hs⟩
  | succ m ih =>
    intro s cs hs
    unfold pSumT
    by_cases q : sgP t n s 43 = true
    · rw [if_pos q]
      have hl := K_lt hs (by rw [(sg_k q).1]; decide)
      obtain ⟨n1, n2, n3⟩ := nx_c hs
      obtain ⟨n4, -⟩ := n3 hl
      obtain ⟨f1, f2⟩ := Gd_part (t := t) (n := n) (nx t n s) cs n1
      cases hr : pPart t n (nx t n s) cs with
      | inr e => exact ⟨fun s' cs' h => by simp [bnd] at h, fun e' h => by simp [bnd] at h; subst h; exact f2 e hr⟩
      | inl x =>
        obtain ⟨a1, a2, a3, a4, a5⟩ := f1 x.1 x.2 hr
        obtain ⟨g1, g2⟩ := ih x.1 (x.2 ++ [(101, 0)]) a1
        refine ⟨fun s' cs' h => ?_, fun e h => g2 e h⟩
        obtain ⟨b1, b2, b3, b4, b5⟩ := g1 s' cs' h
        rw [ln_a] at b3 b4 b5
        exact ⟨b1, by omega, by omega, by omega, fun i hi => by rw [b5 i (by omega), gd_a (by omega)]; exact a5 i hi⟩
    · rw [if_neg q]
      refine ⟨fun s' cs' h => ?_, fun e h => by cases h⟩
      simp -implicitDefEqProofs only [Sum.inl.injEq, Prod.mk.injEq] at h
      obtain ⟨rfl, rfl⟩ := h
      exact ⟨hs, Nat.le_refl _, Nat.le_refl _, Nat.le_refl _, fun _ _ => rfl⟩
theorem Gd_sum : Gd t n (pSum t n) := Gd_b Gd_part (Gw_sumT 401)
theorem Gw_cmp : Gw t n (cmpT t n) := by
  intro s cs hs
  unfold cmpT
  by_cases q : sgP t n s 60 = true
  · rw [if_pos q]
    have hl := K_lt hs (by rw [(sg_k q).1]; decide)
    refine ⟨fun s' cs' h => ?_, fun e h => no_op Gd_sum hs (fun a b _ e h => by cases h) h⟩
    obtain ⟨b1, b2, b3⟩ := Gd_op Gd_sum hs hl h
    exact ⟨b1, by omega, b3⟩
  · rw [if_neg q]
    by_cases q2 : sgP t n s 62 = true
    · rw [if_pos q2]
      have hl := K_lt hs (by rw [(sg_k q2).1]; decide)
      refine ⟨fun s' cs' h => ?_, fun e h => no_op Gd_sum hs (fun a b _ e h => by cases h) h⟩
      obtain ⟨b1, b2, b3⟩ := Gd_op Gd_sum hs hl h
      exact ⟨b1, by omega, b3⟩
    · rw [if_neg q2]
      exact ⟨fun s' cs' h => (by cases h), fun e h => by cases h; exact hs⟩
theorem Gw_cls : Gw t n (cls t n) := by
  intro s cs hs
  unfold cls
  by_cases q : sgP t n s 41 = true
  · rw [if_pos q]
    obtain ⟨n1, n2, n3⟩ := nx_c hs
    refine ⟨fun s' cs' h => ?_, fun e h => by cases h⟩
    simp -implicitDefEqProofs only [Sum.inl.injEq, Prod.mk.injEq] at h
    obtain ⟨rfl, rfl⟩ := h
    exact ⟨n1, n2, by omega, Nat.le_refl _, fun _ _ => rfl⟩
  · rw [if_neg q]
    exact ⟨fun s' cs' h => (by cases h), fun e h => by cases h; exact hs⟩
theorem Gd_at {o : Option ((Nat → Cs → PR) × (Nat → Cs → PR))} (ho : ∀ f, o = some f → Gd t n f.1 ∧ Gd t n f.2) : Gd t n (atO t n o) := by
  intro s cs hs
  obtain ⟨n1, n2, n3⟩ := nx_c hs
  unfold atO
  by_cases q : wdP t n s 36 = true
  · rw [if_pos q]
    have hl := K_lt hs (by rw [(wd_k q).1]; decide)
    cases o with
    | none => exact ⟨fun s' cs' h => (by cases h), fun e h => by cases h; exact hs⟩
    | some f => exact ⟨fun s' cs' h => Gd_op (ho f rfl).1 hs hl h, fun e h => no_op (ho f rfl).1 hs (fun a b _ e h => by cases h) h⟩
  · rw [if_neg q]
    by_cases q2 : sgP t n s 40 = true
    · rw [if_pos q2]
      have hl := K_lt hs (by rw [(sg_k q2).1]; decide)
      cases o with
      | none => exact ⟨fun s' cs' h => (by cases h), fun e h => by cases h; exact hs⟩
      | some f =>
        obtain ⟨g1, g2⟩ := Gd_b (ho f rfl).2 Gw_cls (nx t n s) cs n1
        refine ⟨fun s' cs' h => ?_, fun e h => g2 e h⟩
        obtain ⟨b1, b2, b3, b4, b5⟩ := g1 s' cs' h
        exact ⟨b1, by omega, by omega, b4, b5⟩
    · rw [if_neg q2]
      exact Gd_b Gd_sum Gw_cmp s cs hs
theorem Gw_wh {w : Nat} {op : Int32} {f : Nat → Cs → PR} (hf : Gd t n f) (m : Nat) : Gw t n (whW t n w op f m) := by
  induction m with
  | zero => exact fun s cs hs => ⟨fun s' cs' h => (by cases h), fun e h => by cases h; exact hs⟩
  | succ m ih =>
    intro s cs hs
    unfold whW
    by_cases q : wdP t n s w = true
    · rw [if_pos q]
      have hl := K_lt hs (by rw [(wd_k q).1]; decide)
      obtain ⟨n1, n2, n3⟩ := nx_c hs
      obtain ⟨n4, -⟩ := n3 hl
      obtain ⟨f1, f2⟩ := hf (nx t n s) cs n1
      cases hr : f (nx t n s) cs with
      | inr e => exact ⟨fun s' cs' h => by simp [bnd] at h, fun e' h => by simp [bnd] at h; subst h; exact f2 e hr⟩
      | inl x =>
        obtain ⟨a1, a2, a3, a4, a5⟩ := f1 x.1 x.2 hr
        obtain ⟨g1, g2⟩ := ih x.1 (x.2 ++ [(op, 0)]) a1
        refine ⟨fun s' cs' h => ?_, fun e h => g2 e h⟩
        obtain ⟨b1, b2, b3, b4, b5⟩ := g1 s' cs' h
        rw [ln_a] at b3 b4 b5
        exact ⟨b1, by omega, by omega, by omega, fun i hi => by rw [b5 i (by omega), gd_a (by omega)]; exact a5 i hi⟩
    · rw [if_neg q]
      refine ⟨fun s' cs' h => ?_, fun e h => by cases h⟩
      simp -implicitDefEqProofs only [Sum.inl.injEq, Prod.mk.injEq] at h
      obtain ⟨rfl, rfl⟩ := h
      exact ⟨hs, Nat.le_refl _, Nat.le_refl _, Nat.le_refl _, fun _ _ => rfl⟩
theorem Gd_sq {w : Nat} {op : Int32} {f : Nat → Cs → PR} (hf : Gd t n f) : Gd t n (sqO t n w op f) := Gd_b hf (Gw_wh hf 401)
theorem Gd_A (q : Nat) : Gd t n (pA t n q) := by
  induction q with
  | zero => exact Gd_at (fun f h => by cases h)
  | succ q ih => exact Gd_at (fun f h => by cases h; exact ⟨ih, Gd_sq (Gd_sq ih)⟩)
theorem Gd_L (q : Nat) : Gd t n (pAl t n q) := Gd_sq (Gd_A q)
theorem Gd_C (q : Nat) : Gd t n (pCo t n q) := Gd_sq (Gd_L q)
end ParseB
