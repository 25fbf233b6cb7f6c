/-! tokens; the class's reading of one -/
section TokB
variable {S : sT} {d c : Nat} {k : Value} {E : List dsc} {A : fA} {L : fL} {T : fT} {W : fW}
def rnP (q : Int32 → Bool) (t : Nat → Int32) : Nat → Nat → Nat
  | 0, p => p
  | m + 1, p => if q (t p) = true then rnP q t m (p + 1) else p
def run (q : Int32 → Bool) (t : Nat → Int32) (n p : Nat) : Nat := rnP q t (n - p) p
theorem rnP_c (q : Int32 → Bool) (t : Nat → Int32) (m p : Nat) : p ≤ rnP q t m p ∧ rnP q t m p ≤ p + m ∧ (∀ i, p ≤ i → i < rnP q t m p → q (t i) = true) ∧ (rnP q t m p < p + m → q (t (rnP q t m p)) = false) := by
  induction m generalizing p with
  | zero => exact ⟨Nat.le_refl _, Nat.le_refl _, fun i h1 h2 => absurd (Nat.lt_of_le_of_lt h1 h2) (Nat.lt_irrefl _), fun h => absurd h (Nat.lt_irrefl _)⟩
  | succ m ih =>
    unfold rnP
    by_cases h : q (t p) = true
    · rw [if_pos h]
      obtain ⟨a1, a2, a3, a4⟩ := ih (p + 1)
      refine ⟨by omega, by omega, fun i h1 h2 => ?_, fun h2 => a4 (by omega)⟩
      by_cases e : i = p
      · rw [e]; exact h
      · exact a3 i (by omega) h2
    · rw [if_neg h]
      exact ⟨Nat.le_refl _, by omega, fun i h1 h2 => absurd (Nat.lt_of_le_of_lt h1 h2) (Nat.lt_irrefl _), fun _ => by simpa using h⟩
theorem run_c (q : Int32 → Bool) (t : Nat → Int32) {n p : Nat} (h : p ≤ n) : p ≤ run q t n p ∧ run q t n p ≤ n ∧ (∀ i, p ≤ i → i < run q t n p → q (t i) = true) ∧ (run q t n p < n → q (t (run q t n p)) = false) := by
  obtain ⟨a1, a2, a3, a4⟩ := rnP_c q t (n - p) p
  exact ⟨a1, by unfold run; omega, a3, fun h2 => a4 (by unfold run at h2; omega)⟩
/-- where a run ends is told by its bounds -/
theorem run_u {q : Int32 → Bool} {t : Nat → Int32} {n p e : Nat} (h1 : p ≤ e) (h2 : e ≤ n) (h3 : ∀ i, p ≤ i → i < e → q (t i) = true) (h4 : e < n → q (t e) = false) : run q t n p = e := by
  obtain ⟨a1, a2, a3, a4⟩ := run_c q t (n := n) (p := p) (by omega)
  rcases Nat.lt_trichotomy (run q t n p) e with h | h | h
  · have := h3 _ a1 h; rw [a4 (by omega)] at this; cases this
  · exact h
  · have := a3 e h1 h; rw [h4 (by omega)] at this; cases this
def isB (x : Int32) : Bool := decide (x = 32)
def isL (x : Int32) : Bool := !decide (x < 97) && !decide (122 < x)
def isD (x : Int32) : Bool := !decide (x < 48) && !decide (57 < x)
/-- the number that so many digits tell -/
def nv (t : Nat → Int32) (s : Nat) : Nat → Int32
  | 0 => 0
  | m + 1 => nv t s m * 10 + t (s + m) - 48
def nvc (t : Nat → Int32) (s m : Nat) : Int32 := if m ≤ 6 then nv t s m else 1000000
/-- a token from a place on: where it begins, its kind, where it ends, what it is -/
def tS (t : Nat → Int32) (n p : Nat) : Nat := run isB t n p
def tK (t : Nat → Int32) (n p : Nat) : Int32 := if n ≤ tS t n p then 0 else if isL (t (tS t n p)) = true then 1 else if isD (t (tS t n p)) = true then 2 else 3
def tE (t : Nat → Int32) (n p : Nat) : Nat := if n ≤ tS t n p then tS t n p else if isL (t (tS t n p)) = true then run isL t n (tS t n p) else if isD (t (tS t n p)) = true then run isD t n (tS t n p) else tS t n p + 1
def tV (t : Nat → Int32) (n p : Nat) : Int32 := if n ≤ tS t n p then 0 else if isL (t (tS t n p)) = true then wdx t (tS t n p) (tE t n p) else if isD (t (tS t n p)) = true then nvc t (tS t n p) (tE t n p - tS t n p) else t (tS t n p)
theorem tS_c {t : Nat → Int32} {n p : Nat} (h : p ≤ n) : p ≤ tS t n p ∧ tS t n p ≤ n := ⟨(run_c isB t h).1, (run_c isB t h).2.1⟩
theorem tE_c {t : Nat → Int32} {n p : Nat} (h : p ≤ n) : tS t n p ≤ tE t n p ∧ tE t n p ≤ n ∧ (tS t n p < n → tS t n p < tE t n p) := by
  obtain ⟨a1, a2⟩ := tS_c (t := t) h
  unfold tE
  by_cases q : n ≤ tS t n p
  · rw [if_pos q]; exact ⟨Nat.le_refl _, a2, fun h => by omega⟩
  · rw [if_neg q]
    by_cases l : isL (t (tS t n p)) = true
    · rw [if_pos l]
      obtain ⟨b1, b2, b3, b4⟩ := run_c isL t (n := n) (p := tS t n p) a2
      refine ⟨b1, b2, fun _ => ?_⟩
      rcases Nat.lt_or_ge (tS t n p) (run isL t n (tS t n p)) with z | z
      · exact z
      · have e : run isL t n (tS t n p) = tS t n p := by omega
        have := b4 (by omega); rw [e, l] at this; cases this
    · rw [if_neg l]
      by_cases g : isD (t (tS t n p)) = true
      · rw [if_pos g]
        obtain ⟨b1, b2, b3, b4⟩ := run_c isD t (n := n) (p := tS t n p) a2
        refine ⟨b1, b2, fun _ => ?_⟩
        rcases Nat.lt_or_ge (tS t n p) (run isD t n (tS t n p)) with z | z
        · exact z
        · have e : run isD t n (tS t n p) = tS t n p := by omega
          have := b4 (by omega); rw [e, g] at this; cases this
      · rw [if_neg g]; exact ⟨by omega, by omega, fun _ => by omega⟩
theorem c_let {x : Int32} {h : pH} : ex S (d + 1) 56 [.int x] h = some (.inl (some (.int (if isL x = true then 1 else 0))), h) := by
  rw [x_X6_isLetter, g_X6_isLetter_0]
  unfold isL
  by_cases h1 : x < 97
  · rw [if_pos h1, q_z0]; simp [h1]
  · rw [if_neg h1]
    by_cases h2 : 122 < x
    · rw [if_pos h2, q_z0]; simp [h2]
    · rw [if_neg h2, q_z1]; simp [h1, h2]
theorem c_dig0 {x : Int32} {h : pH} : ex S (d + 1) 64 [.int x] h = some (.inl (some (.int (if isD x = true then 1 else 0))), h) := by
  rw [x_X6_isDigit, g_X6_isDigit_0]
  unfold isD
  by_cases h1 : x < 48
  · rw [if_pos h1, q_z0]; simp [h1]
  · rw [if_neg h1]
    by_cases h2 : 57 < x
    · rw [if_pos h2, q_z0]; simp [h2]
    · rw [if_neg h2, q_z1]; simp [h1, h2]
theorem len_D : (strByt.getD 2 [] ++ [32] : List Int32).length = 194 ∧ strLen.getD 2 0 = 193 := by
  have := (byt_ok ⟨2, by decide⟩).1
  simp only at this
  have e : strLen.getD 2 0 = 193 := by decide
  rw [List.length_append, this, e]
  exact ⟨rfl, rfl⟩
theorem dr_s {l : List Int32} {f : Nat} (hf : f < l.length) : l.drop f = l.getD f 0 :: l.drop (f + 1) := by
  rw [List.getD_eq_getElem?_getD, List.getElem?_eq_getElem hf]
  exact List.drop_eq_getElem_cons hf
theorem gd_l {a b : List Int32} {f : Nat} (h : f < a.length) : (a ++ b).getD f 0 = a.getD f 0 := by
  simp -implicitDefEqProofs only [List.getD_eq_getElem?_getD]
  rw [List.getElem?_append_left h]
theorem gd_r {a : List Int32} {x : Int32} {m : Nat} (h : a.length = m) : (a ++ [x]).getD m 0 = x := by
  subst h
  simp -implicitDefEqProofs only [List.getD_eq_getElem?_getD]
  rw [List.getElem?_append_right (Nat.le_refl _), Nat.sub_self]
  rfl
theorem c_wf {t : Nat → Int32} {s e : Nat} (ht : ∀ i, i < 400 → A 2 i = t i) (he : e ≤ 400) (hs : s ≤ e) (h4 : A 1 4 = nI e) : ex S (d + 4) 63 [.ref 1, .int (nI s)] (Hh k E A L T) = some (.inl (some (.int (wdx t s e))), Hh k E A L T) := by
  obtain ⟨lD, l193⟩ := len_D
  have len := s_len (S := S) (d := d + 1) (j := 2) (h := Hh k E A L T) (by decide)
  rw [l193] at len
  rw [x_X6_wordFrom, g_X6_wordFrom_0, ← wf_dict hs]
  generalize hD : (strByt.getD 2 [] ++ [32] : List Int32) = D at *
  have hch : ∀ f, f < 193 → ex S (d + 3) 62 [.retAddr 102, .int (nI f)] (Hh k E A L T) = some (.inl (some (.int (D.getD f 0))), Hh k E A L T) := by
    intro f hf
    have := s_chr (S := S) (d := d) (j := 2) (i := f) (h := Hh k E A L T) (by decide) (by rw [l193]; exact hf)
    have e1 : D.getD f 0 = (strByt.getD 2 []).getD f 0 := by
      rw [← hD]
      exact gd_l (by have := (byt_ok ⟨2, by decide⟩).1; simp only at this; rw [this, l193]; exact hf)
    rw [e1]; exact this
  have h193 : D.getD 193 0 = 32 := by
    rw [← hD]
    have := (byt_ok ⟨2, by decide⟩).1
    simp only at this
    exact gd_r (this.trans l193)
  clear hD
  refine loop_QK (K := 2) (α := (Nat × Nat × Bool) × Option Value) (F := fun g f st => bd S (ex S (d + 3)) dflT E_X6_wordFrom g 10 [some (.ref 1), some (.int (nI s)), some (.int (nI st.1.1)), some (.int (nI st.1.2.1)), some (.int (if st.1.2.2 = true then 1 else 0)), some (.int (nI f)), st.2] [] (Hh k E A L T)) (N := 194) (P := fun f st => wf t s e (D.drop f) st.1.1 st.1.2.1 st.1.2.2 = wf t s e D 0 s true ∧ st.1.2.1 ≤ e ∧ st.1.1 ≤ f) (Q := fun r => r = some (.inl (some (.int (wf t s e D 0 s true))), Hh k E A L T)) ?_ ?_ (s := ((0, s, true), none)) ⟨rfl, hs, Nat.le_refl _⟩ (by decide)
  · rintro g f ⟨⟨w, i, sm⟩, o⟩ hf ⟨h1, h2, h3⟩
    simp only at h1 h2 h3
    have k42 : bd S (ex S (d + 3)) dflT E_X6_wordFrom (g + 2) 10 [some (.ref 1), some (.int (nI s)), some (.int (nI w)), some (.int (nI i)), some (.int (if sm = true then 1 else 0)), some (.int (nI f)), o] [] (Hh k E A L T) = bd S (ex S (d + 3)) dflT E_X6_wordFrom (g + 1) 42 [some (.ref 1), some (.int (nI s)), some (.int (nI w)), some (.int (nI i)), some (.int (if sm = true then 1 else 0)), some (.int (nI f)), o] [.int (D.getD f 0)] (Hh k E A L T) := by
      rw [show g + 2 = (g + 1) + 1 from rfl, g_X6_wordFrom_10]
      have len' : ex S (d + 3) 58 [.retAddr 102] (Hh k E A L T) = some (.inl (some (.int (nI 193))), Hh k E A L T) := len
      simp -implicitDefEqProofs only [len', q_Ix, if_neg (show ¬ nI 193 < nI f from nI_nlt (by omega) (by omega))]
      by_cases q : f < 193
      · rw [if_neg (nI_ge q (by decide)), hch f q, q_Ix]
      · have : f = 193 := by omega
        subst this
        rw [if_pos (Int32.le_refl _), h193]
    rw [dr_s (by rw [lD]; exact hf)] at h1
    show _ = _ ∨ _
    rw [k42, g_X6_wordFrom_42]
    have hw : ∀ b : Int32, ∀ r, wf t s e (b :: r) w i sm = if b = 32 then (if sm = true ∧ i = e then nI w else wf t s e r (w + 1) s true) else (if sm = true ∧ i < e ∧ t i = b then wf t s e r w (i + 1) true else wf t s e r w i false) := fun b r => rfl
    rw [hw] at h1
    by_cases q32 : D.getD f 0 = 32
    · rw [if_pos q32] at h1
      rw [if_pos q32]
      cases sm with
      | false =>
        right
        rw [if_neg (fun z => by cases z.1)] at h1
        simp -implicitDefEqProofs only [Bool.false_eq_true, if_false, if_true, nI_p1]
        exact ⟨((w + 1, s, true), _), g, Nat.le_refl _, rfl, h1, hs, show w + 1 ≤ f + 1 by omega⟩
      | true =>
        simp -implicitDefEqProofs only [if_true, i1_0, if_false, hg_1_4, h4]
        by_cases qe : i = e
        · left
          rw [if_pos ⟨rfl, qe⟩] at h1
          rw [if_pos (show nI i = nI e by rw [qe]), ← h1]
        · right
          rw [if_neg (fun z => qe z.2)] at h1
          rw [if_neg (show ¬ nI i = nI e from fun z => qe ((nI_eq (by omega) (by omega)).mp z)), nI_p1, nI_p1]
          exact ⟨((w + 1, s, true), _), g, Nat.le_refl _, rfl, h1, hs, show w + 1 ≤ f + 1 by omega⟩
    · rw [if_neg q32] at h1
      rw [if_neg q32]
      right
      cases sm with
      | false =>
        rw [if_neg (fun z => by cases z.1)] at h1
        simp -implicitDefEqProofs only [Bool.false_eq_true, if_false, if_true, nI_p1]
        exact ⟨((w, i, false), _), g, Nat.le_refl _, rfl, h1, h2, show w ≤ f + 1 by omega⟩
      | true =>
        simp -implicitDefEqProofs only [if_true, i1_0, if_false, hg_1_4, h4]
        by_cases ql : i < e
        · rw [if_neg (nI_ge ql (by omega))]
          simp -implicitDefEqProofs only [hv_1_0, an_2 (show i < 400 by omega), ht i (by omega)]
          by_cases qt : t i = D.getD f 0
          · rw [if_pos ⟨rfl, ql, qt⟩] at h1
            rw [if_pos qt, nI_p1, nI_p1]
            exact ⟨((w, i + 1, true), _), g, Nat.le_refl _, rfl, h1, show i + 1 ≤ e by omega, show w ≤ f + 1 by omega⟩
          · rw [if_neg (fun z => qt z.2.2)] at h1
            rw [if_neg qt, nI_p1]
            exact ⟨((w, i, false), _), g, Nat.le_refl _, rfl, h1, h2, show w ≤ f + 1 by omega⟩
        · rw [if_neg (fun z => ql z.2.1)] at h1
          rw [if_pos (show nI e ≤ nI i by rw [show i = e by omega]; exact Int32.le_refl _), nI_p1]
          exact ⟨((w, i, false), _), g, Nat.le_refl _, rfl, h1, h2, show w ≤ f + 1 by omega⟩
  · rintro g ⟨⟨w, i, sm⟩, o⟩ ⟨h1, h2, h3⟩
    simp only at h1 h2 h3
    rw [List.drop_eq_nil_of_le (by rw [lD]; exact Nat.le_refl _)] at h1
    have len' : ex S (d + 3) 58 [.retAddr 102] (Hh k E A L T) = some (.inl (some (.int (nI 193))), Hh k E A L T) := len
    show _ = _
    rw [show g + 2 = (g + 1) + 1 from rfl, g_X6_wordFrom_10]
    simp -implicitDefEqProofs only [len', q_Ix, if_pos (show nI 193 < nI 194 by decide)]
    rw [← h1]
    rfl
end TokB
