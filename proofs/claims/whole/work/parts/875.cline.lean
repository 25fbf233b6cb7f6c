/-! the class reads a line (laid by gen_cline.py) -/
section CLineB
variable {S : sT} {d c D : Nat} {k : Value} {E : List dsc} {A : fA} {L : fL} {T : fT} {t : Nat → Int32} {n ln : Nat} {v fr : Int32}
theorem c_wr {w : Nat} {x : Int32} (y : Int32) (hy : y = nI w) (h9 : A 1 9 = nI ln) (hl : ln < 16) (hw : w < 6) : ex S (d + 1) 66 [.ref 1, .int y, .int x] (Hh k E A L T) = some (.inl none, Hh k E (up A 3 (6 * ln + w) x) L T) := by
  have e : (6 : Int32) * nI ln + y = nI (6 * ln + w) := by rw [hy, show (6 : Int32) = nI 6 from rfl, nI_mul, nI_add]
  rw [x_X6_write, g_X6_write_0]
  simp -implicitDefEqProofs only [hg_1_9, h9, if_neg (show ¬ (16 : Int32) ≤ nI ln from nI_ge (b := 16) hl (by decide)), hv_1_8, e, sn_3 (show 6 * ln + w < 496 by omega)]
theorem u31 {i : Nat} {x : Int32} : up A 3 i x 1 = A 1 := up_ne (by decide)
theorem CSt_w {s i : Nat} {cs : Cs} {x : Int32} (hi : i < 96) (h : CSt t n A s cs) : CSt t n (up A 3 i x) s cs := by
  obtain ⟨h1, h2, ⟨k1, k2, k3, k4⟩, h4, h5⟩ := h
  refine ⟨⟨fun j hj => ?_, ?_, h1.2.2⟩, h2, ⟨?_, ?_, ?_, ?_⟩, ?_, fun j hj => ?_⟩
  · rw [up_ne (by decide)]; exact h1.1 j hj
  · rw [u31]; exact h1.2.1
  · rw [u31]; exact k1
  · rw [u31]; exact k2
  · rw [u31]; exact k3
  · rw [u31]; exact k4
  · rw [u31]; exact h4
  · rw [up_rr (by omega)]; exact h5 j hj
theorem CSt_11 {s : Nat} {cs : Cs} {x : Int32} (h : CSt t n A s cs) : CSt t n (up A 1 11 x) s cs := by
  obtain ⟨h1, h2, ⟨k1, k2, k3, k4⟩, h4, h5⟩ := h
  refine ⟨⟨fun j hj => ?_, ?_, h1.2.2⟩, h2, ⟨?_, ?_, ?_, ?_⟩, ?_, fun j hj => ?_⟩
  · rw [up_ne (by decide)]; exact h1.1 j hj
  · rw [up_rr (by decide)]; exact h1.2.1
  · rw [up_rr (by decide)]; exact k1
  · rw [up_rr (by decide)]; exact k2
  · rw [up_rr (by decide)]; exact k3
  · rw [up_rr (by decide)]; exact k4
  · rw [up_rr (by decide)]; exact h4
  · rw [up_ne (by decide)]; exact h5 j hj
def CL (ln : Nat) (v fr : Int32) (q : LV) (A : fA) : Prop := A 1 9 = nI ln ∧ A 1 11 = v ∧ A 3 (6 * ln + 0) = v ∧ A 3 (6 * ln + 1) = q.1 ∧ A 3 (6 * ln + 2) = q.2.1 ∧ A 3 (6 * ln + 3) = q.2.2 ∧ A 3 (6 * ln + 4) = fr
def CLn (ln : Nat) (A B : fA) : Prop := (∀ r, r ≠ 1 → r ≠ 3 → B r = A r) ∧ (∀ j, j ≠ 4 → j ≠ 5 → j ≠ 6 → j ≠ 7 → j ≠ 10 → B 1 j = A 1 j) ∧ ∀ i, i < 6 * ln → B 3 i = A 3 i
def sv (w : Nat) (q : LV) (x : Int32) : LV := if w = 1 then (x, q.2.1, q.2.2) else if w = 2 then (q.1, x, q.2.2) else if w = 3 then (q.1, q.2.1, x) else q
theorem CLn_refl : CLn ln A A := ⟨fun _ _ _ => rfl, fun _ _ _ _ _ _ => rfl, fun _ _ => rfl⟩
theorem CLn_tr {B C : fA} (h : CLn ln A B) (g : CLn ln B C) : CLn ln A C := ⟨fun r a b => (g.1 r a b).trans (h.1 r a b), fun j a b c e f => (g.2.1 j a b c e f).trans (h.2.1 j a b c e f), fun i hi => (g.2.2 i hi).trans (h.2.2 i hi)⟩
theorem CLn_F {B : fA} (h : CFr A B) (hl : ln ≤ 16) : CLn ln A B := ⟨h.1, h.2.1, fun i hi => h.2.2 i (by omega)⟩
theorem CLn_w {w : Nat} {x : Int32} : CLn ln A (up A 3 (6 * ln + w) x) := ⟨fun r _ a => up_ne a, fun j _ _ _ _ _ => by rw [u31], fun i hi => up_rr (by omega)⟩
theorem CL_F {B : fA} {q : LV} (h : CFr A B) (hl : ln < 16) (hc : CL ln v fr q A) : CL ln v fr q B := by
  obtain ⟨h1, h2, h3⟩ := h
  obtain ⟨a1, a2, a3, a4, a5, a6, a7⟩ := hc
  exact ⟨by rw [h2 9 (by decide) (by decide) (by decide) (by decide) (by decide)]; exact a1, by rw [h2 11 (by decide) (by decide) (by decide) (by decide) (by decide)]; exact a2, by rw [h3 _ (by omega)]; exact a3, by rw [h3 _ (by omega)]; exact a4, by rw [h3 _ (by omega)]; exact a5, by rw [h3 _ (by omega)]; exact a6, by rw [h3 _ (by omega)]; exact a7⟩
theorem CL_w {w : Nat} {q : LV} {x : Int32} (hw : w = 1 ∨ w = 2 ∨ w = 3) (hc : CL ln v fr q A) : CL ln v fr (sv w q x) (up A 3 (6 * ln + w) x) := by
  obtain ⟨a1, a2, a3, a4, a5, a6, a7⟩ := hc
  rcases hw with rfl | rfl | rfl
  · exact ⟨by rw [u31]; exact a1, by rw [u31]; exact a2, by rw [up_rr (by omega)]; exact a3, up_ii, by rw [up_rr (by omega)]; exact a5, by rw [up_rr (by omega)]; exact a6, by rw [up_rr (by omega)]; exact a7⟩
  · exact ⟨by rw [u31]; exact a1, by rw [u31]; exact a2, by rw [up_rr (by omega)]; exact a3, by rw [up_rr (by omega)]; exact a4, up_ii, by rw [up_rr (by omega)]; exact a6, by rw [up_rr (by omega)]; exact a7⟩
  · exact ⟨by rw [u31]; exact a1, by rw [u31]; exact a2, by rw [up_rr (by omega)]; exact a3, by rw [up_rr (by omega)]; exact a4, by rw [up_rr (by omega)]; exact a5, up_ii, by rw [up_rr (by omega)]; exact a7⟩
theorem c_wn {s w : Nat} {cs : Cs} {x : Int32} (h : CSt t n A s cs) (hl : ln < 16) (hw : w = 1 ∨ w = 2 ∨ w = 3) : ∃ B, ex S (d + 5) 65 [.ref 1] (Hh k E (up A 3 (6 * ln + w) x) L T) = some (.inl none, Hh k E B L T) ∧ CSt t n B (nx t n s) cs ∧ CLn ln A B ∧ ∀ v fr q, CL ln v fr q A → CL ln v fr (sv w q x) B := by
  obtain ⟨B, b1, b2, b3⟩ := c_nx (S := S) (d := d) (k := k) (E := E) (L := L) (T := T) (CSt_w (i := 6 * ln + w) (x := x) (by omega) h)
  exact ⟨B, b1, b2, CLn_tr CLn_w (CLn_F b3 (by omega)), fun v fr q hc => CL_F b3 hl (CL_w hw hc)⟩
/-- what a method does that takes a token, and may write something of the line down -/
def cPr (S : sT) (D : Nat) (k : Value) (E : List dsc) (L : fL) (T : fT) (t : Nat → Int32) (n ln m : Nat) (av : List Value) (w : Nat) (f : Nat → QV) : Prop := ∀ A s cs, CSt t n A s cs → A 1 9 = nI ln → (∃ s' x B, f s = .inl (s', x) ∧ s ≤ s' ∧ ex S D m (.ref 1 :: av) (Hh k E A L T) = some (.inl (some (.int 1)), Hh k E B L T) ∧ CSt t n B s' cs ∧ CLn ln A B ∧ ∀ v fr q, CL ln v fr q A → CL ln v fr (sv w q x) B) ∨ (f s = .inr s ∧ ex S D m (.ref 1 :: av) (Hh k E A L T) = some (.inl (some (.int 0)), Hh k E A L T))
theorem ct_num {hi : Int32} (hl : ln < 16) : cPr S (d + 6) k E L T t n ln 68 [.int hi] 1 (qNum t n hi) := by
  intro A s cs h h9
  obtain ⟨-, hs, ⟨-, -, k3, k4⟩, -, -⟩ := id h
  rw [x_X6_takeNumber, g_X6_takeNumber_0]
  simp -implicitDefEqProofs only [hg_1_6, k3, hg_1_7, k4]
  by_cases q : tK t n s = 2
  · rw [if_pos q]
    by_cases q2 : tV t n s ≤ hi
    · left
      obtain ⟨B, b1, b2, b3, b4⟩ := c_wn (S := S) (d := d) (k := k) (E := E) (L := L) (T := T) (w := 1) (x := tV t n s) h hl (by decide)
      have w1 := c_wr (S := S) (d := d + 4) (k := k) (E := E) (L := L) (T := T) (w := 1) (x := tV t n s) (1 : Int32) rfl h9 hl (by decide)
      rw [if_pos q2]
      simp -implicitDefEqProofs only [hc_1, w1, q_U, b1, q_z1]
      exact ⟨_, _, B, by unfold qNum isNm; rw [if_pos (by simp [q, Int32.not_lt.mpr q2])], (nx_c hs).2.1, rfl, b2, b3, b4⟩
    · right
      rw [if_neg q2, q_z0]
      exact ⟨by unfold qNum isNm; rw [if_neg (by simp [Int32.not_le.mp q2])], rfl⟩
  · right
    rw [if_neg q, q_z0]
    exact ⟨by unfold qNum isNm; rw [if_neg (by simp [q])], rfl⟩
theorem ct_one {lo hi : Int32} (hl : ln < 16) : cPr S (d + 6) k E L T t n ln 72 [.int lo, .int hi] 2 (qOne t n lo hi) := by
  intro A s cs h h9
  obtain ⟨-, hs, ⟨-, -, k3, k4⟩, -, -⟩ := id h
  rw [x_X6_takeOneOf, g_X6_takeOneOf_0]
  simp -implicitDefEqProofs only [hg_1_6, k3, hg_1_7, k4]
  by_cases q : tK t n s = 1
  · rw [if_pos q]
    by_cases q1 : tV t n s < lo
    · right
      rw [if_pos q1, q_z0]
      exact ⟨by unfold qOne iW; rw [if_neg (by simp [q1])], rfl⟩
    · rw [if_neg q1]
      by_cases q2 : tV t n s ≤ hi
      · left
        obtain ⟨B, b1, b2, b3, b4⟩ := c_wn (S := S) (d := d) (k := k) (E := E) (L := L) (T := T) (w := 2) (x := tV t n s) h hl (by decide)
        have w1 := c_wr (S := S) (d := d + 4) (k := k) (E := E) (L := L) (T := T) (w := 2) (x := tV t n s) (2 : Int32) rfl h9 hl (by decide)
        rw [if_pos q2]
        simp -implicitDefEqProofs only [hc_1, w1, q_U, b1, q_z1]
        exact ⟨_, _, B, by unfold qOne iW; rw [if_pos (by simp [q, q1, Int32.not_lt.mpr q2])], (nx_c hs).2.1, rfl, b2, b3, b4⟩
      · right
        rw [if_neg q2, q_z0]
        exact ⟨by unfold qOne iW; rw [if_neg (by simp [Int32.not_le.mp q2])], rfl⟩
  · right
    rw [if_neg q, q_z0]
    exact ⟨by unfold qOne iW; rw [if_neg (by simp [q])], rfl⟩
theorem c_wd {j : Nat} (hl : ln < 16) : cPr S (d + 6) k E L T t n ln 70 [.int (nI j)] 0 (qWd t n j) := by
  intro A s cs h h9
  have hs := h.2.1
  have iw := c_isW (S := S) (d := d + 4) (k := k) (E := E) (L := L) (T := T) (j := j) h
  rw [x_X6_takeWord, g_X6_takeWord_0]
  simp -implicitDefEqProofs only [hc_1, iw, q_I]
  by_cases q : wdP t n s j = true
  · left
    obtain ⟨B, b1, b2, b3⟩ := c_nx (S := S) (d := d) (k := k) (E := E) (L := L) (T := T) h
    rw [if_pos q, if_neg (by decide)]
    simp -implicitDefEqProofs only [hc_1, b1, q_U, q_z1]
    exact ⟨_, _, B, by unfold qWd; rw [if_pos q], (nx_c hs).2.1, rfl, b2, CLn_F b3 (by omega), fun v fr q hc => CL_F b3 hl hc⟩
  · right
    rw [if_neg q, if_pos rfl, q_z0]
    exact ⟨by unfold qWd; rw [if_neg q], rfl⟩
theorem c_crop {w : Nat} (y : Int32) (hy : y = nI w) (hw : w = 1 ∨ w = 2 ∨ w = 3) (hl : ln < 16) : cPr S (d + 6) k E L T t n ln 71 [.int y] w (qCr t n) := by
  intro A s cs h h9
  obtain ⟨-, hs, ⟨-, -, k3, k4⟩, -, -⟩ := id h
  have iw : ex S (d + 5) 69 [.ref 1, .int 11] (Hh k E A L T) = _ := c_isW (S := S) (d := d + 4) (k := k) (E := E) (L := L) (T := T) (j := 11) h
  have go : ∀ x, ∃ B, (rC (Hh k E A L T) (.ref 1) 9 (cU (ex S (d + 5) 66 [.ref 1, .int y, .int x] (Hh k E A L T)) (fun h2 => rC h2 (.ref 1) 9 (cU (ex S (d + 5) 65 [.ref 1] h2) (fun h3 => zR 1 (some (.inl (some (.int 1)), h3))))))) = some (.inl (some (.int 1)), Hh k E B L T) ∧ CSt t n B (nx t n s) cs ∧ CLn ln A B ∧ ∀ v fr q, CL ln v fr q A → CL ln v fr (sv w q x) B := by
    intro x
    obtain ⟨B, b1, b2, b3, b4⟩ := c_wn (S := S) (d := d) (k := k) (E := E) (L := L) (T := T) (w := w) (x := x) h hl hw
    have w1 := c_wr (S := S) (d := d + 4) (k := k) (E := E) (L := L) (T := T) (w := w) (x := x) y hy h9 hl (by omega)
    simp -implicitDefEqProofs only [hc_1, w1, q_U, b1, q_z1]
    exact ⟨B, rfl, b2, b3, b4⟩
  rw [x_X6_takeCrop, g_X6_takeCrop_0]
  simp -implicitDefEqProofs only [hc_1, iw, q_I]
  by_cases q : wdP t n s 11 = true
  · left
    rw [if_pos q, if_neg (by decide), g_X6_takeCrop_37, if_neg (by decide)]
    obtain ⟨B, b1, b2, b3, b4⟩ := go 5
    exact ⟨_, _, B, by unfold qCr; rw [if_pos q], (nx_c hs).2.1, b1, b2, b3, b4⟩
  · rw [if_neg q, if_pos rfl]
    simp -implicitDefEqProofs only [hg_1_6, k3, hg_1_7, k4]
    by_cases q1 : tK t n s = 1
    · rw [if_pos q1]
      by_cases q2 : tV t n s < 1
      · right
        rw [if_pos q2, q_z0]
        exact ⟨by unfold qCr iW; rw [if_neg q, if_neg (by simp [q2])], rfl⟩
      · rw [if_neg q2]
        by_cases q3 : tV t n s ≤ 4
        · left
          rw [if_pos q3, g_X6_takeCrop_37, if_pos rfl]
          simp -implicitDefEqProofs only [hg_1_7, k4]
          obtain ⟨B, b1, b2, b3, b4⟩ := go (tV t n s)
          exact ⟨_, _, B, by unfold qCr iW; rw [if_neg q, if_pos (by simp [q1, q2, Int32.not_lt.mpr q3])], (nx_c hs).2.1, b1, b2, b3, b4⟩
        · right
          rw [if_neg q3, q_z0]
          exact ⟨by unfold qCr iW; rw [if_neg q, if_neg (by simp [Int32.not_le.mp q3])], rfl⟩
    · right
      rw [if_neg q1, q_z0]
      exact ⟨by unfold qCr iW; rw [if_neg q, if_neg (by simp [q1])], rfl⟩
theorem c_if : cSim S (d + 28) k E L T t n 80 [] (qIf t n false) := by
  intro A s cs h hl
  have hs := h.2.1
  have iw : ex S (d + 27) 69 [.ref 1, .int 31] (Hh k E A L T) = _ := c_isW (S := S) (d := d + 26) (k := k) (E := E) (L := L) (T := T) (j := 31) h
  rw [x_X6_takeIf, g_X6_takeIf_0]
  simp -implicitDefEqProofs only [hc_1, iw, q_I]
  unfold qIf
  by_cases q : wdP t n s 31 = true
  · obtain ⟨B, b1, b2, b3⟩ := c_nx (S := S) (d := d + 22) (k := k) (E := E) (L := L) (T := T) h
    obtain ⟨C, b, c1, c2, c3⟩ := c_cond (S := S) (d := d) (k := k) (E := E) (L := L) (T := T) B (nx t n s) cs b2 (by have := (nx_c hs).2.1; omega)
    rw [if_pos q, if_neg (by decide), if_pos q]
    simp -implicitDefEqProofs only [hc_1, b1, q_U, c1, q_I]
    rcases c3 with ⟨s', cs', r1, rfl, r3⟩ | ⟨e, r1, rfl, r3⟩
    · exact ⟨C, 1, q_z1, CFr_tr b3 c2, Or.inl ⟨s', cs', r1, rfl, r3⟩⟩
    · exact ⟨C, 0, q_z0, CFr_tr b3 c2, Or.inr ⟨e, r1, rfl, r3⟩⟩
  · rw [if_neg q, if_pos rfl, q_z1, if_neg q, if_neg (by decide)]
    exact ⟨A, 1, rfl, CFr_refl, Or.inl ⟨s, cs, rfl, rfl, h⟩⟩
/-- what the rest of a line comes to -/
def cRo (k : Value) (E : List dsc) (L : fL) (T : fT) (t : Nat → Int32) (n ln : Nat) (v fr : Int32) (A : fA) (r : LR) (o : rO) : Prop := ∃ B b, o = some (.inl (some (.int b)), Hh k E B L T) ∧ CLn ln A B ∧ ((∃ s' cs' q, r = .inl (s', cs', q) ∧ b = 1 ∧ CSt t n B s' cs' ∧ CL ln v fr q B) ∨ ∃ e, r = .inr e ∧ b = 0 ∧ FlC B e)
theorem ct_step {m w s : Nat} {av : List Value} {f : Nat → QV} {κ : pH → rO} {g : Nat → Int32 → LR} {cs : Cs} {q : LV} (hp : cPr S D k E L T t n ln m av w f) (h : CSt t n A s cs) (h4 : cs.length ≤ 400) (hc : CL ln v fr q A) (hk : ∀ B s' x, s ≤ s' → CSt t n B s' cs → CL ln v fr (sv w q x) B → cRo k E L T t n ln v fr B (g s' x) (κ (Hh k E B L T))) : cRo k E L T t n ln v fr A (bq (f s) g) (rC (Hh k E A L T) (.ref 1) 9 (cI (ex S D m (.ref 1 :: av) (Hh k E A L T)) (fun y h1 => if y = 0 then zR 0 (some (.inl (some (.int 0)), h1)) else κ h1))) := by
  rcases hp A s cs h hc.1 with ⟨s', x, B, e1, e2, e3, e4, e5, e6⟩ | ⟨e1, e2⟩
  · rw [hc_1, e3, q_I, if_neg (by decide), e1]
    obtain ⟨C, b, r1, r2, r3⟩ := hk B s' x e2 e4 (e6 v fr q hc)
    exact ⟨C, b, r1, CLn_tr e5 r2, r3⟩
  · rw [hc_1, e2, q_I, if_pos rfl, q_z0, e1]
    exact ⟨A, 0, rfl, CLn_refl, Or.inr ⟨s, rfl, rfl, Fl_of h h4⟩⟩
theorem c_done {s : Nat} {cs : Cs} {q : LV} (h : CSt t n A s cs) (hc : CL ln v fr q A) : cRo k E L T t n ln v fr A (.inl (s, cs, q)) (zR 1 (some (.inl (some (.int 1)), Hh k E A L T))) := ⟨A, 1, q_z1, CLn_refl, Or.inl ⟨s, cs, q, rfl, rfl, h, hc⟩⟩
theorem c_last {m w s : Nat} {av : List Value} {f : Nat → QV} {cs : Cs} {q : LV} (hp : cPr S D k E L T t n ln m av w f) (h : CSt t n A s cs) (h4 : cs.length ≤ 400) (hc : CL ln v fr q A) : cRo k E L T t n ln v fr A (bq (f s) (fun s1 x => .inl (s1, cs, sv w q x))) (rC (Hh k E A L T) (.ref 1) 9 (cI (ex S D m (.ref 1 :: av) (Hh k E A L T)) (fun y h1 => zR y (some (.inl (some (.int y)), h1))))) := by
  rcases hp A s cs h hc.1 with ⟨s', x, B, e1, e2, e3, e4, e5, e6⟩ | ⟨e1, e2⟩
  · rw [hc_1, e3, q_I, q_z1, e1]
    exact ⟨B, 1, rfl, e5, Or.inl ⟨s', cs, _, rfl, rfl, e4, e6 v fr q hc⟩⟩
  · rw [hc_1, e2, q_I, q_z0, e1]
    exact ⟨A, 0, rfl, CLn_refl, Or.inr ⟨s, rfl, rfl, Fl_of h h4⟩⟩
theorem c_iff {s : Nat} {cs : Cs} {q : LV} (h : CSt t n A s cs) (hl : cs.length ≤ s) (hn : ln < 16) (hc : CL ln v fr q A) : cRo k E L T t n ln v fr A (bi (qIf t n false s cs) q) (rC (Hh k E A L T) (.ref 1) 9 (cI (ex S (d + 28) 80 [.ref 1] (Hh k E A L T)) (fun y h1 => if y = 0 then zR 0 (some (.inl (some (.int 0)), h1)) else zR 1 (some (.inl (some (.int 1)), h1))))) := by
  obtain ⟨C, b, c1, c2, c3⟩ := c_if (S := S) (d := d) (k := k) (E := E) (L := L) (T := T) A s cs h hl
  rw [hc_1, c1, q_I]
  rcases c3 with ⟨s', cs', r1, rfl, r3⟩ | ⟨e, r1, rfl, r3⟩
  · rw [if_neg (by decide), q_z1, r1]
    exact ⟨C, 1, rfl, CLn_F c2 (by omega), Or.inl ⟨s', cs', q, rfl, rfl, r3, CL_F c2 hn hc⟩⟩
  · rw [if_pos rfl, q_z0, r1]
    exact ⟨C, 0, rfl, CLn_F c2 (by omega), Or.inr ⟨e, rfl, rfl, r3⟩⟩
theorem c_ifz {s : Nat} {cs : Cs} {q : LV} (h : CSt t n A s cs) (hl : cs.length ≤ s) (hn : ln < 16) (hc : CL ln v fr q A) : cRo k E L T t n ln v fr A (bi (qIf t n false s cs) q) (rC (Hh k E A L T) (.ref 1) 9 (cI (ex S (d + 28) 80 [.ref 1] (Hh k E A L T)) (fun y h1 => zR y (some (.inl (some (.int y)), h1))))) := by
  obtain ⟨C, b, c1, c2, c3⟩ := c_if (S := S) (d := d) (k := k) (E := E) (L := L) (T := T) A s cs h hl
  rw [hc_1, c1, q_I]
  rcases c3 with ⟨s', cs', r1, rfl, r3⟩ | ⟨e, r1, rfl, r3⟩
  · rw [q_z1, r1]
    exact ⟨C, 1, rfl, CLn_F c2 (by omega), Or.inl ⟨s', cs', q, rfl, rfl, r3, CL_F c2 hn hc⟩⟩
  · rw [q_z0, r1]
    exact ⟨C, 0, rfl, CLn_F c2 (by omega), Or.inr ⟨e, rfl, rfl, r3⟩⟩
theorem c_must {s : Nat} {cs : Cs} {q : LV} (h : CSt t n A s cs) (hl : cs.length ≤ s) (h4 : cs.length ≤ 400) (hn : ln < 16) (hc : CL ln v fr q A) : cRo k E L T t n ln v fr A (bi (qIf t n true s cs) q) (rC (Hh k E A L T) (.ref 1) 9 (cI (ex S (d + 28) 69 [.ref 1, .int 31] (Hh k E A L T)) (fun y h1 => if y = 0 then zR 0 (some (.inl (some (.int 0)), h1)) else rC h1 (.ref 1) 9 (cI (ex S (d + 28) 80 [.ref 1] h1) (fun y h1 => if y = 0 then zR 0 (some (.inl (some (.int 0)), h1)) else zR 1 (some (.inl (some (.int 1)), h1))))))) := by
  have iw : ex S (d + 28) 69 [.ref 1, .int 31] (Hh k E A L T) = _ := c_isW (S := S) (d := d + 27) (k := k) (E := E) (L := L) (T := T) (j := 31) h
  rw [hc_1, iw, q_I]
  by_cases z : wdP t n s 31 = true
  · rw [if_pos z, if_neg (by decide)]
    have e : qIf t n true s cs = qIf t n false s cs := by unfold qIf; rw [if_pos z, if_pos z]
    rw [e]
    exact c_iff h hl hn hc
  · rw [if_neg z, if_pos rfl, q_z0]
    have e : qIf t n true s cs = .inr s := by unfold qIf; rw [if_neg z, if_pos rfl]
    rw [e]
    exact ⟨A, 0, rfl, CLn_refl, Or.inr ⟨s, rfl, rfl, Fl_of h h4⟩⟩
def cRs (S : sT) (D : Nat) (k : Value) (E : List dsc) (L : fL) (T : fT) (t : Nat → Int32) (n ln m v : Nat) : Prop := ∀ A s cs fr, CSt t n A s cs → cs.length ≤ s → CL ln (nI v) fr (0, 0, 0) A → cRo k E L T t n ln (nI v) fr A (rst t n v s cs) (ex S D m [.ref 1] (Hh k E A L T))
theorem cr_24 (hl : ln < 16) : cRs S (d + 29) k E L T t n ln 81 24 := by
  intro A s cs fr h hls hc
  have e : A 1 11 = (24 : Int32) := hc.2.1
  have h400 : cs.length ≤ 400 := by have := h.2.1.1; have := h.1.2.2; omega
  show cRo k E L T t n ln (nI 24) fr A (sHN t n 999999 (some false) s cs) _
  rw [x_X6_takeRestOfLease, g_X6_takeRestOfLease_0]
  simp -implicitDefEqProofs only [hg_1_11, e]
  repeat rw [if_neg (by decide)]
  try rw [if_pos rfl]
  rw [g_X6_takeRestOfLease_171]
  exact ct_step (ct_num (d := d + 22) hl) h h400 hc (fun B s1 x hs hB hcB => c_iff hB (by omega) hl hcB)
theorem cr_28 (hl : ln < 16) : cRs S (d + 29) k E L T t n ln 81 28 := by
  intro A s cs fr h hls hc
  have e : A 1 11 = (28 : Int32) := hc.2.1
  have h400 : cs.length ≤ 400 := by have := h.2.1.1; have := h.1.2.2; omega
  show cRo k E L T t n ln (nI 28) fr A (sHN t n 999999 (some false) s cs) _
  rw [x_X6_takeRestOfLease, g_X6_takeRestOfLease_0]
  simp -implicitDefEqProofs only [hg_1_11, e]
  repeat rw [if_neg (by decide)]
  try rw [if_pos rfl]
  rw [g_X6_takeRestOfLease_171]
  exact ct_step (ct_num (d := d + 22) hl) h h400 hc (fun B s1 x hs hB hcB => c_iff hB (by omega) hl hcB)
theorem cr_25 (hl : ln < 16) : cRs S (d + 29) k E L T t n ln 81 25 := by
  intro A s cs fr h hls hc
  have e : A 1 11 = (25 : Int32) := hc.2.1
  have h400 : cs.length ≤ 400 := by have := h.2.1.1; have := h.1.2.2; omega
  show cRo k E L T t n ln (nI 25) fr A (shE t n s cs) _
  rw [x_X6_takeRestOfLease, g_X6_takeRestOfLease_0]
  simp -implicitDefEqProofs only [hg_1_11, e]
  repeat rw [if_neg (by decide)]
  try rw [if_pos rfl]
  rw [g_X6_takeRestOfLease_44]
  refine ct_step (ct_num (d := d + 22) hl) h h400 hc (fun B s1 x hs hB hcB => ?_)
  refine ct_step (c_wd (d := d + 22) (j := 32) hl) hB h400 hcB (fun B2 s2 x2 hs2 hB2 hcB2 => ?_)
  exact ct_step (c_crop (d := d + 22) (w := 2) 2 rfl (by decide) hl) hB2 h400 hcB2 (fun B3 s3 x3 hs3 hB3 hcB3 => c_done hB3 hcB3)
theorem cr_26 (hl : ln < 16) : cRs S (d + 29) k E L T t n ln 81 26 := by
  intro A s cs fr h hls hc
  have e : A 1 11 = (26 : Int32) := hc.2.1
  have h400 : cs.length ≤ 400 := by have := h.2.1.1; have := h.1.2.2; omega
  show cRo k E L T t n ln (nI 26) fr A (shF t n s cs) _
  rw [x_X6_takeRestOfLease, g_X6_takeRestOfLease_0]
  simp -implicitDefEqProofs only [hg_1_11, e]
  repeat rw [if_neg (by decide)]
  try rw [if_pos rfl]
  rw [g_X6_takeRestOfLease_76]
  refine ct_step (c_crop (d := d + 22) (w := 2) 2 rfl (by decide) hl) h h400 hc (fun B s1 x hs hB hcB => ?_)
  refine ct_step (c_wd (d := d + 22) (j := 33) hl) hB h400 hcB (fun B2 s2 x2 hs2 hB2 hcB2 => ?_)
  exact ct_step (c_crop (d := d + 22) (w := 3) 3 rfl (by decide) hl) hB2 h400 hcB2 (fun B3 s3 x3 hs3 hB3 hcB3 => c_done hB3 hcB3)
theorem cr_27 (hl : ln < 16) : cRs S (d + 29) k E L T t n ln 81 27 := by
  intro A s cs fr h hls hc
  have e : A 1 11 = (27 : Int32) := hc.2.1
  have h400 : cs.length ≤ 400 := by have := h.2.1.1; have := h.1.2.2; omega
  show cRo k E L T t n ln (nI 27) fr A (shC t n 12 13 999999 s cs) _
  rw [x_X6_takeRestOfLease, g_X6_takeRestOfLease_0]
  simp -implicitDefEqProofs only [hg_1_11, e]
  repeat rw [if_neg (by decide)]
  try rw [if_pos rfl]
  rw [g_X6_takeRestOfLease_107]
  refine ct_step (ct_one (d := d + 22) hl) h h400 hc (fun B s1 x hs hB hcB => ?_)
  exact ct_step (ct_num (d := d + 22) hl) hB h400 hcB (fun B2 s2 x2 hs2 hB2 hcB2 => c_done hB2 hcB2)
theorem cr_29 (hl : ln < 16) : cRs S (d + 29) k E L T t n ln 81 29 := by
  intro A s cs fr h hls hc
  have e : A 1 11 = (29 : Int32) := hc.2.1
  have h400 : cs.length ≤ 400 := by have := h.2.1.1; have := h.1.2.2; omega
  show cRo k E L T t n ln (nI 29) fr A (sHN t n 100 (some true) s cs) _
  rw [x_X6_takeRestOfLease, g_X6_takeRestOfLease_0]
  simp -implicitDefEqProofs only [hg_1_11, e]
  repeat rw [if_neg (by decide)]
  try rw [if_pos rfl]
  rw [g_X6_takeRestOfLease_133]
  exact ct_step (ct_num (d := d + 22) hl) h h400 hc (fun B s1 x hs hB hcB => c_must hB (by omega) h400 hl hcB)
theorem cr_30 (hl : ln < 16) : cRs S (d + 29) k E L T t n ln 81 30 := by
  intro A s cs fr h hls hc
  have e : A 1 11 = (30 : Int32) := hc.2.1
  have h400 : cs.length ≤ 400 := by have := h.2.1.1; have := h.1.2.2; omega
  show cRo k E L T t n ln (nI 30) fr A (sHN t n 100 none s cs) _
  rw [x_X6_takeRestOfLease, g_X6_takeRestOfLease_0]
  simp -implicitDefEqProofs only [hg_1_11, e]
  repeat rw [if_neg (by decide)]
  try rw [if_pos rfl]
  rw [g_X6_takeRestOfLease_164]
  exact c_last (ct_num (d := d + 22) hl) h h400 hc
theorem cr_17 (hl : ln < 16) : cRs S (d + 29) k E L T t n ln 82 17 := by
  intro A s cs fr h hls hc
  have e : A 1 11 = (17 : Int32) := hc.2.1
  have h400 : cs.length ≤ 400 := by have := h.2.1.1; have := h.1.2.2; omega
  show cRo k E L T t n ln (nI 17) fr A (sHN t n 999999 none s cs) _
  rw [x_X6_takeRestOfAct, g_X6_takeRestOfAct_0]
  simp -implicitDefEqProofs only [hg_1_11, e]
  repeat rw [if_neg (by decide)]
  try rw [if_pos rfl]
  rw [g_X6_takeRestOfAct_106]
  exact c_last (ct_num (d := d + 22) hl) h h400 hc
theorem cr_19 (hl : ln < 16) : cRs S (d + 29) k E L T t n ln 82 19 := by
  intro A s cs fr h hls hc
  have e : A 1 11 = (19 : Int32) := hc.2.1
  have h400 : cs.length ≤ 400 := by have := h.2.1.1; have := h.1.2.2; omega
  show cRo k E L T t n ln (nI 19) fr A (sHN t n 999999 none s cs) _
  rw [x_X6_takeRestOfAct, g_X6_takeRestOfAct_0]
  simp -implicitDefEqProofs only [hg_1_11, e]
  repeat rw [if_neg (by decide)]
  try rw [if_pos rfl]
  rw [g_X6_takeRestOfAct_106]
  exact c_last (ct_num (d := d + 22) hl) h h400 hc
theorem cr_18 (hl : ln < 16) : cRs S (d + 29) k E L T t n ln 82 18 := by
  intro A s cs fr h hls hc
  have e : A 1 11 = (18 : Int32) := hc.2.1
  have h400 : cs.length ≤ 400 := by have := h.2.1.1; have := h.1.2.2; omega
  show cRo k E L T t n ln (nI 18) fr A (shI t n s cs) _
  rw [x_X6_takeRestOfAct, g_X6_takeRestOfAct_0]
  simp -implicitDefEqProofs only [hg_1_11, e]
  repeat rw [if_neg (by decide)]
  try rw [if_pos rfl]
  rw [g_X6_takeRestOfAct_44]
  exact c_ifz h hls hl hc
theorem cr_20 (hl : ln < 16) : cRs S (d + 29) k E L T t n ln 82 20 := by
  intro A s cs fr h hls hc
  have e : A 1 11 = (20 : Int32) := hc.2.1
  have h400 : cs.length ≤ 400 := by have := h.2.1.1; have := h.1.2.2; omega
  show cRo k E L T t n ln (nI 20) fr A (shI t n s cs) _
  rw [x_X6_takeRestOfAct, g_X6_takeRestOfAct_0]
  simp -implicitDefEqProofs only [hg_1_11, e]
  repeat rw [if_neg (by decide)]
  try rw [if_pos rfl]
  rw [g_X6_takeRestOfAct_44]
  exact c_ifz h hls hl hc
theorem cr_21 (hl : ln < 16) : cRs S (d + 29) k E L T t n ln 82 21 := by
  intro A s cs fr h hls hc
  have e : A 1 11 = (21 : Int32) := hc.2.1
  have h400 : cs.length ≤ 400 := by have := h.2.1.1; have := h.1.2.2; omega
  show cRo k E L T t n ln (nI 21) fr A (shC t n 12 16 100 s cs) _
  rw [x_X6_takeRestOfAct, g_X6_takeRestOfAct_0]
  simp -implicitDefEqProofs only [hg_1_11, e]
  repeat rw [if_neg (by decide)]
  try rw [if_pos rfl]
  rw [g_X6_takeRestOfAct_49]
  refine ct_step (ct_one (d := d + 22) hl) h h400 hc (fun B s1 x hs hB hcB => ?_)
  exact ct_step (ct_num (d := d + 22) hl) hB h400 hcB (fun B2 s2 x2 hs2 hB2 hcB2 => c_done hB2 hcB2)
theorem cr_22 (hl : ln < 16) : cRs S (d + 29) k E L T t n ln 82 22 := by
  intro A s cs fr h hls hc
  have e : A 1 11 = (22 : Int32) := hc.2.1
  have h400 : cs.length ≤ 400 := by have := h.2.1.1; have := h.1.2.2; omega
  show cRo k E L T t n ln (nI 22) fr A (sHN t n 999999 (some false) s cs) _
  rw [x_X6_takeRestOfAct, g_X6_takeRestOfAct_0]
  simp -implicitDefEqProofs only [hg_1_11, e]
  repeat rw [if_neg (by decide)]
  try rw [if_pos rfl]
  rw [g_X6_takeRestOfAct_75]
  exact ct_step (ct_num (d := d + 22) hl) h h400 hc (fun B s1 x hs hB hcB => c_iff hB (by omega) hl hcB)
theorem cr_23 (hl : ln < 16) : cRs S (d + 29) k E L T t n ln 82 23 := by
  intro A s cs fr h hls hc
  have e : A 1 11 = (23 : Int32) := hc.2.1
  have h400 : cs.length ≤ 400 := by have := h.2.1.1; have := h.1.2.2; omega
  show cRo k E L T t n ln (nI 23) fr A (shD t n s cs) _
  rw [x_X6_takeRestOfAct, g_X6_takeRestOfAct_0]
  simp -implicitDefEqProofs only [hg_1_11, e]
  repeat rw [if_neg (by decide)]
  try rw [if_pos rfl]
  rw [g_X6_takeRestOfAct_97]
  exact c_last (ct_one (d := d + 22) hl) h h400 hc
end CLineB
