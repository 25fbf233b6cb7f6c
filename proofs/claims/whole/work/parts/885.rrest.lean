/-! the reference reads the rest of a line (laid by gen_rrest.py) -/
section RRestB
variable {S : sT} {d c D : Nat} {k : Value} {E : List dsc} {A : fA} {L : fL} {T : fT} {t : Nat → Int32} {n ln v : Nat} {x0 x4 x5 : Int32}
def oR (v : Nat) (q q' : LV) : Prop := q'.1 = q.1 ∧ ((v = 25 ∨ v = 26) → q'.2.1 = q.2.1) ∧ ((v = 27 ∨ v = 21) → q'.2.1 = q.2.1 - 12) ∧ (v = 23 → q'.2.1 = q.2.1 - 7) ∧ (v = 26 → q'.2.2 = q.2.2)
def rRo (k : Value) (E : List dsc) (L : fL) (T : fT) (t : Nat → Int32) (n ln v : Nat) (x0 x4 : Int32) (A : fA) (r : LR) (o : rO) : Prop := ∃ B b, o = some (.inl (some (.int b)), Hh k E B L T) ∧ RLn ln A B ∧ ((∃ s' cs' q q', r = .inl (s', cs', q) ∧ b = 1 ∧ RSt t n B s' cs' ∧ RXl ln x0 x4 q' (nI cs'.length) B ∧ oR v q q') ∨ ∃ e, r = .inr e ∧ b = 0 ∧ B 39 8 = nI e)
theorem rRo_F {B : fA} {r : LR} {o : rO} (h : RLn ln A B) (g : rRo k E L T t n ln v x0 x4 B r o) : rRo k E L T t n ln v x0 x4 A r o := by
  obtain ⟨C, b, c1, c2, c3⟩ := g
  exact ⟨C, b, c1, RLn_tr h c2, c3⟩
theorem rt_step {m w s : Nat} {av : List Value} {f : Nat → QV} {κ : pH → rO} {g : Nat → Int32 → LR} {cs : Cs} {q : LV} (hp : rPr S D k E L T t n ln m av w f) (h : RSt t n A s cs) (hc : RXl ln x0 x4 q x5 A) (hk : ∀ B s' x, s ≤ s' → RSt t n B s' cs → RXl ln x0 x4 (sv w q x) x5 B → rRo k E L T t n ln v x0 x4 B (g s' x) (κ (Hh k E B L T))) : rRo k E L T t n ln v x0 x4 A (bq (f s) g) (rC (Hh k E A L T) (.ref 39) 15 (cI (ex S D m (.ref 39 :: av) (Hh k E A L T)) (fun y h1 => if y = 0 then zR 0 (some (.inl (some (.int 0)), h1)) else κ h1))) := by
  rcases hp A s cs h with ⟨s', x, B, e1, e2, e3, e4, e5, e6⟩ | ⟨B, e1, e2, e3, e4⟩
  · rw [hc_39, e3, q_I, if_neg (by decide), e1]
    exact rRo_F e5 (hk B s' x e2 e4 (e6 x0 x4 q x5 hc))
  · rw [hc_39, e2, q_I, if_pos rfl, q_z0, e1]
    exact ⟨B, 0, rfl, e3, Or.inr ⟨s, rfl, rfl, e4⟩⟩
theorem r_done {s : Nat} {cs : Cs} {q q' : LV} (h : RSt t n A s cs) (hc : RXl ln x0 x4 q' (nI cs.length) A) (ho : oR v q q') : rRo k E L T t n ln v x0 x4 A (.inl (s, cs, q)) (zR 1 (some (.inl (some (.int 1)), Hh k E A L T))) := ⟨A, 1, q_z1, RLn_refl, Or.inl ⟨s, cs, q, q', rfl, rfl, h, hc, ho⟩⟩
theorem r_last {m w s : Nat} {av : List Value} {f : Nat → QV} {cs : Cs} {q q0 : LV} (hp : rPr S D k E L T t n ln m av w f) (h : RSt t n A s cs) (hc : RXl ln x0 x4 q (nI cs.length) A) (ho : ∀ x, oR v (sv w q0 x) (sv w q x)) : rRo k E L T t n ln v x0 x4 A (bq (f s) (fun s1 x => .inl (s1, cs, sv w q0 x))) (rC (Hh k E A L T) (.ref 39) 15 (cI (ex S D m (.ref 39 :: av) (Hh k E A L T)) (fun y h1 => zR y (some (.inl (some (.int y)), h1))))) := by
  rcases hp A s cs h with ⟨s', x, B, e1, e2, e3, e4, e5, e6⟩ | ⟨B, e1, e2, e3, e4⟩
  · rw [hc_39, e3, q_I, q_z1, e1]
    exact ⟨B, 1, rfl, e5, Or.inl ⟨s', cs, _, _, rfl, rfl, e4, e6 x0 x4 q _ hc, ho x⟩⟩
  · rw [hc_39, e2, q_I, q_z0, e1]
    exact ⟨B, 0, rfl, e3, Or.inr ⟨s, rfl, rfl, e4⟩⟩
/-- a word's number is written down, and looked at -/
theorem r_st2 {B : fA} {w s : Nat} {y off z : Int32} {f : Nat → QV} {κ : pH → rO} {g : Nat → Int32 → LR} {cs : Cs} {q : LV} (hz : z = nI w) (hw : w = 1 ∨ w = 2 ∨ w = 3) (hl : ln < 16) (hc : RXl ln x0 x4 q x5 A) (ry : Ry A B) (h8 : B 39 8 = nI s) (alt : (∃ s' x, f s = .inl (s', x) ∧ s ≤ s' ∧ y = x - off ∧ ¬ y < 0 ∧ RSt t n B s' cs) ∨ (f s = .inr s ∧ y < 0)) (hk : ∀ B s' x, s ≤ s' → RSt t n B s' cs → RXl ln x0 x4 (sv w q (x - off)) x5 B → rRo k E L T t n ln v x0 x4 B (g s' x) (κ (Hh k E B L T))) : rRo k E L T t n ln v x0 x4 A (bq (f s) g) (sI (Hh k E B L T) (.ref 40) 0 (nI (34981 + 6 * ln) + z) y (fun h4 => gV h4 (.ref 39) 15 1 (fun w5 => aI h4 w5 0 (nI (34981 + 6 * ln) + z) (fun y6 => if y6 < 0 then zR 0 (some (.inl (some (.int 0)), h4)) else κ h4)))) := by
  have hb : 34981 + 6 * ln + w < 35877 := by omega
  rw [hz, nI_add, sn_40 hb, hv_39_1, an_40 hb, up_ii]
  have fr : RLn ln A (up B 40 (34981 + 6 * ln + w) y) := RLn_tr (RLn_R ry (by omega)) RLn_w
  rcases alt with ⟨s', x, e1, e2, e3, e4, e5⟩ | ⟨e1, e2⟩
  · rw [if_neg e4, e1]
    refine rRo_F fr (hk _ s' x e2 (RSt_w (by omega) e5) ?_)
    rw [e3]
    exact RXl_w hw (RXl_F (RFr_R ry) hl hc)
  · rw [if_pos e2, q_z0, e1]
    exact ⟨_, 0, rfl, fr, Or.inr ⟨s, rfl, rfl, by rw [u4039]; exact h8⟩⟩
theorem r_stV {m w s : Nat} {av : List Value} {off z : Int32} {f : Nat → QV} {κ : pH → rO} {g : Nat → Int32 → LR} {cs : Cs} {q : LV} (hp : rVl S D k E L T t n m av off f) (hz : z = nI w) (hw : w = 1 ∨ w = 2 ∨ w = 3) (hl : ln < 16) (h : RSt t n A s cs) (hc : RXl ln x0 x4 q x5 A) (hk : ∀ B s' x, s ≤ s' → RSt t n B s' cs → RXl ln x0 x4 (sv w q (x - off)) x5 B → rRo k E L T t n ln v x0 x4 B (g s' x) (κ (Hh k E B L T))) : rRo k E L T t n ln v x0 x4 A (bq (f s) g) (rC (Hh k E A L T) (.ref 39) 15 (cI (ex S D m (.ref 39 :: av) (Hh k E A L T)) (fun y h2 => sI h2 (.ref 40) 0 (nI (34981 + 6 * ln) + z) y (fun h4 => gV h4 (.ref 39) 15 1 (fun w5 => aI h4 w5 0 (nI (34981 + 6 * ln) + z) (fun y6 => if y6 < 0 then zR 0 (some (.inl (some (.int 0)), h4)) else κ h4)))))) := by
  obtain ⟨B, y, b1, b2, b3, b4⟩ := hp A s cs h
  rw [hc_39, b1, q_I]
  exact r_st2 hz hw hl hc b2 b3 b4 hk
theorem r_if {s : Nat} {cs : Cs} (b : Bool) (hl : ln < 16) (h : RSt t n A s cs) (hls : cs.length ≤ s) : ∃ B y, ex S (d + 28) 135 [.ref 39, .int (nI (34981 + 6 * ln)), .int (bJ b)] (Hh k E A L T) = some (.inl (some (.int y)), Hh k E B L T) ∧ RLn ln A B ∧ ((∃ s' cs', qIf t n b s cs = .inl (s', cs') ∧ y = 1 ∧ RSt t n B s' cs' ∧ ∀ x0 x4 q, RXl ln x0 x4 q (nI cs.length) A → RXl ln x0 x4 q (nI cs'.length) B) ∨ ∃ e, qIf t n b s cs = .inr e ∧ y = 0 ∧ B 39 8 = nI e) := by
  obtain ⟨B, b1, b2, b3, b4⟩ := r_ps (S := S) (d := d + 22) (k := k) (E := E) (L := L) (T := T) (j := 31) (j' := 32) (by decide) (by decide) (by decide) h
  have b1' : ex S (d + 27) 126 [.ref 39, .retAddr 132] (Hh k E A L T) = _ := b1
  rw [x_X12_readIf, g_X12_readIf_0]
  simp -implicitDefEqProofs only [hc_39, b1', q_I]
  unfold qIf
  by_cases q : wdP t n s 31 = true
  · rw [if_pos q] at b2
    have n2 := (nx_c h.2.1).2.1
    obtain ⟨C, bb, c1, c2, c3⟩ := r_cond (S := S) (d := d) (k := k) (E := E) (L := L) (T := T) (up B 39 9 0) (nx t n s) cs (RSt_9 b2) (by omega) up_ii
    rw [if_pos q, if_neg (by decide), if_pos q]
    simp -implicitDefEqProofs only [hp_39_9, hc_39, c1, q_I]
    have fB : RFr A C := RFr_tr (RFr_R b4) (RFr_tr RFr_9 c2)
    rcases c3 with ⟨s', cs', r1, rfl, r3, r4⟩ | ⟨e, r1, rfl, r3⟩
    · rw [if_neg (by decide)]
      simp -implicitDefEqProofs only [hv_39_1, hg_39_12, r3.2.2.2.1, nI_p5, sn_40 (show 34981 + 6 * ln + 5 < 35877 by omega), q_z1]
      exact ⟨_, 1, rfl, RLn_tr (RLn_F fB (by omega)) RLn_w, Or.inl ⟨s', cs', r1, rfl, RSt_w (by omega) r3, fun x0 x4 q hr => RXl_5 (RXl_F fB hl hr)⟩⟩
    · rw [if_pos rfl, q_z0]
      exact ⟨C, 0, rfl, RLn_F fB (by omega), Or.inr ⟨e, r1, rfl, r3⟩⟩
  · rw [if_neg q] at b2
    rw [if_neg q, if_pos rfl, if_neg q]
    cases b with
    | true =>
      rw [if_neg (show ¬ bJ true = 0 by decide), q_z0, if_pos rfl]
      exact ⟨B, 0, rfl, RLn_R b4 (by omega), Or.inr ⟨s, rfl, rfl, b3⟩⟩
    | false =>
      rw [if_pos (show bJ false = 0 by decide), q_z1, if_neg (by decide)]
      exact ⟨B, 1, rfl, RLn_R b4 (by omega), Or.inl ⟨s, cs, rfl, rfl, b2, fun x0 x4 q hr => RXl_F (RFr_R b4) hl hr⟩⟩
theorem r_iff {s : Nat} {cs : Cs} {q q' : LV} {y : Int32} (b : Bool) (hy : y = bJ b) (hl : ln < 16) (h : RSt t n A s cs) (hls : cs.length ≤ s) (hc : RXl ln x0 x4 q' (nI cs.length) A) (ho : oR v q q') : rRo k E L T t n ln v x0 x4 A (bi (qIf t n b s cs) q) (rC (Hh k E A L T) (.ref 39) 15 (cI (ex S (d + 28) 135 [.ref 39, .int (nI (34981 + 6 * ln)), .int y] (Hh k E A L T)) (fun y h1 => if y = 0 then zR 0 (some (.inl (some (.int 0)), h1)) else zR 1 (some (.inl (some (.int 1)), h1))))) := by
  obtain ⟨C, z, c1, c2, c3⟩ := r_if (S := S) (d := d) (k := k) (E := E) (L := L) (T := T) b hl h hls
  rw [hy, hc_39, c1, q_I]
  rcases c3 with ⟨s', cs', r1, rfl, r3, r4⟩ | ⟨e, r1, rfl, r3⟩
  · rw [if_neg (by decide), q_z1, r1]
    exact ⟨C, 1, rfl, c2, Or.inl ⟨s', cs', q, q', rfl, rfl, r3, r4 x0 x4 q' hc, ho⟩⟩
  · rw [if_pos rfl, q_z0, r1]
    exact ⟨C, 0, rfl, c2, Or.inr ⟨e, rfl, rfl, r3⟩⟩
theorem r_ifz {s : Nat} {cs : Cs} {q q' : LV} {y : Int32} (b : Bool) (hy : y = bJ b) (hl : ln < 16) (h : RSt t n A s cs) (hls : cs.length ≤ s) (hc : RXl ln x0 x4 q' (nI cs.length) A) (ho : oR v q q') : rRo k E L T t n ln v x0 x4 A (bi (qIf t n b s cs) q) (rC (Hh k E A L T) (.ref 39) 15 (cI (ex S (d + 28) 135 [.ref 39, .int (nI (34981 + 6 * ln)), .int y] (Hh k E A L T)) (fun y h1 => zR y (some (.inl (some (.int y)), h1))))) := by
  obtain ⟨C, z, c1, c2, c3⟩ := r_if (S := S) (d := d) (k := k) (E := E) (L := L) (T := T) b hl h hls
  rw [hy, hc_39, c1, q_I]
  rcases c3 with ⟨s', cs', r1, rfl, r3, r4⟩ | ⟨e, r1, rfl, r3⟩
  · rw [q_z1, r1]
    exact ⟨C, 1, rfl, c2, Or.inl ⟨s', cs', q, q', rfl, rfl, r3, r4 x0 x4 q' hc, ho⟩⟩
  · rw [q_z0, r1]
    exact ⟨C, 0, rfl, c2, Or.inr ⟨e, rfl, rfl, r3⟩⟩
def sN (v : Nat) : Int32 := if 24 ≤ v then nI (v - 24) else nI (v - 7)
def rRs (S : sT) (D : Nat) (k : Value) (E : List dsc) (L : fL) (T : fT) (t : Nat → Int32) (n ln v : Nat) : Prop := ∀ A s cs x4 a b, RSt t n A s cs → cs.length ≤ s → RXl ln (sN v) x4 (0, a, b) (nI cs.length) A → rRo k E L T t n ln v (sN v) x4 A (rst t n v s cs) (ex S D 136 [.ref 39, .int (nI (34981 + 6 * ln)), .int (sN v)] (Hh k E A L T))
theorem s0 (x : Int32) : x - 0 = x := by apply i32_ext; rw [Int32.toInt_sub]; have := b32 x; unfold Int.bmod; simp -implicitDefEqProofs only [Nat.reducePow, show (0 : Int32).toInt = 0 from rfl]; split <;> omega
theorem rr_24 (hl : ln < 16) : rRs S (d + 29) k E L T t n ln 24 := by
  intro A s cs x4 a b h hls hc
  have e : sN 24 = (0 : Int32) := by decide
  show rRo k E L T t n ln 24 (sN 24) x4 A (sHN t n 999999 (some false) s cs) _
  rw [x_X12_readRest, g_X12_readRest_0, e]
  rw [e] at hc
  repeat rw [if_neg (by decide)]
  try rw [if_pos rfl]
  rw [g_X12_readRest_337]
  exact rt_step (r_tells (d := d + 24) (by decide) hl) h hc (fun B s1 x hs hB hcB => r_iff false rfl hl hB (by omega) hcB ⟨rfl, fun z => by omega, fun z => by omega, fun z => by omega, fun z => by omega⟩)
theorem rr_28 (hl : ln < 16) : rRs S (d + 29) k E L T t n ln 28 := by
  intro A s cs x4 a b h hls hc
  have e : sN 28 = (4 : Int32) := by decide
  show rRo k E L T t n ln 28 (sN 28) x4 A (sHN t n 999999 (some false) s cs) _
  rw [x_X12_readRest, g_X12_readRest_0, e]
  rw [e] at hc
  repeat rw [if_neg (by decide)]
  try rw [if_pos rfl]
  rw [g_X12_readRest_337]
  exact rt_step (r_tells (d := d + 24) (by decide) hl) h hc (fun B s1 x hs hB hcB => r_iff false rfl hl hB (by omega) hcB ⟨rfl, fun z => by omega, fun z => by omega, fun z => by omega, fun z => by omega⟩)
theorem rr_22 (hl : ln < 16) : rRs S (d + 29) k E L T t n ln 22 := by
  intro A s cs x4 a b h hls hc
  have e : sN 22 = (15 : Int32) := by decide
  show rRo k E L T t n ln 22 (sN 22) x4 A (sHN t n 999999 (some false) s cs) _
  rw [x_X12_readRest, g_X12_readRest_0, e]
  rw [e] at hc
  repeat rw [if_neg (by decide)]
  try rw [if_pos rfl]
  rw [g_X12_readRest_337]
  exact rt_step (r_tells (d := d + 24) (by decide) hl) h hc (fun B s1 x hs hB hcB => r_iff false rfl hl hB (by omega) hcB ⟨rfl, fun z => by omega, fun z => by omega, fun z => by omega, fun z => by omega⟩)
theorem rr_25 (hl : ln < 16) : rRs S (d + 29) k E L T t n ln 25 := by
  intro A s cs x4 a b h hls hc
  have e : sN 25 = (1 : Int32) := by decide
  show rRo k E L T t n ln 25 (sN 25) x4 A (shE t n s cs) _
  rw [x_X12_readRest, g_X12_readRest_0, e]
  rw [e] at hc
  repeat rw [if_neg (by decide)]
  try rw [if_pos rfl]
  rw [g_X12_readRest_80]
  refine rt_step (r_tells (d := d + 24) (by decide) hl) h hc (fun B s1 x hs hB hcB => ?_)
  refine rt_step (r_needs (d := d + 23) (j := 32) (j' := 20) (by decide) (by decide) (by decide) (by omega)) hB hcB (fun B2 s2 x2 hs2 hB2 hcB2 => ?_)
  rw [hv_39_1]
  refine r_stV (r_crop (d := d + 23)) (w := 2) rfl (by decide) hl hB2 hcB2 (fun B3 s3 x3 hs3 hB3 hcB3 => r_done hB3 hcB3 ⟨rfl, fun _ => s0 x3, fun z => by omega, fun z => by omega, fun z => by omega⟩)
theorem rr_26 (hl : ln < 16) : rRs S (d + 29) k E L T t n ln 26 := by
  intro A s cs x4 a b h hls hc
  have e : sN 26 = (2 : Int32) := by decide
  show rRo k E L T t n ln 26 (sN 26) x4 A (shF t n s cs) _
  rw [x_X12_readRest, g_X12_readRest_0, e]
  rw [e] at hc
  repeat rw [if_neg (by decide)]
  try rw [if_pos rfl]
  rw [g_X12_readRest_131]
  rw [hv_39_1]
  refine r_stV (r_crop (d := d + 23)) (w := 2) rfl (by decide) hl h hc (fun B s1 x hs hB hcB => ?_)
  refine rt_step (r_needs (d := d + 23) (j := 33) (j' := 26) (by decide) (by decide) (by decide) (by omega)) hB hcB (fun B2 s2 x2 hs2 hB2 hcB2 => ?_)
  rw [hv_39_1]
  refine r_stV (r_crop (d := d + 23)) (w := 3) rfl (by decide) hl hB2 hcB2 (fun B3 s3 x3 hs3 hB3 hcB3 => r_done hB3 hcB3 ⟨rfl, fun _ => s0 x, fun z => by omega, fun z => by omega, fun _ => s0 x3⟩)
theorem rr_27 (hl : ln < 16) : rRs S (d + 29) k E L T t n ln 27 := by
  intro A s cs x4 a b h hls hc
  have e : sN 27 = (3 : Int32) := by decide
  show rRo k E L T t n ln 27 (sN 27) x4 A (shC t n 12 13 999999 s cs) _
  rw [x_X12_readRest, g_X12_readRest_0, e]
  rw [e] at hc
  repeat rw [if_neg (by decide)]
  try rw [if_pos rfl]
  rw [g_X12_readRest_195]
  rw [hv_39_1, if_neg (by decide), g_X12_readRest_214]
  refine r_stV (r_thing0 (d := d + 23)) (w := 2) rfl (by decide) hl h hc (fun B s1 x hs hB hcB => ?_)
  rw [if_neg (by decide)]
  exact rt_step (r_tells (d := d + 24) (by decide) hl) hB hcB (fun B2 s2 x2 hs2 hB2 hcB2 => r_done hB2 hcB2 ⟨rfl, fun z => by omega, fun _ => rfl, fun z => by omega, fun z => by omega⟩)
theorem rr_21 (hl : ln < 16) : rRs S (d + 29) k E L T t n ln 21 := by
  intro A s cs x4 a b h hls hc
  have e : sN 21 = (14 : Int32) := by decide
  show rRo k E L T t n ln 21 (sN 21) x4 A (shC t n 12 16 100 s cs) _
  rw [x_X12_readRest, g_X12_readRest_0, e]
  rw [e] at hc
  repeat rw [if_neg (by decide)]
  try rw [if_pos rfl]
  rw [g_X12_readRest_195]
  rw [hv_39_1, if_pos rfl, g_X12_readRest_214]
  refine r_stV (r_thing1 (d := d + 23)) (w := 2) rfl (by decide) hl h hc (fun B s1 x hs hB hcB => ?_)
  rw [if_pos rfl]
  exact rt_step (r_tells (d := d + 24) (by decide) hl) hB hcB (fun B2 s2 x2 hs2 hB2 hcB2 => r_done hB2 hcB2 ⟨rfl, fun z => by omega, fun _ => rfl, fun z => by omega, fun z => by omega⟩)
theorem rr_29 (hl : ln < 16) : rRs S (d + 29) k E L T t n ln 29 := by
  intro A s cs x4 a b h hls hc
  have e : sN 29 = (5 : Int32) := by decide
  show rRo k E L T t n ln 29 (sN 29) x4 A (sHN t n 100 (some true) s cs) _
  rw [x_X12_readRest, g_X12_readRest_0, e]
  rw [e] at hc
  repeat rw [if_neg (by decide)]
  try rw [if_pos rfl]
  rw [g_X12_readRest_312]
  exact rt_step (r_tells (d := d + 24) (by decide) hl) h hc (fun B s1 x hs hB hcB => r_iff true rfl hl hB (by omega) hcB ⟨rfl, fun z => by omega, fun z => by omega, fun z => by omega, fun z => by omega⟩)
theorem rr_30 (hl : ln < 16) : rRs S (d + 29) k E L T t n ln 30 := by
  intro A s cs x4 a b h hls hc
  have e : sN 30 = (6 : Int32) := by decide
  show rRo k E L T t n ln 30 (sN 30) x4 A (sHN t n 100 none s cs) _
  rw [x_X12_readRest, g_X12_readRest_0, e]
  rw [e] at hc
  repeat rw [if_neg (by decide)]
  try rw [if_pos rfl]
  rw [g_X12_readRest_256]
  exact r_last (q0 := (0, 0, 0)) (r_tells (d := d + 24) (by decide) hl) h hc (fun x => ⟨rfl, fun z => by omega, fun z => by omega, fun z => by omega, fun z => by omega⟩)
theorem rr_17 (hl : ln < 16) : rRs S (d + 29) k E L T t n ln 17 := by
  intro A s cs x4 a b h hls hc
  have e : sN 17 = (10 : Int32) := by decide
  show rRo k E L T t n ln 17 (sN 17) x4 A (sHN t n 999999 none s cs) _
  rw [x_X12_readRest, g_X12_readRest_0, e]
  rw [e] at hc
  repeat rw [if_neg (by decide)]
  try rw [if_pos rfl]
  rw [g_X12_readRest_264]
  exact r_last (q0 := (0, 0, 0)) (r_tells (d := d + 24) (by decide) hl) h hc (fun x => ⟨rfl, fun z => by omega, fun z => by omega, fun z => by omega, fun z => by omega⟩)
theorem rr_19 (hl : ln < 16) : rRs S (d + 29) k E L T t n ln 19 := by
  intro A s cs x4 a b h hls hc
  have e : sN 19 = (12 : Int32) := by decide
  show rRo k E L T t n ln 19 (sN 19) x4 A (sHN t n 999999 none s cs) _
  rw [x_X12_readRest, g_X12_readRest_0, e]
  rw [e] at hc
  repeat rw [if_neg (by decide)]
  try rw [if_pos rfl]
  rw [g_X12_readRest_264]
  exact r_last (q0 := (0, 0, 0)) (r_tells (d := d + 24) (by decide) hl) h hc (fun x => ⟨rfl, fun z => by omega, fun z => by omega, fun z => by omega, fun z => by omega⟩)
theorem rr_18 (hl : ln < 16) : rRs S (d + 29) k E L T t n ln 18 := by
  intro A s cs x4 a b h hls hc
  have e : sN 18 = (11 : Int32) := by decide
  show rRo k E L T t n ln 18 (sN 18) x4 A (shI t n s cs) _
  rw [x_X12_readRest, g_X12_readRest_0, e]
  rw [e] at hc
  repeat rw [if_neg (by decide)]
  try rw [if_pos rfl]
  rw [g_X12_readRest_305]
  exact r_ifz false rfl hl h hls hc ⟨rfl, fun z => by omega, fun z => by omega, fun z => by omega, fun z => by omega⟩
theorem rr_20 (hl : ln < 16) : rRs S (d + 29) k E L T t n ln 20 := by
  intro A s cs x4 a b h hls hc
  have e : sN 20 = (13 : Int32) := by decide
  show rRo k E L T t n ln 20 (sN 20) x4 A (shI t n s cs) _
  rw [x_X12_readRest, g_X12_readRest_0, e]
  rw [e] at hc
  repeat rw [if_neg (by decide)]
  try rw [if_pos rfl]
  rw [g_X12_readRest_305]
  exact r_ifz false rfl hl h hls hc ⟨rfl, fun z => by omega, fun z => by omega, fun z => by omega, fun z => by omega⟩
theorem rr_23 (hl : ln < 16) : rRs S (d + 29) k E L T t n ln 23 := by
  intro A s cs x4 a b h hls hc
  have e : sN 23 = (16 : Int32) := by decide
  show rRo k E L T t n ln 23 (sN 23) x4 A (shD t n s cs) _
  rw [x_X12_readRest, g_X12_readRest_0, e]
  rw [e] at hc
  repeat rw [if_neg (by decide)]
  try rw [if_pos rfl]
  rw [g_X12_readRest_272]
  obtain ⟨B, p, hp, hs, b1, b2, b3, b4⟩ := r_wd (S := S) (d := d + 25) (k := k) (E := E) (L := L) (T := T) h
  have n2 := (nx_c h.2.1).2.1
  rw [hc_39, b1, q_U, hv_39_1]
  rcases r_wordOf (S := S) (d := d + 23) (k := k) (E := E) (L := L) (T := T) (Rp_R h.1 b4) hp hs b2 b3 with ⟨y1, y2, y3⟩ | ⟨y1, y2⟩
  · rw [hc_39, y2, q_I]
    refine r_st2 (off := 7) (w := 2) rfl (by decide) hl hc b4 b3 (Or.inl ⟨nx t n s, tV t n s, by unfold qOne; rw [if_pos y1], n2, rfl, y3, RSt_word h hs b4 b2 (inW_k y1).1⟩) (fun B3 s3 x3 hs3 hB3 hcB3 => r_done hB3 hcB3 ⟨rfl, fun z => by omega, fun z => by omega, fun _ => rfl, fun z => by omega⟩)
  · rw [hc_39, y2, q_I]
    refine r_st2 (off := 7) (w := 2) rfl (by decide) hl hc b4 b3 (Or.inr ⟨by unfold qOne; rw [if_neg y1], by decide⟩) (fun B3 s3 x3 hs3 hB3 hcB3 => r_done hB3 hcB3 ⟨rfl, fun z => by omega, fun z => by omega, fun _ => rfl, fun z => by omega⟩)
theorem r_rest {v : Nat} (h1 : 17 ≤ v) (h2 : v ≤ 30) (hl : ln < 16) : rRs S (d + 29) k E L T t n ln v := by
  rcases v_cases h1 h2 with rfl | rfl | rfl | rfl | rfl | rfl | rfl | rfl | rfl | rfl | rfl | rfl | rfl | rfl
  · exact rr_17 hl
  · exact rr_18 hl
  · exact rr_19 hl
  · exact rr_20 hl
  · exact rr_21 hl
  · exact rr_22 hl
  · exact rr_23 hl
  · exact rr_24 hl
  · exact rr_25 hl
  · exact rr_26 hl
  · exact rr_27 hl
  · exact rr_28 hl
  · exact rr_29 hl
  · exact rr_30 hl
end RRestB
