/-! the reference reads a line (laid by gen_rline.py) -/
section RLineB
variable {S : sT} {d c D : Nat} {k : Value} {E : List dsc} {A : fA} {L : fL} {T : fT} {t : Nat → Int32} {n ln v : Nat} {x0 x4 x5 : Int32}
def RXl (ln : Nat) (x0 x4 : Int32) (q : LV) (x5 : Int32) (A : fA) : Prop := A 40 (34981 + 6 * ln + 0) = x0 ∧ A 40 (34981 + 6 * ln + 1) = q.1 ∧ A 40 (34981 + 6 * ln + 2) = q.2.1 ∧ A 40 (34981 + 6 * ln + 3) = q.2.2 ∧ A 40 (34981 + 6 * ln + 4) = x4 ∧ A 40 (34981 + 6 * ln + 5) = x5
def RLn (ln : Nat) (A B : fA) : Prop := (∀ r, r ≠ 39 → r ≠ 40 → B r = A r) ∧ (∀ j, j ≠ 6 → j ≠ 8 → j ≠ 9 → j ≠ 12 → B 39 j = A 39 j) ∧ ∀ i, i < 34981 + 6 * ln → B 40 i = A 40 i
theorem RLn_refl : RLn ln A A := ⟨fun _ _ _ => rfl, fun _ _ _ _ _ => rfl, fun _ _ => rfl⟩
theorem RLn_tr {B C : fA} (h : RLn ln A B) (g : RLn ln B C) : RLn ln A C := ⟨fun r a b => (g.1 r a b).trans (h.1 r a b), fun j a b c e => (g.2.1 j a b c e).trans (h.2.1 j a b c e), fun i hi => (g.2.2 i hi).trans (h.2.2 i hi)⟩
theorem RLn_F {B : fA} (h : RFr A B) (hl : ln ≤ 16) : RLn ln A B := ⟨h.1, h.2.1, fun i hi => h.2.2 i (by omega)⟩
theorem RLn_R {B : fA} (h : Ry A B) (hl : ln ≤ 16) : RLn ln A B := RLn_F (RFr_R h) hl
theorem u4039 {i : Nat} {x : Int32} : up A 40 i x 39 = A 39 := up_ne (by decide)
theorem RLn_w {w : Nat} {x : Int32} : RLn ln A (up A 40 (34981 + 6 * ln + w) x) := ⟨fun r _ a => up_ne a, fun j _ _ _ _ => by rw [u4039], fun i hi => up_rr (by omega)⟩
theorem RXl_F {B : fA} {q : LV} (h : RFr A B) (hl : ln < 16) (hc : RXl ln x0 x4 q x5 A) : RXl ln x0 x4 q x5 B := by
  obtain ⟨a1, a2, a3, a4, a5, a6⟩ := hc
  have h3 := h.2.2
  exact ⟨by rw [h3 _ (by omega)]; exact a1, by rw [h3 _ (by omega)]; exact a2, by rw [h3 _ (by omega)]; exact a3, by rw [h3 _ (by omega)]; exact a4, by rw [h3 _ (by omega)]; exact a5, by rw [h3 _ (by omega)]; exact a6⟩
theorem RXl_w {w : Nat} {q : LV} {x : Int32} (hw : w = 1 ∨ w = 2 ∨ w = 3) (hc : RXl ln x0 x4 q x5 A) : RXl ln x0 x4 (sv w q x) x5 (up A 40 (34981 + 6 * ln + w) x) := by
  obtain ⟨a1, a2, a3, a4, a5, a6⟩ := hc
  rcases hw with rfl | rfl | rfl
  · exact ⟨by rw [up_rr (by omega)]; exact a1, up_ii, by rw [up_rr (by omega)]; exact a3, by rw [up_rr (by omega)]; exact a4, by rw [up_rr (by omega)]; exact a5, by rw [up_rr (by omega)]; exact a6⟩
  · exact ⟨by rw [up_rr (by omega)]; exact a1, by rw [up_rr (by omega)]; exact a2, up_ii, by rw [up_rr (by omega)]; exact a4, by rw [up_rr (by omega)]; exact a5, by rw [up_rr (by omega)]; exact a6⟩
  · exact ⟨by rw [up_rr (by omega)]; exact a1, by rw [up_rr (by omega)]; exact a2, by rw [up_rr (by omega)]; exact a3, up_ii, by rw [up_rr (by omega)]; exact a5, by rw [up_rr (by omega)]; exact a6⟩
theorem RXl_5 {q : LV} {x : Int32} (hc : RXl ln x0 x4 q x5 A) : RXl ln x0 x4 q x (up A 40 (34981 + 6 * ln + 5) x) := by
  obtain ⟨a1, a2, a3, a4, a5, a6⟩ := hc
  exact ⟨by rw [up_rr (by omega)]; exact a1, by rw [up_rr (by omega)]; exact a2, by rw [up_rr (by omega)]; exact a3, by rw [up_rr (by omega)]; exact a4, by rw [up_rr (by omega)]; exact a5, up_ii⟩
theorem RSt_w {s i : Nat} {cs : Cs} {x : Int32} (hi : i < 35077) (h : RSt t n A s cs) : RSt t n (up A 40 i x) s cs := by
  obtain ⟨h1, h2, ⟨p, hp, h6, hs⟩, h4, h5⟩ := h
  refine ⟨⟨fun j hj => ?_, ?_, h1.2.2⟩, h2, ⟨p, hp, ?_, hs⟩, ?_, fun j hj => ?_⟩
  · rw [up_ne (by decide)]; exact h1.1 j hj
  · rw [u4039]; exact h1.2.1
  · rw [u4039]; exact h6
  · rw [u4039]; exact h4
  · rw [up_rr (by omega), up_rr (by omega)]; exact h5 j hj
def qv (r : QV) : Int32 := match r with | .inl x => x.2 | .inr _ => -1
theorem rt_num {s : Nat} {hi : Int32} {cs : Cs} (hh : hi ≤ 999999) (h : RSt t n A s cs) : ∃ B, ex S (d + 3) 121 [.ref 39, .int hi] (Hh k E A L T) = some (.inl (some (.int (qv (qNum t n hi s)))), Hh k E B L T) ∧ Ry A B ∧ B 39 8 = nI s ∧ ((∃ x, qNum t n hi s = .inl (nx t n s, x) ∧ RSt t n B (nx t n s) cs ∧ ¬ x < 0) ∨ qNum t n hi s = .inr s) := by
  obtain ⟨p, hp, h6, hs⟩ := h.2.2.1
  have hn := h.2.1
  have e2 := (tE_c (t := t) (n := n) (p := s) hn.1).2.1
  obtain ⟨B, b1, b2, b3, b4⟩ := r_number (S := S) (d := d) (k := k) (E := E) (L := L) (T := T) (hi := hi) h.1 hp h6
  rw [hs] at b1 b3
  obtain ⟨k1, k2⟩ := num_k (t := t) (n := n) (s := s) (p := p) (hi := hi) hs hn hh
  refine ⟨B, ?_, b4, b3, ?_⟩
  · rw [b1]
    by_cases q : isNm t n s hi = true
    · rw [(k1 q).1]; unfold qNum; rw [if_pos q]; rfl
    · rw [k2 q]; unfold qNum; rw [if_neg q]; rfl
  · by_cases q : isNm t n s hi = true
    · obtain ⟨v1, v2, v3⟩ := k1 q
      rw [v2] at b2
      exact Or.inl ⟨tV t n s, by unfold qNum; rw [if_pos q], RSt_R h b4 e2 b2 rfl, Int32.not_lt.mpr v3⟩
    · exact Or.inr (by unfold qNum; rw [if_neg q])
/-- what a method does that takes a token, and may write something of the line down -/
def rPr (S : sT) (D : Nat) (k : Value) (E : List dsc) (L : fL) (T : fT) (t : Nat → Int32) (n ln m : Nat) (av : List Value) (w : Nat) (f : Nat → QV) : Prop := ∀ A s cs, RSt t n A s cs → (∃ s' x B, f s = .inl (s', x) ∧ s ≤ s' ∧ ex S D m (.ref 39 :: av) (Hh k E A L T) = some (.inl (some (.int 1)), Hh k E B L T) ∧ RSt t n B s' cs ∧ RLn ln A B ∧ ∀ x0 x4 q x5, RXl ln x0 x4 q x5 A → RXl ln x0 x4 (sv w q x) x5 B) ∨ (∃ B, f s = .inr s ∧ ex S D m (.ref 39 :: av) (Hh k E A L T) = some (.inl (some (.int 0)), Hh k E B L T) ∧ RLn ln A B ∧ B 39 8 = nI s)
theorem r_tells {hi : Int32} (hh : hi ≤ 999999) (hl : ln < 16) : rPr S (d + 4) k E L T t n ln 122 [.int (nI (34981 + 6 * ln)), .int hi] 1 (qNum t n hi) := by
  intro A s cs h
  obtain ⟨B, b1, b2, b3, b4⟩ := rt_num (S := S) (d := d) (k := k) (E := E) (L := L) (T := T) hh h
  rw [x_X12_tells, g_X12_tells_0]
  simp -implicitDefEqProofs only [hv_39_1, hc_39, b1, q_I, nI_p1, sn_40 (show 34981 + 6 * ln + 1 < 35877 by omega), an_40 (show 34981 + 6 * ln + 1 < 35877 by omega), up_ii]
  rcases b4 with ⟨x, e1, e2, e3⟩ | e1
  · left
    rw [e1, if_neg (show ¬ qv (.inl (nx t n s, x)) < 0 from e3), q_z1]
    exact ⟨_, x, _, rfl, (nx_c h.2.1).2.1, rfl, RSt_w (by omega) e2, RLn_tr (RLn_R b2 (by omega)) RLn_w, fun x0 x4 q x5 hr => RXl_w (Or.inl rfl) (RXl_F (RFr_R b2) hl hr)⟩
  · right
    rw [e1, if_pos (show qv (.inr s) < 0 by show (-1 : Int32) < 0; decide), q_z0]
    exact ⟨_, rfl, rfl, RLn_tr (RLn_R b2 (by omega)) RLn_w, by rw [u4039]; exact b3⟩
theorem RSt_word {B : fA} {s p : Nat} {cs : Cs} (h : RSt t n A s cs) (hs : tS t n p = s) (b4 : Ry A B) (b2 : B 39 6 = nI (wE t n p)) (hk : tK t n s = 1) : RSt t n B (nx t n s) cs := by
  have hn := h.2.1
  have e2 := (tE_c (t := t) (n := n) (p := s) hn.1).2.1
  obtain ⟨a1, a2, a3⟩ := (wE_k hs hn).1 hk
  rw [a1] at b2
  exact RSt_R h b4 e2 b2 rfl
theorem r_needs {j j' : Nat} (hj' : j' < 43) (hj : j < 37) (hw : strByt.getD j' [] = DW.getD j []) (hl : ln ≤ 16) : rPr S (d + 5) k E L T t n ln 123 [.retAddr (100 + j')] 0 (qWd t n j) := by
  intro A s cs h
  obtain ⟨B, p, hp, hs, b1, b2, b3, b4⟩ := r_wd (S := S) (d := d + 1) (k := k) (E := E) (L := L) (T := T) h
  have iw := r_isWd (S := S) (d := d) (k := k) (E := E) (L := L) (T := T) hj' hj hw (Rp_R h.1 b4) hp hs b2 b3
  rw [x_X12_needs, g_X12_needs_0]
  simp -implicitDefEqProofs only [hc_39, b1, q_U, q_iS, iw, q_I]
  by_cases q : wdP t n s j = true
  · left
    rw [if_pos q, q_z1]
    refine ⟨nx t n s, 0, B, by unfold qWd; rw [if_pos q], (nx_c h.2.1).2.1, rfl, RSt_word h hs b4 b2 (wd_k q).1, RLn_R b4 hl, fun x0 x4 q x5 hr => ?_⟩
    obtain ⟨a1, a2, a3, a4, a5, a6⟩ := hr
    have z := b4.1 40 (by decide)
    exact ⟨by rw [z]; exact a1, by rw [z]; exact a2, by rw [z]; exact a3, by rw [z]; exact a4, by rw [z]; exact a5, by rw [z]; exact a6⟩
  · right
    rw [if_neg q, q_z0]
    exact ⟨B, by unfold qWd; rw [if_neg q], rfl, RLn_R b4 hl, b3⟩
/-- what a method does that takes a word and answers its number, less off -/
def rVl (S : sT) (D : Nat) (k : Value) (E : List dsc) (L : fL) (T : fT) (t : Nat → Int32) (n m : Nat) (av : List Value) (off : Int32) (f : Nat → QV) : Prop := ∀ A s cs, RSt t n A s cs → ∃ B y, ex S D m (.ref 39 :: av) (Hh k E A L T) = some (.inl (some (.int y)), Hh k E B L T) ∧ Ry A B ∧ B 39 8 = nI s ∧ ((∃ s' x, f s = .inl (s', x) ∧ s ≤ s' ∧ y = x - off ∧ ¬ y < 0 ∧ RSt t n B s' cs) ∨ (f s = .inr s ∧ y < 0))
theorem r_crop : rVl S (d + 5) k E L T t n 124 [] 0 (qCr t n) := by
  intro A s cs h
  obtain ⟨B, p, hp, hs, b1, b2, b3, b4⟩ := r_wd (S := S) (d := d + 1) (k := k) (E := E) (L := L) (T := T) h
  have iw := fun j j' hj' hj hw => r_isWd (S := S) (d := d) (k := k) (E := E) (L := L) (T := T) (j := j) (j' := j') hj' hj hw (Rp_R h.1 b4) hp hs b2 b3
  have st := RSt_word h hs b4 b2
  have n2 := (nx_c h.2.1).2.1
  have yes : ∀ j, (j = 1 ∨ j = 2 ∨ j = 3 ∨ j = 4) → wdP t n s j = true → qCr t n s = .inl (nx t n s, nI j) := by
    intro j hj q
    obtain ⟨k1, k2⟩ := wd_k q
    unfold qCr wdP iW
    rw [k1, k2]
    rcases hj with rfl | rfl | rfl | rfl <;> rfl
  rw [x_X12_readCrop, g_X12_readCrop_0]
  have w1 : ex S (d + 4) 118 [.ref 39, .retAddr 121] (Hh k E B L T) = _ := iw 1 21 (by decide) (by decide) (by decide)
  have w2 : ex S (d + 4) 118 [.ref 39, .retAddr 122] (Hh k E B L T) = _ := iw 2 22 (by decide) (by decide) (by decide)
  have w3 : ex S (d + 4) 118 [.ref 39, .retAddr 123] (Hh k E B L T) = _ := iw 3 23 (by decide) (by decide) (by decide)
  have w4 : ex S (d + 4) 118 [.ref 39, .retAddr 124] (Hh k E B L T) = _ := iw 4 24 (by decide) (by decide) (by decide)
  have w11 : ex S (d + 4) 118 [.ref 39, .retAddr 125] (Hh k E B L T) = _ := iw 11 25 (by decide) (by decide) (by decide)
  simp -implicitDefEqProofs only [hc_39, b1, q_U, w1, q_I]
  by_cases q1 : wdP t n s 1 = true
  · rw [if_pos q1, if_neg (by decide)]
    exact ⟨B, _, rfl, b4, b3, Or.inl ⟨_, _, yes 1 (by decide) q1, n2, by decide, by decide, st (wd_k q1).1⟩⟩
  · rw [if_neg q1, if_pos rfl]
    simp -implicitDefEqProofs only [hc_39, w2, q_I]
    by_cases q2 : wdP t n s 2 = true
    · rw [if_pos q2, if_neg (by decide)]
      exact ⟨B, _, rfl, b4, b3, Or.inl ⟨_, _, yes 2 (by decide) q2, n2, by decide, by decide, st (wd_k q2).1⟩⟩
    · rw [if_neg q2, if_pos rfl]
      simp -implicitDefEqProofs only [hc_39, w3, q_I]
      by_cases q3 : wdP t n s 3 = true
      · rw [if_pos q3, if_neg (by decide)]
        exact ⟨B, _, rfl, b4, b3, Or.inl ⟨_, _, yes 3 (by decide) q3, n2, by decide, by decide, st (wd_k q3).1⟩⟩
      · rw [if_neg q3, if_pos rfl]
        simp -implicitDefEqProofs only [hc_39, w4, q_I]
        by_cases q4 : wdP t n s 4 = true
        · rw [if_pos q4, if_neg (by decide)]
          exact ⟨B, _, rfl, b4, b3, Or.inl ⟨_, _, yes 4 (by decide) q4, n2, by decide, by decide, st (wd_k q4).1⟩⟩
        · rw [if_neg q4, if_pos rfl]
          simp -implicitDefEqProofs only [hc_39, w11, q_I]
          by_cases q11 : wdP t n s 11 = true
          · rw [if_pos q11, if_neg (by decide)]
            exact ⟨B, _, rfl, b4, b3, Or.inl ⟨_, _, by unfold qCr; rw [if_pos q11], n2, by decide, by decide, st (wd_k q11).1⟩⟩
          · rw [if_neg q11, if_pos rfl]
            refine ⟨B, _, rfl, b4, b3, Or.inr ⟨?_, by decide⟩⟩
            unfold qCr
            rw [if_neg q11, if_neg]
            intro z
            obtain ⟨k1, k2⟩ := inW_k z
            have k3 := k2.1
            obtain ⟨m, hm, em⟩ := nI_of (x := tV t n s) (fun y => by rw [Int32.lt_iff_toInt_lt] at y k3; have : (1 : Int32).toInt = 1 := rfl; have : (0 : Int32).toInt = 0 := rfl; omega)
            have l1 : 1 ≤ m := by rw [em] at k3; rcases Nat.lt_or_ge m 1 with y | y; exact absurd (nI_lt (b := 1) y (by decide)) k3; exact y
            have l2 : m ≤ 4 := by have k4 := k2.2; rw [em] at k4; rcases Nat.lt_or_ge 4 m with y | y; exact absurd (nI_lt (a := 4) y hm) k4; exact y
            have hh : ∀ j, tV t n s = nI j → wdP t n s j = true := fun j ej => by unfold wdP; simp [k1, ej]
            have : m = 1 ∨ m = 2 ∨ m = 3 ∨ m = 4 := by omega
            rcases this with rfl | rfl | rfl | rfl
            · exact q1 (hh 1 em)
            · exact q2 (hh 2 em)
            · exact q3 (hh 3 em)
            · exact q4 (hh 4 em)
theorem r_thing0 : rVl S (d + 5) k E L T t n 125 [.int 0] 12 (qOne t n 12 13) := by
  intro A s cs h
  obtain ⟨B, p, hp, hs, b1, b2, b3, b4⟩ := r_wd (S := S) (d := d + 1) (k := k) (E := E) (L := L) (T := T) h
  have iw := fun j j' hj' hj hw => r_isWd (S := S) (d := d) (k := k) (E := E) (L := L) (T := T) (j := j) (j' := j') hj' hj hw (Rp_R h.1 b4) hp hs b2 b3
  have st := RSt_word h hs b4 b2
  have n2 := (nx_c h.2.1).2.1
  have yes : ∀ j, (j = 12 ∨ j = 13) → wdP t n s j = true → qOne t n 12 13 s = .inl (nx t n s, nI j) := by
    intro j hj q
    obtain ⟨k1, k2⟩ := wd_k q
    unfold qOne iW
    rw [k1, k2]
    rcases hj with rfl | rfl <;> rfl
  have no : (∀ j, (j = 12 ∨ j = 13) → ¬ wdP t n s j = true) → qOne t n 12 13 s = .inr s := by
    intro hq
    unfold qOne
    rw [if_neg]
    intro z
    obtain ⟨k1, k2⟩ := inW_k z
    have k3 := k2.1
    obtain ⟨m, hm, em⟩ := nI_of (x := tV t n s) (fun y => by rw [Int32.lt_iff_toInt_lt] at y k3; have : (12 : Int32).toInt = 12 := rfl; have : (0 : Int32).toInt = 0 := rfl; omega)
    have l1 : 12 ≤ m := by rw [em] at k3; rcases Nat.lt_or_ge m 12 with y | y; exact absurd (nI_lt (b := 12) y (by decide)) k3; exact y
    have l2 : m ≤ 13 := by have k4 := k2.2; rw [em] at k4; rcases Nat.lt_or_ge 13 m with y | y; exact absurd (nI_lt (a := 13) y hm) k4; exact y
    exact hq m (by omega) (by unfold wdP; simp [k1, em])
  rw [x_X12_readThing, g_X12_readThing_0]
  have w12 : ex S (d + 4) 118 [.ref 39, .retAddr 127] (Hh k E B L T) = _ := iw 12 27 (by decide) (by decide) (by decide)
  have w13 : ex S (d + 4) 118 [.ref 39, .retAddr 128] (Hh k E B L T) = _ := iw 13 28 (by decide) (by decide) (by decide)
  have w14 : ex S (d + 4) 118 [.ref 39, .retAddr 129] (Hh k E B L T) = _ := iw 14 29 (by decide) (by decide) (by decide)
  have w15 : ex S (d + 4) 118 [.ref 39, .retAddr 130] (Hh k E B L T) = _ := iw 15 30 (by decide) (by decide) (by decide)
  have w16 : ex S (d + 4) 118 [.ref 39, .retAddr 131] (Hh k E B L T) = _ := iw 16 31 (by decide) (by decide) (by decide)
  simp -implicitDefEqProofs only [hc_39, b1, q_U, w12, q_I]
  by_cases q12 : wdP t n s 12 = true
  · rw [if_pos q12, if_neg (by decide)]
    rw [if_pos (by decide)]
    exact ⟨B, _, rfl, b4, b3, Or.inl ⟨_, _, yes 12 (by decide) q12, n2, by decide, by decide, st (wd_k q12).1⟩⟩
  · rw [if_neg q12, if_pos rfl]
    simp -implicitDefEqProofs only [hc_39, w13, q_I]
    by_cases q13 : wdP t n s 13 = true
    · rw [if_pos q13, if_neg (by decide)]
      rw [if_pos (by decide)]
      exact ⟨B, _, rfl, b4, b3, Or.inl ⟨_, _, yes 13 (by decide) q13, n2, by decide, by decide, st (wd_k q13).1⟩⟩
    · rw [if_neg q13, if_pos rfl]
      simp -implicitDefEqProofs only [hc_39, w14, q_I]
      by_cases q14 : wdP t n s 14 = true
      · rw [if_pos q14, if_neg (by decide)]
        rw [if_neg (by decide)]
        rw [if_pos trivial]
        refine ⟨B, _, rfl, b4, b3, Or.inr ⟨no (fun i hi z => ?_), by decide⟩⟩
        have e1 := (wd_k z).2
        rw [(wd_k q14).2] at e1
        have := (nI_eq (by decide) (by omega)).mp e1
        omega
      · rw [if_neg q14, if_pos rfl]
        simp -implicitDefEqProofs only [hc_39, w15, q_I]
        by_cases q15 : wdP t n s 15 = true
        · rw [if_pos q15, if_neg (by decide)]
          rw [if_neg (by decide)]
          rw [if_pos trivial]
          refine ⟨B, _, rfl, b4, b3, Or.inr ⟨no (fun i hi z => ?_), by decide⟩⟩
          have e1 := (wd_k z).2
          rw [(wd_k q15).2] at e1
          have := (nI_eq (by decide) (by omega)).mp e1
          omega
        · rw [if_neg q15, if_pos rfl]
          simp -implicitDefEqProofs only [hc_39, w16, q_I]
          by_cases q16 : wdP t n s 16 = true
          · rw [if_pos q16, if_neg (by decide)]
            rw [if_neg (by decide)]
            rw [if_pos trivial]
            refine ⟨B, _, rfl, b4, b3, Or.inr ⟨no (fun i hi z => ?_), by decide⟩⟩
            have e1 := (wd_k z).2
            rw [(wd_k q16).2] at e1
            have := (nI_eq (by decide) (by omega)).mp e1
            omega
          · rw [if_neg q16, if_pos rfl]
            rw [if_pos (by decide)]
            refine ⟨B, _, rfl, b4, b3, Or.inr ⟨no (fun i hi => ?_), by decide⟩⟩
            rcases hi with rfl | rfl
            · exact q12
            · exact q13
theorem r_thing1 : rVl S (d + 5) k E L T t n 125 [.int 1] 12 (qOne t n 12 16) := by
  intro A s cs h
  obtain ⟨B, p, hp, hs, b1, b2, b3, b4⟩ := r_wd (S := S) (d := d + 1) (k := k) (E := E) (L := L) (T := T) h
  have iw := fun j j' hj' hj hw => r_isWd (S := S) (d := d) (k := k) (E := E) (L := L) (T := T) (j := j) (j' := j') hj' hj hw (Rp_R h.1 b4) hp hs b2 b3
  have st := RSt_word h hs b4 b2
  have n2 := (nx_c h.2.1).2.1
  have yes : ∀ j, (j = 12 ∨ j = 13 ∨ j = 14 ∨ j = 15 ∨ j = 16) → wdP t n s j = true → qOne t n 12 16 s = .inl (nx t n s, nI j) := by
    intro j hj q
    obtain ⟨k1, k2⟩ := wd_k q
    unfold qOne iW
    rw [k1, k2]
    rcases hj with rfl | rfl | rfl | rfl | rfl <;> rfl
  have no : (∀ j, (j = 12 ∨ j = 13 ∨ j = 14 ∨ j = 15 ∨ j = 16) → ¬ wdP t n s j = true) → qOne t n 12 16 s = .inr s := by
    intro hq
    unfold qOne
    rw [if_neg]
    intro z
    obtain ⟨k1, k2⟩ := inW_k z
    have k3 := k2.1
    obtain ⟨m, hm, em⟩ := nI_of (x := tV t n s) (fun y => by rw [Int32.lt_iff_toInt_lt] at y k3; have : (12 : Int32).toInt = 12 := rfl; have : (0 : Int32).toInt = 0 := rfl; omega)
    have l1 : 12 ≤ m := by rw [em] at k3; rcases Nat.lt_or_ge m 12 with y | y; exact absurd (nI_lt (b := 12) y (by decide)) k3; exact y
    have l2 : m ≤ 16 := by have k4 := k2.2; rw [em] at k4; rcases Nat.lt_or_ge 16 m with y | y; exact absurd (nI_lt (a := 16) y hm) k4; exact y
    exact hq m (by omega) (by unfold wdP; simp [k1, em])
  rw [x_X12_readThing, g_X12_readThing_0]
  have w12 : ex S (d + 4) 118 [.ref 39, .retAddr 127] (Hh k E B L T) = _ := iw 12 27 (by decide) (by decide) (by decide)
  have w13 : ex S (d + 4) 118 [.ref 39, .retAddr 128] (Hh k E B L T) = _ := iw 13 28 (by decide) (by decide) (by decide)
  have w14 : ex S (d + 4) 118 [.ref 39, .retAddr 129] (Hh k E B L T) = _ := iw 14 29 (by decide) (by decide) (by decide)
  have w15 : ex S (d + 4) 118 [.ref 39, .retAddr 130] (Hh k E B L T) = _ := iw 15 30 (by decide) (by decide) (by decide)
  have w16 : ex S (d + 4) 118 [.ref 39, .retAddr 131] (Hh k E B L T) = _ := iw 16 31 (by decide) (by decide) (by decide)
  simp -implicitDefEqProofs only [hc_39, b1, q_U, w12, q_I]
  by_cases q12 : wdP t n s 12 = true
  · rw [if_pos q12, if_neg (by decide)]
    rw [if_pos (by decide)]
    exact ⟨B, _, rfl, b4, b3, Or.inl ⟨_, _, yes 12 (by decide) q12, n2, by decide, by decide, st (wd_k q12).1⟩⟩
  · rw [if_neg q12, if_pos rfl]
    simp -implicitDefEqProofs only [hc_39, w13, q_I]
    by_cases q13 : wdP t n s 13 = true
    · rw [if_pos q13, if_neg (by decide)]
      rw [if_pos (by decide)]
      exact ⟨B, _, rfl, b4, b3, Or.inl ⟨_, _, yes 13 (by decide) q13, n2, by decide, by decide, st (wd_k q13).1⟩⟩
    · rw [if_neg q13, if_pos rfl]
      simp -implicitDefEqProofs only [hc_39, w14, q_I]
      by_cases q14 : wdP t n s 14 = true
      · rw [if_pos q14, if_neg (by decide)]
        rw [if_neg (by decide)]
        rw [if_neg (by decide)]
        exact ⟨B, _, rfl, b4, b3, Or.inl ⟨_, _, yes 14 (by decide) q14, n2, by decide, by decide, st (wd_k q14).1⟩⟩
      · rw [if_neg q14, if_pos rfl]
        simp -implicitDefEqProofs only [hc_39, w15, q_I]
        by_cases q15 : wdP t n s 15 = true
        · rw [if_pos q15, if_neg (by decide)]
          rw [if_neg (by decide)]
          rw [if_neg (by decide)]
          exact ⟨B, _, rfl, b4, b3, Or.inl ⟨_, _, yes 15 (by decide) q15, n2, by decide, by decide, st (wd_k q15).1⟩⟩
        · rw [if_neg q15, if_pos rfl]
          simp -implicitDefEqProofs only [hc_39, w16, q_I]
          by_cases q16 : wdP t n s 16 = true
          · rw [if_pos q16, if_neg (by decide)]
            rw [if_neg (by decide)]
            rw [if_neg (by decide)]
            exact ⟨B, _, rfl, b4, b3, Or.inl ⟨_, _, yes 16 (by decide) q16, n2, by decide, by decide, st (wd_k q16).1⟩⟩
          · rw [if_neg q16, if_pos rfl]
            rw [if_pos (by decide)]
            refine ⟨B, _, rfl, b4, b3, Or.inr ⟨no (fun i hi => ?_), by decide⟩⟩
            rcases hi with rfl | rfl | rfl | rfl | rfl
            · exact q12
            · exact q13
            · exact q14
            · exact q15
            · exact q16
theorem r_wordOf {s p : Nat} (hR : Rp A t n) (hp : p ≤ n) (hs : tS t n p = s) (h6 : A 39 6 = nI (wE t n p)) (h8 : A 39 8 = nI s) : (iW t n s 17 22 = true ∧ ex S (d + 5) 119 [.ref 39] (Hh k E A L T) = some (.inl (some (.int (tV t n s - 7))), Hh k E A L T) ∧ ¬ tV t n s - 7 < 0) ∨ (¬ iW t n s 17 22 = true ∧ ex S (d + 5) 119 [.ref 39] (Hh k E A L T) = some (.inl (some (.int (-1))), Hh k E A L T)) := by
  have iw := fun j j' hj' hj hw => r_isWd (S := S) (d := d + 0) (k := k) (E := E) (L := L) (T := T) (j := j) (j' := j') hj' hj hw hR hp hs h6 h8
  have yes : ∀ j, (j = 17 ∨ j = 18 ∨ j = 19 ∨ j = 20 ∨ j = 21 ∨ j = 22) → wdP t n s j = true → iW t n s 17 22 = true ∧ tV t n s = nI j := by
    intro j hj q
    obtain ⟨k1, k2⟩ := wd_k q
    unfold iW
    rw [k1, k2]
    rcases hj with rfl | rfl | rfl | rfl | rfl | rfl <;> exact ⟨rfl, rfl⟩
  have no : (∀ j, (j = 17 ∨ j = 18 ∨ j = 19 ∨ j = 20 ∨ j = 21 ∨ j = 22) → ¬ wdP t n s j = true) → ¬ iW t n s 17 22 = true := by
    intro hq z
    obtain ⟨k1, k2⟩ := inW_k z
    have k3 := k2.1
    obtain ⟨m, hm, em⟩ := nI_of (x := tV t n s) (fun y => by rw [Int32.lt_iff_toInt_lt] at y k3; have : (17 : Int32).toInt = 17 := rfl; have : (0 : Int32).toInt = 0 := rfl; omega)
    have l1 : 17 ≤ m := by rw [em] at k3; rcases Nat.lt_or_ge m 17 with y | y; exact absurd (nI_lt (b := 17) y (by decide)) k3; exact y
    have l2 : m ≤ 22 := by have k4 := k2.2; rw [em] at k4; rcases Nat.lt_or_ge 22 m with y | y; exact absurd (nI_lt (a := 22) y hm) k4; exact y
    exact hq m (by omega) (by unfold wdP; simp [k1, em])
  rw [x_X12_wordOf, g_X12_wordOf_0]
  have w17 : ex S (d + 4) 118 [.ref 39, .retAddr 113] (Hh k E A L T) = _ := iw 17 13 (by decide) (by decide) (by decide)
  have w18 : ex S (d + 4) 118 [.ref 39, .retAddr 114] (Hh k E A L T) = _ := iw 18 14 (by decide) (by decide) (by decide)
  have w19 : ex S (d + 4) 118 [.ref 39, .retAddr 115] (Hh k E A L T) = _ := iw 19 15 (by decide) (by decide) (by decide)
  have w20 : ex S (d + 4) 118 [.ref 39, .retAddr 116] (Hh k E A L T) = _ := iw 20 16 (by decide) (by decide) (by decide)
  have w21 : ex S (d + 4) 118 [.ref 39, .retAddr 117] (Hh k E A L T) = _ := iw 21 17 (by decide) (by decide) (by decide)
  have w22 : ex S (d + 4) 118 [.ref 39, .retAddr 118] (Hh k E A L T) = _ := iw 22 18 (by decide) (by decide) (by decide)
  skip
  simp -implicitDefEqProofs only [hc_39, w17, q_I]
  by_cases q17 : wdP t n s 17 = true
  · rw [if_pos q17, if_neg (by decide)]
    obtain ⟨y1, y2⟩ := yes 17 (by decide) q17
    exact Or.inl ⟨y1, by rw [y2]; rfl, by rw [y2]; decide⟩
  · rw [if_neg q17, if_pos rfl]
    simp -implicitDefEqProofs only [hc_39, w18, q_I]
    by_cases q18 : wdP t n s 18 = true
    · rw [if_pos q18, if_neg (by decide)]
      obtain ⟨y1, y2⟩ := yes 18 (by decide) q18
      exact Or.inl ⟨y1, by rw [y2]; rfl, by rw [y2]; decide⟩
    · rw [if_neg q18, if_pos rfl]
      simp -implicitDefEqProofs only [hc_39, w19, q_I]
      by_cases q19 : wdP t n s 19 = true
      · rw [if_pos q19, if_neg (by decide)]
        obtain ⟨y1, y2⟩ := yes 19 (by decide) q19
        exact Or.inl ⟨y1, by rw [y2]; rfl, by rw [y2]; decide⟩
      · rw [if_neg q19, if_pos rfl]
        simp -implicitDefEqProofs only [hc_39, w20, q_I]
        by_cases q20 : wdP t n s 20 = true
        · rw [if_pos q20, if_neg (by decide)]
          obtain ⟨y1, y2⟩ := yes 20 (by decide) q20
          exact Or.inl ⟨y1, by rw [y2]; rfl, by rw [y2]; decide⟩
        · rw [if_neg q20, if_pos rfl]
          simp -implicitDefEqProofs only [hc_39, w21, q_I]
          by_cases q21 : wdP t n s 21 = true
          · rw [if_pos q21, if_neg (by decide)]
            obtain ⟨y1, y2⟩ := yes 21 (by decide) q21
            exact Or.inl ⟨y1, by rw [y2]; rfl, by rw [y2]; decide⟩
          · rw [if_neg q21, if_pos rfl]
            simp -implicitDefEqProofs only [hc_39, w22, q_I]
            by_cases q22 : wdP t n s 22 = true
            · rw [if_pos q22, if_neg (by decide)]
              obtain ⟨y1, y2⟩ := yes 22 (by decide) q22
              exact Or.inl ⟨y1, by rw [y2]; rfl, by rw [y2]; decide⟩
            · rw [if_neg q22, if_pos rfl]
              refine Or.inr ⟨no (fun i hi => ?_), rfl⟩
              rcases hi with rfl | rfl | rfl | rfl | rfl | rfl
              · exact q17
              · exact q18
              · exact q19
              · exact q20
              · exact q21
              · exact q22
theorem r_sort1 {s p : Nat} (hR : Rp A t n) (hp : p ≤ n) (hs : tS t n p = s) (h6 : A 39 6 = nI (wE t n p)) (h8 : A 39 8 = nI s) : (iW t n s 24 30 = true ∧ ex S (d + 5) 120 [.ref 39, .int 1] (Hh k E A L T) = some (.inl (some (.int (tV t n s - 24))), Hh k E A L T) ∧ ¬ tV t n s - 24 < 0) ∨ (¬ iW t n s 24 30 = true ∧ ex S (d + 5) 120 [.ref 39, .int 1] (Hh k E A L T) = some (.inl (some (.int (-1))), Hh k E A L T)) := by
  have iw := fun j j' hj' hj hw => r_isWd (S := S) (d := d + 0) (k := k) (E := E) (L := L) (T := T) (j := j) (j' := j') hj' hj hw hR hp hs h6 h8
  have yes : ∀ j, (j = 24 ∨ j = 25 ∨ j = 26 ∨ j = 27 ∨ j = 28 ∨ j = 29 ∨ j = 30) → wdP t n s j = true → iW t n s 24 30 = true ∧ tV t n s = nI j := by
    intro j hj q
    obtain ⟨k1, k2⟩ := wd_k q
    unfold iW
    rw [k1, k2]
    rcases hj with rfl | rfl | rfl | rfl | rfl | rfl | rfl <;> exact ⟨rfl, rfl⟩
  have no : (∀ j, (j = 24 ∨ j = 25 ∨ j = 26 ∨ j = 27 ∨ j = 28 ∨ j = 29 ∨ j = 30) → ¬ wdP t n s j = true) → ¬ iW t n s 24 30 = true := by
    intro hq z
    obtain ⟨k1, k2⟩ := inW_k z
    have k3 := k2.1
    obtain ⟨m, hm, em⟩ := nI_of (x := tV t n s) (fun y => by rw [Int32.lt_iff_toInt_lt] at y k3; have : (24 : Int32).toInt = 24 := rfl; have : (0 : Int32).toInt = 0 := rfl; omega)
    have l1 : 24 ≤ m := by rw [em] at k3; rcases Nat.lt_or_ge m 24 with y | y; exact absurd (nI_lt (b := 24) y (by decide)) k3; exact y
    have l2 : m ≤ 30 := by have k4 := k2.2; rw [em] at k4; rcases Nat.lt_or_ge 30 m with y | y; exact absurd (nI_lt (a := 30) y hm) k4; exact y
    exact hq m (by omega) (by unfold wdP; simp [k1, em])
  rw [x_X12_sortOf, g_X12_sortOf_0]
  have w24 : ex S (d + 4) 118 [.ref 39, .retAddr 106] (Hh k E A L T) = _ := iw 24 6 (by decide) (by decide) (by decide)
  have w25 : ex S (d + 4) 118 [.ref 39, .retAddr 107] (Hh k E A L T) = _ := iw 25 7 (by decide) (by decide) (by decide)
  have w26 : ex S (d + 4) 118 [.ref 39, .retAddr 108] (Hh k E A L T) = _ := iw 26 8 (by decide) (by decide) (by decide)
  have w27 : ex S (d + 4) 118 [.ref 39, .retAddr 109] (Hh k E A L T) = _ := iw 27 9 (by decide) (by decide) (by decide)
  have w28 : ex S (d + 4) 118 [.ref 39, .retAddr 110] (Hh k E A L T) = _ := iw 28 10 (by decide) (by decide) (by decide)
  have w29 : ex S (d + 4) 118 [.ref 39, .retAddr 111] (Hh k E A L T) = _ := iw 29 11 (by decide) (by decide) (by decide)
  have w30 : ex S (d + 4) 118 [.ref 39, .retAddr 112] (Hh k E A L T) = _ := iw 30 12 (by decide) (by decide) (by decide)
  rw [if_neg (by decide)]
  simp -implicitDefEqProofs only [hc_39, w24, q_I]
  by_cases q24 : wdP t n s 24 = true
  · rw [if_pos q24, if_neg (by decide)]
    obtain ⟨y1, y2⟩ := yes 24 (by decide) q24
    exact Or.inl ⟨y1, by rw [y2]; rfl, by rw [y2]; decide⟩
  · rw [if_neg q24, if_pos rfl]
    simp -implicitDefEqProofs only [hc_39, w25, q_I]
    by_cases q25 : wdP t n s 25 = true
    · rw [if_pos q25, if_neg (by decide)]
      obtain ⟨y1, y2⟩ := yes 25 (by decide) q25
      exact Or.inl ⟨y1, by rw [y2]; rfl, by rw [y2]; decide⟩
    · rw [if_neg q25, if_pos rfl]
      simp -implicitDefEqProofs only [hc_39, w26, q_I]
      by_cases q26 : wdP t n s 26 = true
      · rw [if_pos q26, if_neg (by decide)]
        obtain ⟨y1, y2⟩ := yes 26 (by decide) q26
        exact Or.inl ⟨y1, by rw [y2]; rfl, by rw [y2]; decide⟩
      · rw [if_neg q26, if_pos rfl]
        simp -implicitDefEqProofs only [hc_39, w27, q_I]
        by_cases q27 : wdP t n s 27 = true
        · rw [if_pos q27, if_neg (by decide)]
          obtain ⟨y1, y2⟩ := yes 27 (by decide) q27
          exact Or.inl ⟨y1, by rw [y2]; rfl, by rw [y2]; decide⟩
        · rw [if_neg q27, if_pos rfl]
          simp -implicitDefEqProofs only [hc_39, w28, q_I]
          by_cases q28 : wdP t n s 28 = true
          · rw [if_pos q28, if_neg (by decide)]
            obtain ⟨y1, y2⟩ := yes 28 (by decide) q28
            exact Or.inl ⟨y1, by rw [y2]; rfl, by rw [y2]; decide⟩
          · rw [if_neg q28, if_pos rfl]
            simp -implicitDefEqProofs only [hc_39, w29, q_I]
            by_cases q29 : wdP t n s 29 = true
            · rw [if_pos q29, if_neg (by decide)]
              obtain ⟨y1, y2⟩ := yes 29 (by decide) q29
              exact Or.inl ⟨y1, by rw [y2]; rfl, by rw [y2]; decide⟩
            · rw [if_neg q29, if_pos rfl]
              simp -implicitDefEqProofs only [hc_39, w30, q_I]
              by_cases q30 : wdP t n s 30 = true
              · rw [if_pos q30, if_neg (by decide)]
                obtain ⟨y1, y2⟩ := yes 30 (by decide) q30
                exact Or.inl ⟨y1, by rw [y2]; rfl, by rw [y2]; decide⟩
              · rw [if_neg q30, if_pos rfl]
                refine Or.inr ⟨no (fun i hi => ?_), rfl⟩
                rcases hi with rfl | rfl | rfl | rfl | rfl | rfl | rfl
                · exact q24
                · exact q25
                · exact q26
                · exact q27
                · exact q28
                · exact q29
                · exact q30
theorem r_sort0 {s p : Nat} (hR : Rp A t n) (hp : p ≤ n) (hs : tS t n p = s) (h6 : A 39 6 = nI (wE t n p)) (h8 : A 39 8 = nI s) : (iW t n s 17 23 = true ∧ ex S (d + 6) 120 [.ref 39, .int 0] (Hh k E A L T) = some (.inl (some (.int (tV t n s - 7))), Hh k E A L T) ∧ ¬ tV t n s - 7 < 0) ∨ (¬ iW t n s 17 23 = true ∧ ex S (d + 6) 120 [.ref 39, .int 0] (Hh k E A L T) = some (.inl (some (.int (-1))), Hh k E A L T)) := by
  have w23 : ex S (d + 5) 118 [.ref 39, .retAddr 119] (Hh k E A L T) = _ := r_isWd (S := S) (d := d + 1) (k := k) (E := E) (L := L) (T := T) (j := 23) (j' := 19) (by decide) (by decide) (by decide) hR hp hs h6 h8
  rw [x_X12_sortOf, g_X12_sortOf_0, if_pos rfl]
  rcases r_wordOf (S := S) (d := d) (k := k) (E := E) (L := L) (T := T) hR hp hs h6 h8 with ⟨y1, y2, y3⟩ | ⟨y1, y2⟩
  · simp -implicitDefEqProofs only [hc_39, y2, q_I]
    rw [if_pos (Int32.not_lt.mp y3)]
    refine Or.inl ⟨?_, rfl, y3⟩
    obtain ⟨k1, k2, k3⟩ := inW_k y1
    unfold iW
    simp -implicitDefEqProofs only [k1, k2, decide_true, decide_false, Bool.not_false, Bool.true_and, Bool.not_eq_true', decide_eq_false_iff_not]
    intro z
    rw [Int32.lt_iff_toInt_lt] at z k3
    have e1 : (22 : Int32).toInt = 22 := rfl
    have e2 : (23 : Int32).toInt = 23 := rfl
    omega
  · simp -implicitDefEqProofs only [hc_39, y2, q_I]
    rw [if_neg (by decide)]
    simp -implicitDefEqProofs only [hc_39, w23, q_I]
    by_cases q : wdP t n s 23 = true
    · obtain ⟨k1, k2⟩ := wd_k q
      rw [if_pos q, if_neg (by decide)]
      exact Or.inl ⟨by unfold iW; rw [k1, k2]; rfl, by rw [k2]; rfl, by rw [k2]; decide⟩
    · rw [if_neg q, if_pos rfl]
      refine Or.inr ⟨fun z => ?_, rfl⟩
      obtain ⟨k1, k2, k3⟩ := inW_k z
      by_cases e : tV t n s = 23
      · exact q (by unfold wdP; rw [k1, e]; rfl)
      · apply y1
        unfold iW
        simp -implicitDefEqProofs only [k1, k2, decide_true, decide_false, Bool.not_false, Bool.true_and, Bool.not_eq_true', decide_eq_false_iff_not]
        intro z
        apply e
        apply i32_ext
        rw [Int32.lt_iff_toInt_lt] at z k3
        have e1 : (22 : Int32).toInt = 22 := rfl
        have e2 : (23 : Int32).toInt = 23 := rfl
        omega
end RLineB
