/-! the class reads a text -/
section CLinesB
variable {S : sT} {d c D : Nat} {k : Value} {E : List dsc} {A : fA} {L : fL} {T : fT} {t : Nat → Int32} {n ln : Nat} {v fr : Int32}
def bJ (b : Bool) : Int32 := if b = true then 1 else 0
def CLv (ln : Nat) (A B : fA) : Prop := (∀ r, r ≠ 1 → r ≠ 3 → B r = A r) ∧ (∀ j, j ≠ 4 → j ≠ 5 → j ≠ 6 → j ≠ 7 → j ≠ 9 → j ≠ 10 → j ≠ 11 → B 1 j = A 1 j) ∧ ∀ i, i < 6 * ln → B 3 i = A 3 i
theorem CLv_refl : CLv ln A A := ⟨fun _ _ _ => rfl, fun _ _ _ _ _ _ _ _ => rfl, fun _ _ => rfl⟩
theorem CLv_tr {B C : fA} (h : CLv ln A B) (g : CLv ln B C) : CLv ln A C := ⟨fun r a b => (g.1 r a b).trans (h.1 r a b), fun j a b c e f x y => (g.2.1 j a b c e f x y).trans (h.2.1 j a b c e f x y), fun i hi => (g.2.2 i hi).trans (h.2.2 i hi)⟩
theorem CLv_n {B : fA} (h : CLn ln A B) : CLv ln A B := ⟨h.1, fun j a b c e _ f _ => h.2.1 j a b c e f, h.2.2⟩
theorem CLv_le {ln' : Nat} {B : fA} (hl : ln ≤ ln') (h : CLv ln' A B) : CLv ln A B := ⟨h.1, h.2.1, fun i hi => h.2.2 i (by omega)⟩
theorem CLv_w {w : Nat} {x : Int32} : CLv ln A (up A 3 (6 * ln + w) x) := CLv_n CLn_w
theorem CLv_F {B : fA} (h : CFr A B) (hl : ln ≤ 16) : CLv ln A B := CLv_n (CLn_F h hl)
theorem CLv_1 {j : Nat} {x : Int32} (hj : j = 9 ∨ j = 11) : CLv ln A (up A 1 j x) := ⟨fun r a _ => up_ne a, fun i _ _ _ _ a _ b => up_rr (by omega), fun i hi => by rw [up_ne (by decide)]⟩
theorem CSt_9 {s : Nat} {cs : Cs} {x : Int32} (h : CSt t n A s cs) : CSt t n (up A 1 9 x) s cs := by
  obtain ⟨h1, h2, ⟨k1, k2, k3, k4⟩, h4, h5⟩ := h
  refine ⟨⟨fun j hj => ?_, ?_, h1.2.2⟩, h2, ⟨?_, ?_, ?_, ?_⟩, ?_, fun j hj => ?_⟩
  · rw [up_ne (by decide)]; exact h1.1 j hj
  · rw [up_rr (by decide)]; exact h1.2.1
  · rw [up_rr (by decide)]; exact k1
  · rw [up_rr (by decide)]; exact k2
  · rw [up_rr (by decide)]; exact k3
  · rw [up_rr (by decide)]; exact k4
  · rw [up_rr (by decide)]; exact h4
  · rw [up_ne (by decide)]; exact h5 j hj
theorem c_verb0 {s g : Nat} {cs : Cs} {x1 lo hi : Int32} (h : CSt t n A s cs) (h9 : A 1 9 = nI ln) (hl : ln < 16) : (iW t n s lo hi = true ∧ ∃ B, bd S (ex S (d + 5)) dflT E_X6_takeVerb (g + 1) 23 [some (.ref 1), some (.int x1), some (.int lo), none] [.int hi] (Hh k E A L T) = some (.inl (some (.int 1)), Hh k E B L T) ∧ CSt t n B (nx t n s) cs ∧ CL ln (tV t n s) (nI cs.length) (0, 0, 0) B ∧ CLv ln A B) ∨ (¬ iW t n s lo hi = true ∧ bd S (ex S (d + 5)) dflT E_X6_takeVerb (g + 1) 23 [some (.ref 1), some (.int x1), some (.int lo), none] [.int hi] (Hh k E A L T) = some (.inl (some (.int 0)), Hh k E A L T)) := by
  obtain ⟨-, hs, ⟨-, -, k3, k4⟩, k5, -⟩ := id h
  rw [g_X6_takeVerb_23]
  simp -implicitDefEqProofs only [hg_1_6, k3, hg_1_7, k4]
  by_cases q : tK t n s = 1
  · rw [if_pos q]
    by_cases q1 : tV t n s < lo
    · right
      rw [if_pos q1, q_z0]
      exact ⟨by unfold iW; simp [q1], rfl⟩
    · rw [if_neg q1]
      by_cases q2 : tV t n s ≤ hi
      · left
        refine ⟨by unfold iW; simp [q, q1, Int32.not_lt.mpr q2], ?_⟩
        rw [if_pos q2]
        obtain ⟨A1, e1⟩ : ∃ B, B = up A 3 (6 * ln + 0) (tV t n s) := ⟨_, rfl⟩
        have w0 := c_wr (S := S) (d := d + 4) (k := k) (E := E) (L := L) (T := T) (w := 0) (x := tV t n s) (0 : Int32) rfl h9 hl (by decide)
        rw [← e1] at w0
        have r1 : A1 1 = A 1 := by rw [e1]; exact u31
        obtain ⟨A2, e2⟩ : ∃ B, B = up A1 3 (6 * ln + 1) 0 := ⟨_, rfl⟩
        have w1 := c_wr (A := A1) (S := S) (d := d + 4) (k := k) (E := E) (L := L) (T := T) (w := 1) (x := 0) (1 : Int32) rfl (by rw [r1]; exact h9) hl (by decide)
        rw [← e2] at w1
        have r2 : A2 1 = A 1 := by rw [e2, u31]; exact r1
        obtain ⟨A3, e3⟩ : ∃ B, B = up A2 3 (6 * ln + 2) 0 := ⟨_, rfl⟩
        have w2 := c_wr (A := A2) (S := S) (d := d + 4) (k := k) (E := E) (L := L) (T := T) (w := 2) (x := 0) (2 : Int32) rfl (by rw [r2]; exact h9) hl (by decide)
        rw [← e3] at w2
        have r3 : A3 1 = A 1 := by rw [e3, u31]; exact r2
        obtain ⟨A4, e4⟩ : ∃ B, B = up A3 3 (6 * ln + 3) 0 := ⟨_, rfl⟩
        have w3 := c_wr (A := A3) (S := S) (d := d + 4) (k := k) (E := E) (L := L) (T := T) (w := 3) (x := 0) (3 : Int32) rfl (by rw [r3]; exact h9) hl (by decide)
        rw [← e4] at w3
        have r4 : A4 1 = A 1 := by rw [e4, u31]; exact r3
        have z10 : A4 1 10 = nI cs.length := by rw [r4]; exact k5
        obtain ⟨A5, e5⟩ : ∃ B, B = up A4 3 (6 * ln + 4) (nI cs.length) := ⟨_, rfl⟩
        have w4 := c_wr (A := A4) (S := S) (d := d + 4) (k := k) (E := E) (L := L) (T := T) (w := 4) (x := nI cs.length) (4 : Int32) rfl (by rw [r4]; exact h9) hl (by decide)
        rw [← e5] at w4
        have r5 : A5 1 = A 1 := by rw [e5, u31]; exact r4
        have z7 : A5 1 7 = tV t n s := by rw [r5]; exact k4
        have st : CSt t n A5 s cs := by
          rw [e5, e4, e3, e2, e1]
          exact CSt_w (by omega) (CSt_w (by omega) (CSt_w (by omega) (CSt_w (by omega) (CSt_w (by omega) h))))
        obtain ⟨B, b1, b2, b3⟩ := c_nx (S := S) (d := d) (k := k) (E := E) (L := L) (T := T) (CSt_11 (x := tV t n s) st)
        simp -implicitDefEqProofs only [hc_1, w0, q_U, w1, w2, w3, hg_1_10, z10, w4, hg_1_7, z7, hp_1_11, b1, q_z1]
        refine ⟨B, rfl, b2, CL_F b3 hl ⟨by rw [up_rr (by decide), r5]; exact h9, up_ii, ?_, ?_, ?_, ?_, ?_⟩, ?_⟩
        · rw [up_ne (by decide), e5, up_rr (by omega), e4, up_rr (by omega), e3, up_rr (by omega), e2, up_rr (by omega), e1, up_ii]
        · rw [up_ne (by decide), e5, up_rr (by omega), e4, up_rr (by omega), e3, up_rr (by omega), e2, up_ii]
        · rw [up_ne (by decide), e5, up_rr (by omega), e4, up_rr (by omega), e3, up_ii]
        · rw [up_ne (by decide), e5, up_rr (by omega), e4, up_ii]
        · rw [up_ne (by decide), e5, up_ii]
        · refine CLv_tr ?_ (CLv_tr (CLv_1 (Or.inr rfl)) (CLv_F b3 (by omega)))
          rw [e5, e4, e3, e2, e1]
          exact CLv_tr CLv_w (CLv_tr CLv_w (CLv_tr CLv_w (CLv_tr CLv_w CLv_w)))
      · right
        rw [if_neg q2, q_z0]
        exact ⟨by unfold iW; simp [Int32.not_le.mp q2], rfl⟩
  · right
    rw [if_neg q, q_z0]
    exact ⟨by unfold iW; simp [q], rfl⟩
theorem c_verb {s : Nat} {cs : Cs} (b : Bool) (h : CSt t n A s cs) (h9 : A 1 9 = nI ln) (hl : ln < 16) : (iW t n s (nI (vlo b)) (nI (vhi b)) = true ∧ ∃ B, ex S (d + 6) 67 [.ref 1, .int (bJ b)] (Hh k E A L T) = some (.inl (some (.int 1)), Hh k E B L T) ∧ CSt t n B (nx t n s) cs ∧ CL ln (tV t n s) (nI cs.length) (0, 0, 0) B ∧ CLv ln A B) ∨ (¬ iW t n s (nI (vlo b)) (nI (vhi b)) = true ∧ ex S (d + 6) 67 [.ref 1, .int (bJ b)] (Hh k E A L T) = some (.inl (some (.int 0)), Hh k E A L T)) := by
  rw [x_X6_takeVerb, g_X6_takeVerb_0]
  cases b with
  | true =>
    rw [if_neg (show ¬ bJ true = 0 by decide), if_neg (show ¬ bJ true = 0 by decide)]
    exact c_verb0 (lo := 24) (hi := 30) h h9 hl
  | false =>
    rw [if_pos (show bJ false = 0 by decide), if_pos (show bJ false = 0 by decide)]
    exact c_verb0 (lo := 17) (hi := 23) h h9 hl
theorem c_rest {v : Nat} (b : Bool) (h1 : vlo b ≤ v) (h2 : v ≤ vhi b) (hl : ln < 16) : cRs S (d + 29) k E L T t n ln (if b = true then 81 else 82) v := by
  cases b with
  | true =>
    have a1 : 24 ≤ v := h1
    have a2 : v ≤ 30 := h2
    have : v = 24 ∨ v = 25 ∨ v = 26 ∨ v = 27 ∨ v = 28 ∨ v = 29 ∨ v = 30 := by omega
    rcases this with rfl | rfl | rfl | rfl | rfl | rfl | rfl
    · exact cr_24 hl
    · exact cr_25 hl
    · exact cr_26 hl
    · exact cr_27 hl
    · exact cr_28 hl
    · exact cr_29 hl
    · exact cr_30 hl
  | false =>
    have a1 : 17 ≤ v := h1
    have a2 : v ≤ 23 := h2
    have : v = 17 ∨ v = 18 ∨ v = 19 ∨ v = 20 ∨ v = 21 ∨ v = 22 ∨ v = 23 := by omega
    rcases this with rfl | rfl | rfl | rfl | rfl | rfl | rfl
    · exact cr_17 hl
    · exact cr_18 hl
    · exact cr_19 hl
    · exact cr_20 hl
    · exact cr_21 hl
    · exact cr_22 hl
    · exact cr_23 hl
theorem vb_r {v : Nat} {b : Bool} (h1 : vlo b ≤ v) (h2 : v ≤ vhi b) : 17 ≤ v ∧ v ≤ 30 := by
  cases b
  · have a : 17 ≤ v := h1
    have c : v ≤ 23 := h2
    omega
  · have a : 24 ≤ v := h1
    have c : v ≤ 30 := h2
    omega
theorem gD_a {α : Type} {l : List α} {x e : α} {i : Nat} (hi : i < l.length) : (l ++ [x]).getD i e = l.getD i e := by
  simp -implicitDefEqProofs only [List.getD_eq_getElem?_getD]; rw [List.getElem?_append_left hi]
theorem gD_z {α : Type} {l : List α} {x e : α} : (l ++ [x]).getD l.length e = x := by
  simp -implicitDefEqProofs only [List.getD_eq_getElem?_getD]; rw [List.getElem?_append_right (Nat.le_refl _), Nat.sub_self]; rfl
def ln0 : LN := (0, (0, 0, 0), 0, 0)
def CLc (A : fA) (i : Nat) (a : LN) : Prop := A 3 (6 * i + 0) = nI a.1 ∧ A 3 (6 * i + 1) = a.2.1.1 ∧ A 3 (6 * i + 2) = a.2.1.2.1 ∧ A 3 (6 * i + 3) = a.2.1.2.2 ∧ A 3 (6 * i + 4) = nI a.2.2.1 ∧ A 3 (6 * i + 5) = nI a.2.2.2
def CLs (A : fA) (acc : List LN) : Prop := ∀ i, i < acc.length → CLc A i (acc.getD i ln0)
theorem CLs_f {B : fA} {acc : List LN} (h : ∀ i, i < 6 * acc.length → B 3 i = A 3 i) (hA : CLs A acc) : CLs B acc := by
  intro i hi
  obtain ⟨a1, a2, a3, a4, a5, a6⟩ := hA i hi
  exact ⟨by rw [h _ (by omega)]; exact a1, by rw [h _ (by omega)]; exact a2, by rw [h _ (by omega)]; exact a3, by rw [h _ (by omega)]; exact a4, by rw [h _ (by omega)]; exact a5, by rw [h _ (by omega)]; exact a6⟩
theorem CLs_a {acc : List LN} {a : LN} (hA : CLs A acc) (h : CLc A acc.length a) : CLs A (acc ++ [a]) := by
  intro i hi
  rw [List.length_append] at hi
  have hi' : i < acc.length + 1 := hi
  by_cases q : i = acc.length
  · subst q; rw [gD_z]; exact h
  · rw [gD_a (by omega)]; exact hA i (by omega)
def cTo (k : Value) (E : List dsc) (L : fL) (T : fT) (A : fA) (r : Sum (List LN × Cs) Nat) (o : rO) : Prop := ∃ B b, o = some (.inl (some (.int b)), Hh k E B L T) ∧ CLv 0 A B ∧ ((∃ acc cs, r = .inl (acc, cs) ∧ b = 1 ∧ CLs B acc ∧ B 1 9 = nI acc.length ∧ B 1 10 = nI cs.length ∧ ∀ i, i < cs.length → B 3 (96 + i) = tr (cs.getD i (0, 0)).1 (cs.getD i (0, 0)).2) ∨ ∃ e, r = .inr e ∧ b = 0 ∧ B 1 5 = nI e)
theorem cTo_F {B : fA} {r : Sum (List LN × Cs) Nat} {o : rO} (h : CLv 0 A B) (g : cTo k E L T B r o) : cTo k E L T A r o := by
  obtain ⟨C, b, c1, c2, c3⟩ := g
  exact ⟨C, b, c1, CLv_tr h c2, c3⟩
theorem ct_ls (b : Bool) (m : Nat) : ∀ (i s g : Nat) (cs : Cs) (acc : List LN) (A : fA), CSt t n A s cs → A 1 9 = nI i → acc.length = i → CLs A acc → cs.length ≤ s → i + m = 16 → 2 * m + 1 ≤ g → cTo k E L T A (pLs t n b m s cs acc) (bd S (ex S (d + 29)) dflT E_X6_takeLines g 11 [some (.ref 1), some (.int (bJ b)), some (.int (nI i))] [] (Hh k E A L T)) := by
  induction m with
  | zero =>
    intro i s g cs acc A h h9 hi hA hls hm hg
    obtain ⟨g, rfl⟩ : ∃ g', g = g' + 1 := ⟨g - 1, by omega⟩
    have e : i = 16 := by omega
    rw [g_X6_takeLines_11, if_pos (show (16 : Int32) ≤ nI i by rw [e]; decide), q_z0]
    exact ⟨A, 0, rfl, CLv_refl, Or.inr ⟨s, rfl, rfl, by rw [h.2.2.1.2.1, h.2.1.2]⟩⟩
  | succ m ih =>
    intro i s g cs acc A h h9 hi hA hls hm hg
    obtain ⟨g, rfl⟩ : ∃ g', g = g' + 2 := ⟨g - 2, by omega⟩
    have hs := h.2.1
    have hl : i < 16 := by omega
    have n400 := h.1.2.2
    have ep : pLs t n b (m + 1) s cs acc = (match pLn t n b s cs with | .inl x => if tK t n x.1 = 0 then .inl (acc ++ [x.2.2], x.2.1) else if sgP t n x.1 59 = true then pLs t n b m (nx t n x.1) x.2.1 (acc ++ [x.2.2]) else .inr x.1 | .inr e => .inr e) := rfl
    have key : ∀ (B : fA) (s' : Nat) (cs' : Cs) (v fr : Nat) (q : LV), CSt t n B s' cs' → CL i (nI v) (nI fr) q B → CLv i A B → cs'.length ≤ s' → cTo k E L T A (if tK t n s' = 0 then .inl (acc ++ [(v, q, fr, cs'.length)], cs') else if sgP t n s' 59 = true then pLs t n b m (nx t n s') cs' (acc ++ [(v, q, fr, cs'.length)]) else .inr s') (bd S (ex S (d + 29)) dflT E_X6_takeLines (g + 1) 48 [some (.ref 1), some (.int (bJ b)), some (.int (nI i))] [] (Hh k E B L T)) := by
      intro B s' cs' v fr q hB hcB hF hl'
      obtain ⟨-, hs', ⟨-, k2, k3, -⟩, k5, k6⟩ := id hB
      have w1 := c_wr (S := S) (d := d + 28) (k := k) (E := E) (L := L) (T := T) (w := 5) (x := nI cs'.length) (5 : Int32) rfl hcB.1 hl (by decide)
      obtain ⟨C, hC⟩ : ∃ C, C = up (up B 3 (6 * i + 5) (nI cs'.length)) 1 9 (nI (i + 1)) := ⟨_, rfl⟩
      rw [g_X6_takeLines_48]
      simp -implicitDefEqProofs only [hg_1_10, k5, hc_1, w1, q_U, nI_p1, hp_1_9]
      rw [← hC]
      have stC : CSt t n C s' cs' := by rw [hC]; exact CSt_9 (CSt_w (by omega) hB)
      have FC : CLv i A C := by rw [hC]; exact CLv_tr hF (CLv_tr CLv_w (CLv_1 (Or.inl rfl)))
      have c9 : C 1 9 = nI (i + 1) := by rw [hC]; exact up_ii
      have c3 : ∀ j, j ≠ 6 * i + 5 → C 3 j = B 3 j := fun j hj => by rw [hC, up_ne (by decide), up_rr hj]
      have aC : CLs C (acc ++ [(v, q, fr, cs'.length)]) := by
        refine CLs_a (CLs_f (fun j hj => FC.2.2 j (by omega)) hA) ?_
        obtain ⟨a1, a2, a3, a4, a5, a6, a7⟩ := hcB
        rw [hi]
        exact ⟨by rw [c3 _ (by omega)]; exact a3, by rw [c3 _ (by omega)]; exact a4, by rw [c3 _ (by omega)]; exact a5, by rw [c3 _ (by omega)]; exact a6, by rw [c3 _ (by omega)]; exact a7, by rw [hC, up_ne (by decide)]; exact up_ii⟩
      have la : (acc ++ [(v, q, fr, cs'.length)]).length = i + 1 := by rw [List.length_append, hi]; rfl
      have z6 : C 1 6 = tK t n s' := stC.2.2.1.2.2.1
      simp -implicitDefEqProofs only [hg_1_6, z6]
      by_cases q0 : tK t n s' = 0
      · rw [if_pos q0, if_pos q0, q_z1]
        exact ⟨C, 1, rfl, CLv_le (by omega) FC, Or.inl ⟨_, _, rfl, rfl, aC, by rw [la]; exact c9, stC.2.2.2.1, stC.2.2.2.2⟩⟩
      · rw [if_neg q0, if_neg q0]
        rcases c_tkS (S := S) (d := d + 23) (k := k) (E := E) (L := L) (T := T) (x := 59) stC with ⟨y, F, f1, f2, f3⟩ | ⟨y, f1⟩
        · simp -implicitDefEqProofs only [hc_1, f1, q_I]
          rw [if_pos y, if_neg (show ¬ (1 : Int32) = 0 by decide)]
          have := (nx_c hs').2.1
          refine cTo_F (CLv_le (by omega) (CLv_tr FC (CLv_F f3 (by omega)))) (ih (i + 1) (nx t n s') g cs' (acc ++ [(v, q, fr, cs'.length)]) F f2 ?_ la ?_ (by omega) (by omega) (by omega))
          · rw [f3.2.1 9 (by decide) (by decide) (by decide) (by decide) (by decide)]; exact c9
          · exact CLs_f (fun j hj => f3.2.2 j (by rw [la] at hj; omega)) aC
        · simp -implicitDefEqProofs only [hc_1, f1, q_I]
          rw [if_neg y, if_pos trivial, q_z0]
          exact ⟨C, 0, rfl, CLv_le (by omega) FC, Or.inr ⟨s', rfl, rfl, by rw [stC.2.2.1.2.1, stC.2.1.2]⟩⟩
    rw [ep, show g + 2 = (g + 1) + 1 from rfl, g_X6_takeLines_11, if_neg (show ¬ (16 : Int32) ≤ nI i from nI_ge (b := 16) hl (by decide))]
    rcases c_verb (S := S) (d := d + 23) (k := k) (E := E) (L := L) (T := T) b h h9 hl with ⟨y, B, b1, b2, b3, b4⟩ | ⟨y, b1⟩
    · simp -implicitDefEqProofs only [hc_1, b1, q_I]
      rw [if_neg (by decide)]
      obtain ⟨v, hv, ev⟩ := nI_of (x := tV t n s) (fun z => by
        have := (inW_k y).2.1
        rw [Int32.lt_iff_toInt_lt] at this z
        rw [nI_toInt (by unfold vlo; split <;> decide)] at this
        simp at z
        omega)
      have hv1 : vlo b ≤ v ∧ v ≤ vhi b := by
        obtain ⟨a1, a2⟩ := (inW_k y).2
        rw [ev, nI_ltI (by omega) (by unfold vlo; split <;> decide)] at a1
        rw [ev, nI_ltI (by unfold vhi; split <;> decide) (by omega)] at a2
        omega
      rw [ev] at b3
      have el : pLn t n b s cs = (match rst t n v (nx t n s) cs with | .inl x => .inl (x.1, x.2.1, v, x.2.2, cs.length, x.2.1.length) | .inr e => .inr e) := by
        unfold pLn; rw [if_pos y, ev, nI_clamp hv] <;> rfl
      have n2 := (nx_c hs).2.1
      obtain ⟨C, bb, r1, r2, r3⟩ := c_rest (S := S) (d := d) (k := k) (E := E) (L := L) (T := T) b hv1.1 hv1.2 hl B (nx t n s) cs (nI cs.length) b2 (by omega) b3
      have fin : cTo k E L T A (match pLn t n b s cs with | .inl x => if tK t n x.1 = 0 then .inl (acc ++ [x.2.2], x.2.1) else if sgP t n x.1 59 = true then pLs t n b m (nx t n x.1) x.2.1 (acc ++ [x.2.2]) else .inr x.1 | .inr e => .inr e) (if bb = 0 then zR 0 (some (.inl (some (.int 0)), Hh k E C L T)) else bd S (ex S (d + 29)) dflT E_X6_takeLines (g + 1) 48 [some (.ref 1), some (.int (bJ b)), some (.int (nI i))] [] (Hh k E C L T)) := by
        rcases r3 with ⟨s', cs', q, x1, rfl, x3, x4⟩ | ⟨e, x1, rfl, x3⟩
        · rw [el, x1, if_neg (by decide)]
          have hv30 : 17 ≤ v ∧ v ≤ 30 := vb_r hv1.1 hv1.2
          obtain ⟨y1, y2, y3, -⟩ := rst_ok hv30.1 hv30.2 _ _ _ _ _ (nx_c hs).1 x1
          exact key C s' cs' v cs.length q x3 x4 (CLv_tr b4 (CLv_n r2)) (by omega)
        · rw [el, x1, if_pos rfl, q_z0]
          exact ⟨C, 0, rfl, CLv_le (by omega) (CLv_tr b4 (CLv_n r2)), Or.inr ⟨e, rfl, rfl, x3.1⟩⟩
      cases b with
      | true =>
        rw [if_neg (show ¬ bJ true = 0 by decide)]
        rw [if_pos rfl] at r1
        rw [r1, q_I]
        exact fin
      | false =>
        rw [if_pos (show bJ false = 0 by decide)]
        rw [if_neg (by decide)] at r1
        rw [r1, q_I]
        exact fin
    · simp -implicitDefEqProofs only [hc_1, b1, q_I]
      rw [if_pos trivial, q_z0]
      have el : pLn t n b s cs = .inr s := by unfold pLn; rw [if_neg y]
      rw [el]
      exact ⟨A, 0, rfl, CLv_refl, Or.inr ⟨s, rfl, rfl, by rw [h.2.2.1.2.1, hs.2]⟩⟩
/-- the class reads a text -/
theorem c_read (b : Bool) (hT : Tp A t n) : ∃ B b', ex S (d + 31) 84 [.ref 1, .int (bJ b)] (Hh k E A L T) = some (.inl (some (.int b')), Hh k E B L T) ∧ (∀ r, r ≠ 1 → r ≠ 3 → B r = A r) ∧ (∀ j, j = 0 ∨ j = 1 ∨ j = 3 ∨ j = 8 → B 1 j = A 1 j) ∧ ((∃ acc cs, pTx t n b = .inl (acc, cs) ∧ b' = 1 ∧ B 1 2 = -1 ∧ CLs B acc ∧ B 1 9 = nI acc.length ∧ B 1 10 = nI cs.length ∧ ∀ i, i < cs.length → B 3 (96 + i) = tr (cs.getD i (0, 0)).1 (cs.getD i (0, 0)).2) ∨ ∃ e, pTx t n b = .inr e ∧ b' = 0 ∧ B 1 2 = nI e) := by
  obtain ⟨A3, e3⟩ : ∃ B, B = up (up (up A 1 4 0) 1 9 0) 1 10 0 := ⟨_, rfl⟩
  have T3 : Tp A3 t n := ⟨fun i hi => by rw [e3, up_ne (by decide), up_ne (by decide), up_ne (by decide)]; exact hT.1 i hi, by rw [e3, up_rr (by decide), up_rr (by decide), up_rr (by decide)]; exact hT.2.1, hT.2.2⟩
  obtain ⟨B, b1, b2, b3⟩ := c_next (S := S) (d := d + 25) (k := k) (E := E) (L := L) (T := T) (p := 0) T3 (Nat.zero_le _) (by rw [e3, up_rr (by decide), up_rr (by decide), up_ii]; rfl)
  have B9 : B 1 9 = nI 0 := by rw [b3.2 9 (by decide) (by decide) (by decide) (by decide), e3, up_rr (by decide), up_ii]; rfl
  have B10 : B 1 10 = nI 0 := by rw [b3.2 10 (by decide) (by decide) (by decide) (by decide), e3, up_ii]; rfl
  have stB : CSt t n B (tS t n 0) [] := by
    obtain ⟨k1, k2, k3, k4⟩ := b2
    have z : (0 : Nat) ≤ n := Nat.zero_le _
    exact ⟨Tp_N T3 b3, Nm_S z, ⟨by rw [k1, tE_i z], by rw [k2, tS_i z], by rw [k3, tK_i z], by rw [k4, tV_i z]⟩, B10, fun i hi => absurd hi (Nat.not_lt_zero _)⟩
  have FB : ∀ r, r ≠ 1 → r ≠ 3 → B r = A r := fun r r1 r3 => by rw [b3.1 r r1, e3, up_ne r1, up_ne r1, up_ne r1]
  have GB : ∀ j, j = 0 ∨ j = 1 ∨ j = 3 ∨ j = 8 → B 1 j = A 1 j := fun j hj => by rw [b3.2 j (by omega) (by omega) (by omega) (by omega), e3, up_rr (by omega), up_rr (by omega), up_rr (by omega)]
  have tl : cTo k E L T B (pTx t n b) (ex S (d + 30) 83 [.ref 1, .int (bJ b)] (Hh k E B L T)) := by
    have z6 : B 1 6 = tK t n (tS t n 0) := stB.2.2.1.2.2.1
    rw [x_X6_takeLines, g_X6_takeLines_0]
    simp -implicitDefEqProofs only [hg_1_6, z6]
    unfold pTx
    by_cases q0 : tK t n (tS t n 0) = 0
    · rw [if_pos q0, if_pos q0, q_z1]
      exact ⟨B, 1, rfl, CLv_refl, Or.inl ⟨[], [], rfl, rfl, fun i hi => absurd hi (Nat.not_lt_zero _), B9, B10, fun i hi => absurd hi (Nat.not_lt_zero _)⟩⟩
    · rw [if_neg q0, if_neg q0]
      exact ct_ls b 16 0 (tS t n 0) 99999 [] [] B stB B9 rfl (fun i hi => absurd hi (Nat.not_lt_zero _)) (Nat.zero_le _) rfl (by decide)
  obtain ⟨C, b', c1, c2, c3⟩ := tl
  rw [x_X6_read, g_X6_read_0]
  simp -implicitDefEqProofs only [hp_1_4, hp_1_9, hp_1_10]
  rw [← e3]
  simp -implicitDefEqProofs only [hc_1, b1, q_U, c1, q_I]
  have FC : ∀ r, r ≠ 1 → r ≠ 3 → C r = A r := fun r r1 r3 => (c2.1 r r1 r3).trans (FB r r1 r3)
  have GC : ∀ j, j = 0 ∨ j = 1 ∨ j = 3 ∨ j = 8 → C 1 j = A 1 j := fun j hj => (c2.2.1 j (by omega) (by omega) (by omega) (by omega) (by omega) (by omega) (by omega)).trans (GB j hj)
  rcases c3 with ⟨acc, cs, x1, rfl, x3, x4, x5, x6⟩ | ⟨e, x1, rfl, x3⟩
  · rw [if_neg (by decide)]
    simp -implicitDefEqProofs only [hp_1_2, q_z1]
    exact ⟨_, 1, rfl, fun r r1 r3 => by rw [up_ne r1]; exact FC r r1 r3, fun j hj => by rw [up_rr (by omega)]; exact GC j hj, Or.inl ⟨acc, cs, x1, rfl, up_ii, CLs_f (fun i _ => by rw [up_ne (by decide)]) x3, by rw [up_rr (by decide)]; exact x4, by rw [up_rr (by decide)]; exact x5, fun i hi => by rw [up_ne (by decide)]; exact x6 i hi⟩⟩
  · rw [if_pos rfl]
    simp -implicitDefEqProofs only [hg_1_5, x3, hp_1_2, q_z0]
    exact ⟨_, 0, rfl, fun r r1 r3 => by rw [up_ne r1]; exact FC r r1 r3, fun j hj => by rw [up_rr (by omega)]; exact GC j hj, Or.inr ⟨e, x1, rfl, up_ii⟩⟩
end CLinesB
