/-! the class's next token -/
section NextB
variable {S : sT} {d c : Nat} {k : Value} {E : List dsc} {A : fA} {L : fL} {T : fT} {W : fW}
def Nx (A B : fA) : Prop := (∀ r, r ≠ 1 → B r = A r) ∧ ∀ j, j ≠ 4 → j ≠ 5 → j ≠ 6 → j ≠ 7 → B 1 j = A 1 j
theorem Nx_refl : Nx A A := ⟨fun _ _ => rfl, fun _ _ _ _ _ => rfl⟩
theorem Nx_tr {B C : fA} (h : Nx A B) (g : Nx B C) : Nx A C := ⟨fun r hr => (g.1 r hr).trans (h.1 r hr), fun j a b c e => (g.2 j a b c e).trans (h.2 j a b c e)⟩
theorem Nx_4 {x : Int32} : Nx A (up A 1 4 x) := ⟨fun r hr => up_ne hr, fun j a _ _ _ => up_rr a⟩
theorem Nx_5 {x : Int32} : Nx A (up A 1 5 x) := ⟨fun r hr => up_ne hr, fun j _ a _ _ => up_rr a⟩
theorem Nx_6 {x : Int32} : Nx A (up A 1 6 x) := ⟨fun r hr => up_ne hr, fun j _ _ a _ => up_rr a⟩
theorem Nx_7 {x : Int32} : Nx A (up A 1 7 x) := ⟨fun r hr => up_ne hr, fun j _ _ _ a => up_rr a⟩
def Tk (B : fA) (t : Nat → Int32) (n p : Nat) : Prop := B 1 4 = nI (tE t n p) ∧ B 1 5 = nI (tS t n p) ∧ B 1 6 = tK t n p ∧ B 1 7 = tV t n p
/-- the tape lies there, so long -/
def Tp (A : fA) (t : Nat → Int32) (n : Nat) : Prop := (∀ i, i < 400 → A 2 i = t i) ∧ A 1 3 = nI n ∧ n ≤ 400
theorem Tp_N {B : fA} {t : Nat → Int32} {n : Nat} (h : Tp A t n) (g : Nx A B) : Tp B t n := ⟨fun i hi => by rw [g.1 2 (by decide)]; exact h.1 i hi, by rw [g.2 3 (by decide) (by decide) (by decide) (by decide)]; exact h.2.1, h.2.2⟩
theorem c_nxB {t : Nat → Int32} {n p g n0 : Nat} (hT : Tp A t n) (hp : p ≤ n) (h4 : A 1 4 = nI p) (hg : g + 1 + (tS t n p - p) ≤ n0) : ∃ B g', g ≤ g' ∧ bd S (ex S (d + 4)) dflT E_X6_next n0 0 [some (.ref 1)] [] (Hh k E A L T) = bd S (ex S (d + 4)) dflT E_X6_next g' 38 [some (.ref 1)] [] (Hh k E B L T) ∧ B 1 4 = nI (tS t n p) ∧ Nx A B := by
  obtain ⟨a1, a2, a3, a4⟩ := run_c isB t (n := n) (p := p) hp
  have hs := tS_c (t := t) hp
  have h400 := hT.2.2
  obtain ⟨B, g', hg', f1, f2, f3⟩ := loop_RK (K := 1) (α := fA) (F := fun g f B => bd S (ex S (d + 4)) dflT E_X6_next g 0 [some (.ref 1)] [] (Hh k E B L T)) (N := tS t n p - p) (P := fun f B => B 1 4 = nI (p + f) ∧ Nx A B) (s := A) (by
    rintro g f B hf ⟨b1, b2⟩
    have tb := Tp_N hT b2
    have e := a3 (p + f) (by omega) (by unfold tS at hf; omega)
    unfold isB at e
    rw [decide_eq_true_eq] at e
    rw [g_X6_next_0]
    simp -implicitDefEqProofs only [hg_1_4, b1, hg_1_3, tb.2.1, if_neg (show ¬ nI n ≤ nI (p + f) from nI_ge (by omega) (by omega)), hv_1_0, an_2 (show p + f < 400 by omega), tb.1 (p + f) (by omega), if_pos e, hp_1_4, nI_p1]
    exact ⟨_, g, Nat.le_refl _, rfl, up_ii, Nx_tr b2 Nx_4⟩) ⟨h4, Nx_refl⟩ (g + 1) n0 (by omega)
  have f1' : bd S (ex S (d + 4)) dflT E_X6_next n0 0 [some (.ref 1)] [] (Hh k E A L T) = _ := f1
  obtain ⟨g2, rfl⟩ : ∃ g2, g' = g2 + 1 := ⟨g' - 1, by omega⟩
  rw [show p + (tS t n p - p) = tS t n p by omega] at f2
  have tb := Tp_N hT f3
  rw [f1', g_X6_next_0]
  refine ⟨B, g2, by omega, ?_, f2, f3⟩
  by_cases q : n ≤ tS t n p
  · simp -implicitDefEqProofs only [hg_1_4, f2, hg_1_3, tb.2.1, if_pos ((nI_leI (by omega) (by omega)).mpr q)]
  · have e := a4 (by unfold tS at q; omega)
    unfold isB at e
    rw [decide_eq_false_iff_not] at e
    simp -implicitDefEqProofs only [hg_1_4, f2, hg_1_3, tb.2.1, if_neg (show ¬ nI n ≤ nI (tS t n p) from nI_ge (by omega) (by omega)), hv_1_0, an_2 (show tS t n p < 400 by omega), tb.1 (tS t n p) (by omega), if_neg (show ¬ t (tS t n p) = 32 from e)]
theorem c_nxL {t : Nat → Int32} {n s e g n0 : Nat} (hT : Tp A t n) (hs : s ≤ n) (he : e = run isL t n s) (h4 : A 1 4 = nI s) (h5 : A 1 5 = nI s) (hg : g + 1 + (e - s) ≤ n0) : ∃ B, bd S (ex S (d + 4)) dflT E_X6_next n0 90 [some (.ref 1)] [] (Hh k E A L T) = some (.inl none, Hh k E B L T) ∧ B 1 4 = nI e ∧ B 1 7 = wdx t s e ∧ B 1 5 = nI s ∧ B 1 6 = A 1 6 ∧ Nx A B := by
  obtain ⟨a1, a2, a3, a4⟩ := run_c isL t (n := n) (p := s) hs
  rw [← he] at a1 a2 a3 a4
  have h400 := hT.2.2
  obtain ⟨B, g', hg', f1, f2, f3, f4, f5⟩ := loop_RK (K := 1) (α := fA) (F := fun g f B => bd S (ex S (d + 4)) dflT E_X6_next g 90 [some (.ref 1)] [] (Hh k E B L T)) (N := e - s) (P := fun f B => B 1 4 = nI (s + f) ∧ Nx A B ∧ B 1 5 = nI s ∧ B 1 6 = A 1 6) (s := A) (by
    rintro g f B hf ⟨b1, b2, b3, b4⟩
    have tb := Tp_N hT b2
    have e := a3 (s + f) (by omega) (by omega)
    rw [g_X6_next_90]
    simp -implicitDefEqProofs only [hg_1_4, b1, hg_1_3, tb.2.1, if_neg (show ¬ nI n ≤ nI (s + f) from nI_ge (by omega) (by omega)), hv_1_0, an_2 (show s + f < 400 by omega), tb.1 (s + f) (by omega), c_let, e, if_true, q_I, i1_0, if_false, hp_1_4, nI_p1]
    exact ⟨_, g, Nat.le_refl _, rfl, up_ii, Nx_tr b2 Nx_4, by rw [up_rr (by decide)]; exact b3, by rw [up_rr (by decide)]; exact b4⟩) ⟨h4, Nx_refl, h5, rfl⟩ (g + 1) n0 (by omega)
  have f1' : bd S (ex S (d + 4)) dflT E_X6_next n0 90 [some (.ref 1)] [] (Hh k E A L T) = _ := f1
  obtain ⟨g2, rfl⟩ : ∃ g2, g' = g2 + 1 := ⟨g' - 1, by omega⟩
  rw [show s + (e - s) = e by omega] at f2
  have tb := Tp_N hT f3
  have hw := c_wf (S := S) (d := d) (k := k) (E := E) (L := L) (T := T) (s := s) (e := e) tb.1 (by omega) a1 f2
  rw [f1', g_X6_next_90]
  refine ⟨up B 1 7 (wdx t s e), ?_, by rw [up_rr (by decide)]; exact f2, up_ii, by rw [up_rr (by decide)]; exact f4, by rw [up_rr (by decide)]; exact f5, Nx_tr f3 Nx_7⟩
  by_cases q : n ≤ e
  · simp -implicitDefEqProofs only [hg_1_4, f2, hg_1_3, tb.2.1, if_pos ((nI_leI (by omega) (by omega)).mpr q), hg_1_5, f4, hc_1, hw, q_I, hp_1_7]
  · have z := a4 (by omega)
    simp -implicitDefEqProofs only [hg_1_4, f2, hg_1_3, tb.2.1, if_neg (show ¬ nI n ≤ nI e from nI_ge (by omega) (by omega)), hv_1_0, an_2 (show e < 400 by omega), tb.1 e (by omega), c_let, z, Bool.false_eq_true, if_false, if_true, q_I, hg_1_5, f4, hc_1, hw, hp_1_7]
theorem c_nxD {t : Nat → Int32} {n s e g n0 : Nat} (hT : Tp A t n) (hs : s ≤ n) (he : e = run isD t n s) (h4 : A 1 4 = nI s) (h5 : A 1 5 = nI s) (h7 : A 1 7 = 0) (hg : g + 1 + (e - s) ≤ n0) : ∃ B, bd S (ex S (d + 4)) dflT E_X6_next n0 164 [some (.ref 1)] [] (Hh k E A L T) = some (.inl none, Hh k E B L T) ∧ B 1 4 = nI e ∧ B 1 7 = nvc t s (e - s) ∧ B 1 5 = nI s ∧ B 1 6 = A 1 6 ∧ Nx A B := by
  obtain ⟨a1, a2, a3, a4⟩ := run_c isD t (n := n) (p := s) hs
  rw [← he] at a1 a2 a3 a4
  have h400 := hT.2.2
  obtain ⟨B, g', hg', f1, f2, f3, f4, f5, f6⟩ := loop_RK (K := 1) (α := fA) (F := fun g f B => bd S (ex S (d + 4)) dflT E_X6_next g 164 [some (.ref 1)] [] (Hh k E B L T)) (N := e - s) (P := fun f B => B 1 4 = nI (s + f) ∧ Nx A B ∧ B 1 5 = nI s ∧ B 1 6 = A 1 6 ∧ B 1 7 = nvc t s f) (s := A) (by
    rintro g f B hf ⟨b1, b2, b3, b4, b5⟩
    have tb := Tp_N hT b2
    have e := a3 (s + f) (by omega) (by omega)
    have ed : nI (s + f) - nI s = nI f := by rw [sub_n (by omega) (by omega), show s + f - s = f by omega]
    rw [g_X6_next_164]
    simp -implicitDefEqProofs only [hg_1_4, b1, hg_1_3, tb.2.1, if_neg (show ¬ nI n ≤ nI (s + f) from nI_ge (by omega) (by omega)), hv_1_0, an_2 (show s + f < 400 by omega), tb.1 (s + f) (by omega), c_dig0, e, if_true, q_I, i1_0, if_false, hg_1_5, b3, ed]
    by_cases q : 6 ≤ f
    · rw [if_pos (show (6 : Int32) ≤ nI f from (nI_leI (a := 6) (by decide) (by omega)).mpr q)]
      have z4 : up B 1 7 1000000 1 4 = nI (s + f) := by rw [up_rr (by decide)]; exact b1
      simp -implicitDefEqProofs only [hp_1_7, hg_1_4, z4, hp_1_4, nI_p1]
      refine ⟨_, g, Nat.le_refl _, rfl, up_ii, Nx_tr b2 (Nx_tr Nx_7 Nx_4), by rw [up_rr (by decide), up_rr (by decide)]; exact b3, by rw [up_rr (by decide), up_rr (by decide)]; exact b4, ?_⟩
      rw [up_rr (by decide), up_ii]
      unfold nvc
      rw [if_neg (by omega)]
    · rw [if_neg (show ¬ (6 : Int32) ≤ nI f from nI_ge (b := 6) (by omega) (by decide))]
      have z4 : up B 1 7 (nvc t s f * 10 + t (s + f) - 48) 1 4 = nI (s + f) := by rw [up_rr (by decide)]; exact b1
      simp -implicitDefEqProofs only [hg_1_7, b5, hv_1_0, hg_1_4, b1, an_2 (show s + f < 400 by omega), tb.1 (s + f) (by omega), hp_1_7, z4, hp_1_4, nI_p1]
      refine ⟨_, g, Nat.le_refl _, rfl, up_ii, Nx_tr b2 (Nx_tr Nx_7 Nx_4), by rw [up_rr (by decide), up_rr (by decide)]; exact b3, by rw [up_rr (by decide), up_rr (by decide)]; exact b4, ?_⟩
      rw [up_rr (by decide), up_ii]
      unfold nvc
      rw [if_pos (by omega), if_pos (by omega)]
      rfl) ⟨h4, Nx_refl, h5, rfl, h7⟩ (g + 1) n0 (by omega)
  have f1' : bd S (ex S (d + 4)) dflT E_X6_next n0 164 [some (.ref 1)] [] (Hh k E A L T) = _ := f1
  obtain ⟨g2, rfl⟩ : ∃ g2, g' = g2 + 1 := ⟨g' - 1, by omega⟩
  rw [show s + (e - s) = e by omega] at f2
  have tb := Tp_N hT f3
  rw [f1', g_X6_next_164]
  refine ⟨B, ?_, f2, f6, f4, f5, f3⟩
  by_cases q : n ≤ e
  · simp -implicitDefEqProofs only [hg_1_4, f2, hg_1_3, tb.2.1, if_pos ((nI_leI (by omega) (by omega)).mpr q)]
  · have z := a4 (by omega)
    simp -implicitDefEqProofs only [hg_1_4, f2, hg_1_3, tb.2.1, if_neg (show ¬ nI n ≤ nI e from nI_ge (by omega) (by omega)), hv_1_0, an_2 (show e < 400 by omega), tb.1 e (by omega), c_dig0, z, Bool.false_eq_true, if_false, if_true, q_I]
theorem c_next {t : Nat → Int32} {n p : Nat} (hT : Tp A t n) (hp : p ≤ n) (h4 : A 1 4 = nI p) : ∃ B, ex S (d + 5) 65 [.ref 1] (Hh k E A L T) = some (.inl none, Hh k E B L T) ∧ Tk B t n p ∧ Nx A B := by
  have h400 := hT.2.2
  have hs := tS_c (t := t) hp
  obtain ⟨B, g', hg', e1, e2, e3⟩ := c_nxB (S := S) (d := d) (k := k) (E := E) (L := L) (T := T) (g := 90000) (n0 := 100000) hT hp h4 (by omega)
  rw [x_X6_next, e1]
  obtain ⟨g2, rfl⟩ : ∃ g2, g' = g2 + 1 := ⟨g' - 1, by omega⟩
  have tb := Tp_N hT e3
  generalize hsv : tS t n p = s at *
  have y4 : up (up B 1 5 (nI s)) 1 7 0 1 4 = nI s := by rw [up_rr (by decide), up_rr (by decide)]; exact e2
  have y3 : up (up B 1 5 (nI s)) 1 7 0 1 3 = nI n := by rw [up_rr (by decide), up_rr (by decide)]; exact tb.2.1
  have y2 : up (up B 1 5 (nI s)) 1 7 0 2 = B 2 := by rw [up_ne (by decide), up_ne (by decide)]
  have y5 : up (up B 1 5 (nI s)) 1 7 0 1 5 = nI s := by rw [up_rr (by decide), up_ii]
  have y7 : up (up B 1 5 (nI s)) 1 7 0 1 7 = 0 := up_ii
  have nx : Nx A (up (up B 1 5 (nI s)) 1 7 0) := Nx_tr e3 (Nx_tr Nx_5 Nx_7)
  rw [g_X6_next_38]
  simp -implicitDefEqProofs only [hg_1_4, e2, hp_1_5, hp_1_7]
  generalize up (up B 1 5 (nI s)) 1 7 0 = C at *
  have tc := Tp_N hT nx
  simp -implicitDefEqProofs only [hg_1_4, y4, hg_1_3, y3]
  by_cases q : n ≤ s
  · rw [if_neg (show ¬ nI s < nI n from nI_nlt (by omega) (by omega))]
    simp -implicitDefEqProofs only [hp_1_6]
    refine ⟨_, rfl, ⟨?_, ?_, ?_, ?_⟩, Nx_tr nx Nx_6⟩
    · rw [up_rr (by decide), y4]; unfold tE; rw [hsv, if_pos q]
    · rw [up_rr (by decide), y5, hsv]
    · rw [up_ii]; unfold tK; rw [hsv, if_pos q]
    · rw [up_rr (by decide), y7]; unfold tV; rw [hsv, if_pos q]
  · rw [if_pos (show nI s < nI n from nI_lt (by omega) (by omega))]
    simp -implicitDefEqProofs only [hv_1_0, hg_1_4, y4, an_2 (show s < 400 by omega), tc.1 s (by omega), c_let, q_I]
    by_cases l : isL (t s) = true
    · rw [if_pos l, if_neg (by decide)]
      simp -implicitDefEqProofs only [hp_1_6]
      obtain ⟨D, d1, d2, d3, d4, d5, d6⟩ := c_nxL (S := S) (d := d) (k := k) (E := E) (L := L) (T := T) (A := up C 1 6 1) (t := t) (n := n) (s := s) (e := run isL t n s) (g := 80000) (n0 := g2) (Tp_N tc Nx_6) (by omega) rfl (by rw [up_rr (by decide)]; exact y4) (by rw [up_rr (by decide)]; exact y5) (by have := (run_c isL t (n := n) (p := s) (by omega)).2.1; omega)
      have eE : tE t n p = run isL t n s := by unfold tE; rw [hsv, if_neg q, if_pos l]
      refine ⟨D, d1, ⟨?_, ?_, ?_, ?_⟩, Nx_tr (Nx_tr nx Nx_6) d6⟩
      · rw [d2, eE]
      · rw [d4, hsv]
      · rw [d5, up_ii]; unfold tK; rw [hsv, if_neg q, if_pos l]
      · rw [d3]; unfold tV; rw [eE, hsv, if_neg q, if_pos l]
    · rw [if_neg l, if_pos rfl]
      simp -implicitDefEqProofs only [hv_1_0, hg_1_4, y4, an_2 (show s < 400 by omega), tc.1 s (by omega), c_dig0, q_I]
      by_cases gd : isD (t s) = true
      · rw [if_pos gd, if_neg (by decide)]
        simp -implicitDefEqProofs only [hp_1_6]
        obtain ⟨D, d1, d2, d3, d4, d5, d6⟩ := c_nxD (S := S) (d := d) (k := k) (E := E) (L := L) (T := T) (A := up C 1 6 2) (t := t) (n := n) (s := s) (e := run isD t n s) (g := 80000) (n0 := g2) (Tp_N tc Nx_6) (by omega) rfl (by rw [up_rr (by decide)]; exact y4) (by rw [up_rr (by decide)]; exact y5) (by rw [up_rr (by decide)]; exact y7) (by have := (run_c isD t (n := n) (p := s) (by omega)).2.1; omega)
        have eE : tE t n p = run isD t n s := by unfold tE; rw [hsv, if_neg q, if_neg l, if_pos gd]
        refine ⟨D, d1, ⟨?_, ?_, ?_, ?_⟩, Nx_tr (Nx_tr nx Nx_6) d6⟩
        · rw [d2, eE]
        · rw [d4, hsv]
        · rw [d5, up_ii]; unfold tK; rw [hsv, if_neg q, if_neg l, if_pos gd]
        · rw [d3]; unfold tV; rw [eE, hsv, if_neg q, if_neg l, if_pos gd]
      · rw [if_neg gd, if_pos rfl]
        have z4 : up C 1 6 3 1 4 = nI s := by rw [up_rr (by decide)]; exact y4
        have z2 : up C 1 6 3 2 s = t s := by rw [up_ne (by decide)]; exact tc.1 s (by omega)
        have w4 : up (up C 1 6 3) 1 7 (t s) 1 4 = nI s := by rw [up_rr (by decide)]; exact z4
        simp -implicitDefEqProofs only [hp_1_6, hv_1_0, hg_1_4, z4, an_2 (show s < 400 by omega), z2, hp_1_7, w4, hp_1_4, nI_p1]
        refine ⟨_, rfl, ⟨?_, ?_, ?_, ?_⟩, Nx_tr nx (Nx_tr (Nx_tr Nx_6 Nx_7) Nx_4)⟩
        · rw [up_ii]; unfold tE; rw [hsv, if_neg q, if_neg l, if_neg gd]
        · rw [up_rr (by decide), up_rr (by decide), up_rr (by decide), y5, hsv]
        · rw [up_rr (by decide), up_rr (by decide), up_ii]; unfold tK; rw [hsv, if_neg q, if_neg l, if_neg gd]
        · rw [up_rr (by decide), up_ii]; unfold tV; rw [hsv, if_neg q, if_neg l, if_neg gd]
end NextB
