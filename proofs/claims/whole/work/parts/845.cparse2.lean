/-! the class reads a condition, whole -/
section CParC
variable {S : sT} {d c : Nat} {k : Value} {E : List dsc} {A : fA} {L : fL} {T : fT} {W : fW} {t : Nat → Int32} {n : Nat}
theorem c_emitF {e : Nat} {x : Int32} (h : FlC A e) : ∃ B, ex S (d + 1) 75 [.ref 1, .int x] (Hh k E A L T) = some (.inl none, Hh k E B L T) ∧ FlC B e ∧ CFr A B := by
  obtain ⟨h1, c0, hc, h4⟩ := h
  rw [x_X6_emit, g_X6_emit_0]
  simp -implicitDefEqProofs only [hg_1_10, h4]
  by_cases q : c0 = 400
  · rw [if_pos (show (400 : Int32) ≤ nI c0 by rw [q]; decide)]; exact ⟨A, rfl, ⟨h1, c0, hc, h4⟩, CFr_refl⟩
  · have e96 : (96 : Int32) + nI c0 = nI (96 + c0) := by rw [show (96 : Int32) = nI 96 from rfl, nI_add]
    have z : up A 3 (96 + c0) x 1 10 = nI c0 := by rw [up_ne (by decide)]; exact h4
    simp -implicitDefEqProofs only [if_neg (show ¬ (400 : Int32) ≤ nI c0 from nI_ge (b := 400) (by omega) (by decide)), hv_1_8, hg_1_10, h4, e96, sn_3 (show 96 + c0 < 496 by omega), z, hp_1_10, nI_p1]
    exact ⟨_, rfl, ⟨by rw [up_rr (by decide), up_ne (by decide)]; exact h1, c0 + 1, by omega, up_ii⟩, fun r r1 r2 => by rw [up_ne r1, up_ne r2], fun j _ _ _ _ j10 => by rw [up_rr j10, up_ne (by decide)], fun i hi => by rw [up_ne (by decide), up_rr (by omega)]⟩
theorem Fl_of {s : Nat} {cs : Cs} (h : CSt t n A s cs) (hl : cs.length ≤ 400) : FlC A s := ⟨by rw [h.2.2.1.2.1, h.2.1.2], cs.length, hl, h.2.2.2.1⟩
theorem c_allL {q : Nat} (hq : q ≤ 6) (hf : cSim S (d + 7 + 3 * q) k E L T t n 77 [.int (nI (6 - q))] (pA t n q)) (hg : Gd t n (pA t n q)) (m : Nat) : ∀ (i s g : Nat) (cs : Cs) (A : fA), CSt t n A s cs → i + m = 401 → i ≤ s → cs.length ≤ s → m + 1 ≤ g → ∃ B b, bd S (ex S (d + 7 + 3 * q)) dflT E_X6_takeAll g 12 [some (.ref 1), some (.int (nI (6 - q))), some (.int (nI i))] [] (Hh k E A L T) = some (.inl (some (.int b)), Hh k E B L T) ∧ CFr A B ∧ ((∃ s' cs', whW t n 34 105 (pA t n q) m s cs = .inl (s', cs') ∧ b = 1 ∧ CSt t n B s' cs') ∨ ∃ e, whW t n 34 105 (pA t n q) m s cs = .inr e ∧ b = 0 ∧ FlC B e) := by
  induction m with
  | zero =>
    intro i s g cs A h hm hi _ _
    have := h.2.1.1
    have := h.1.2.2
    omega
  | succ m ih =>
    intro i s g cs A h hm hi hl hgf
    have hs := h.2.1
    have h400 := h.1.2.2
    have hsn := hs.1
    obtain ⟨g, rfl⟩ : ∃ g', g = g' + 1 := ⟨g - 1, by omega⟩
    have ew : whW t n 34 105 (pA t n q) (m + 1) s cs = if wdP t n s 34 = true then bnd ((pA t n q) (nx t n s) cs) (fun s' cs' => whW t n 34 105 (pA t n q) m s' (cs' ++ [(105, 0)])) else .inl (s, cs) := rfl
    rw [ew, g_X6_takeAll_12]
    by_cases q4 : i = 400
    · have hk : ¬ wdP t n s 34 = true := fun z => by have := K_lt hs (by rw [(wd_k z).1]; decide); omega
      rw [if_pos (show (400 : Int32) ≤ nI i by rw [q4]; decide), q_z1, if_neg hk]
      exact ⟨A, 1, rfl, CFr_refl, Or.inl ⟨s, cs, rfl, rfl, h⟩⟩
    · rw [if_neg (show ¬ (400 : Int32) ≤ nI i from nI_ge (b := 400) (by omega) (by decide))]
      have iw := c_isW (S := S) (d := d + 6 + 3 * q) (k := k) (E := E) (L := L) (T := T) (j := 34) h
      rw [show d + 6 + 3 * q + 1 = d + 7 + 3 * q by omega] at iw
      have iw' : ex S (d + 7 + 3 * q) 69 [.ref 1, .int 34] (Hh k E A L T) = _ := iw
      simp -implicitDefEqProofs only [hc_1, iw', q_I]
      by_cases qw : wdP t n s 34 = true
      · have hl2 := K_lt hs (by rw [(wd_k qw).1]; decide)
        obtain ⟨n1, n2, n3⟩ := nx_c hs
        obtain ⟨n4, -⟩ := n3 hl2
        obtain ⟨B1, e1, e2, e3⟩ := c_nx (S := S) (d := d + 2 + 3 * q) (k := k) (E := E) (L := L) (T := T) h
        rw [show d + 2 + 3 * q + 5 = d + 7 + 3 * q by omega] at e1
        obtain ⟨B2, b2, f1, f2, f3⟩ := hf B1 (nx t n s) cs e2 (by omega)
        rw [if_pos qw, if_neg (by decide), if_pos qw]
        simp -implicitDefEqProofs only [hc_1, e1, q_U, f1, q_I]
        rcases f3 with ⟨s', cs', r1, r2, r3⟩ | ⟨e, r1, r2, r3⟩
        · subst r2
          obtain ⟨a1, a2, a3, a4, -⟩ := (hg (nx t n s) cs n1).1 s' cs' r1
          have a5 := a1.1
          obtain ⟨B3, u1, u2, u3⟩ := c_emit (S := S) (d := d + 6 + 3 * q) (k := k) (E := E) (L := L) (T := T) (a := 105) (b := 0) (x := -16) r3 (by omega) (by decide)
          rw [show d + 6 + 3 * q + 1 = d + 7 + 3 * q by omega] at u1
          rw [if_neg (by decide), r1]
          simp -implicitDefEqProofs only [hc_1, u1, q_U, nI_p1]
          obtain ⟨B4, b4, v1, v2, v3⟩ := ih (i + 1) s' g (cs' ++ [(105, 0)]) B3 u2 (by omega) (by omega) (by rw [ln_a]; omega) (by omega)
          exact ⟨B4, b4, v1, CFr_tr e3 (CFr_tr f2 (CFr_tr u3 v2)), v3⟩
        · subst r2
          rw [if_pos rfl, q_z0, r1]
          exact ⟨B2, 0, rfl, CFr_tr e3 f2, Or.inr ⟨e, rfl, rfl, r3⟩⟩
      · rw [if_neg qw, if_pos rfl, q_z1, if_neg qw]
        exact ⟨A, 1, rfl, CFr_refl, Or.inl ⟨s, cs, rfl, rfl, h⟩⟩
theorem c_all {q : Nat} (hq : q ≤ 6) (hf : cSim S (d + 7 + 3 * q) k E L T t n 77 [.int (nI (6 - q))] (pA t n q)) (hg : Gd t n (pA t n q)) : cSim S (d + 8 + 3 * q) k E L T t n 78 [.int (nI (6 - q))] (pAl t n q) := by
  intro A s cs h hl
  rw [show d + 8 + 3 * q = (d + 7 + 3 * q) + 1 by omega, x_X6_takeAll, g_X6_takeAll_0]
  obtain ⟨B1, b1, f1, f2, f3⟩ := hf A s cs h hl
  simp -implicitDefEqProofs only [hc_1, f1, q_I]
  rcases f3 with ⟨s', cs', r1, r2, r3⟩ | ⟨e, r1, r2, r3⟩
  · subst r2
    obtain ⟨a1, a2, a3, a4, -⟩ := (hg s cs h.2.1).1 s' cs' r1
    rw [if_neg (by decide)]
    obtain ⟨B4, b4, v1, v2, v3⟩ := c_allL (S := S) (d := d) (k := k) (E := E) (L := L) (T := T) hq hf hg 401 0 s' 99999 cs' B1 r3 rfl (by omega) (by omega) (by decide)
    refine ⟨B4, b4, v1, CFr_tr f2 v2, ?_⟩
    have ea : (pAl t n q) s cs = whW t n 34 105 (pA t n q) 401 s' cs' := by show bnd ((pA t n q) s cs) _ = _; rw [r1]; rfl
    rw [ea]; exact v3
  · subst r2
    rw [if_pos rfl, q_z0]
    refine ⟨B1, 0, rfl, f2, Or.inr ⟨e, ?_, rfl, r3⟩⟩
    show bnd ((pA t n q) s cs) _ = _
    rw [r1]; rfl
theorem c_conL {q : Nat} (hq : q ≤ 6) (hf : cSim S (d + 8 + 3 * q) k E L T t n 78 [.int (nI (6 - q))] (pAl t n q)) (hg : Gd t n (pAl t n q)) (m : Nat) : ∀ (i s g : Nat) (cs : Cs) (A : fA), CSt t n A s cs → i + m = 401 → i ≤ s → cs.length ≤ s → m + 1 ≤ g → ∃ B b, bd S (ex S (d + 8 + 3 * q)) dflT E_X6_takeCondition g 12 [some (.ref 1), some (.int (nI (6 - q))), some (.int (nI i))] [] (Hh k E A L T) = some (.inl (some (.int b)), Hh k E B L T) ∧ CFr A B ∧ ((∃ s' cs', whW t n 35 106 (pAl t n q) m s cs = .inl (s', cs') ∧ b = 1 ∧ CSt t n B s' cs') ∨ ∃ e, whW t n 35 106 (pAl t n q) m s cs = .inr e ∧ b = 0 ∧ FlC B e) := by
  induction m with
  | zero =>
    intro i s g cs A h hm hi _ _
    have := h.2.1.1
    have := h.1.2.2
    omega
  | succ m ih =>
    intro i s g cs A h hm hi hl hgf
    have hs := h.2.1
    have h400 := h.1.2.2
    have hsn := hs.1
    obtain ⟨g, rfl⟩ : ∃ g', g = g' + 1 := ⟨g - 1, by omega⟩
    have ew : whW t n 35 106 (pAl t n q) (m + 1) s cs = if wdP t n s 35 = true then bnd ((pAl t n q) (nx t n s) cs) (fun s' cs' => whW t n 35 106 (pAl t n q) m s' (cs' ++ [(106, 0)])) else .inl (s, cs) := rfl
    rw [ew, g_X6_takeCondition_12]
    by_cases q4 : i = 400
    · have hk : ¬ wdP t n s 35 = true := fun z => by have := K_lt hs (by rw [(wd_k z).1]; decide); omega
      rw [if_pos (show (400 : Int32) ≤ nI i by rw [q4]; decide), q_z1, if_neg hk]
      exact ⟨A, 1, rfl, CFr_refl, Or.inl ⟨s, cs, rfl, rfl, h⟩⟩
    · rw [if_neg (show ¬ (400 : Int32) ≤ nI i from nI_ge (b := 400) (by omega) (by decide))]
      have iw := c_isW (S := S) (d := d + 7 + 3 * q) (k := k) (E := E) (L := L) (T := T) (j := 35) h
      rw [show d + 7 + 3 * q + 1 = d + 8 + 3 * q by omega] at iw
      have iw' : ex S (d + 8 + 3 * q) 69 [.ref 1, .int 35] (Hh k E A L T) = _ := iw
      simp -implicitDefEqProofs only [hc_1, iw', q_I]
      by_cases qw : wdP t n s 35 = true
      · have hl2 := K_lt hs (by rw [(wd_k qw).1]; decide)
        obtain ⟨n1, n2, n3⟩ := nx_c hs
        obtain ⟨n4, -⟩ := n3 hl2
        obtain ⟨B1, e1, e2, e3⟩ := c_nx (S := S) (d := d + 3 + 3 * q) (k := k) (E := E) (L := L) (T := T) h
        rw [show d + 3 + 3 * q + 5 = d + 8 + 3 * q by omega] at e1
        obtain ⟨B2, b2, f1, f2, f3⟩ := hf B1 (nx t n s) cs e2 (by omega)
        rw [if_pos qw, if_neg (by decide), if_pos qw]
        simp -implicitDefEqProofs only [hc_1, e1, q_U, f1, q_I]
        rcases f3 with ⟨s', cs', r1, r2, r3⟩ | ⟨e, r1, r2, r3⟩
        · subst r2
          obtain ⟨a1, a2, a3, a4, -⟩ := (hg (nx t n s) cs n1).1 s' cs' r1
          have a5 := a1.1
          obtain ⟨B3, u1, u2, u3⟩ := c_emit (S := S) (d := d + 7 + 3 * q) (k := k) (E := E) (L := L) (T := T) (a := 106) (b := 0) (x := -17) r3 (by omega) (by decide)
          rw [show d + 7 + 3 * q + 1 = d + 8 + 3 * q by omega] at u1
          rw [if_neg (by decide), r1]
          simp -implicitDefEqProofs only [hc_1, u1, q_U, nI_p1]
          obtain ⟨B4, b4, v1, v2, v3⟩ := ih (i + 1) s' g (cs' ++ [(106, 0)]) B3 u2 (by omega) (by omega) (by rw [ln_a]; omega) (by omega)
          exact ⟨B4, b4, v1, CFr_tr e3 (CFr_tr f2 (CFr_tr u3 v2)), v3⟩
        · subst r2
          rw [if_pos rfl, q_z0, r1]
          exact ⟨B2, 0, rfl, CFr_tr e3 f2, Or.inr ⟨e, rfl, rfl, r3⟩⟩
      · rw [if_neg qw, if_pos rfl, q_z1, if_neg qw]
        exact ⟨A, 1, rfl, CFr_refl, Or.inl ⟨s, cs, rfl, rfl, h⟩⟩
theorem c_con {q : Nat} (hq : q ≤ 6) (hf : cSim S (d + 8 + 3 * q) k E L T t n 78 [.int (nI (6 - q))] (pAl t n q)) (hg : Gd t n (pAl t n q)) : cSim S (d + 9 + 3 * q) k E L T t n 79 [.int (nI (6 - q))] (pCo t n q) := by
  intro A s cs h hl
  rw [show d + 9 + 3 * q = (d + 8 + 3 * q) + 1 by omega, x_X6_takeCondition, g_X6_takeCondition_0]
  obtain ⟨B1, b1, f1, f2, f3⟩ := hf A s cs h hl
  simp -implicitDefEqProofs only [hc_1, f1, q_I]
  rcases f3 with ⟨s', cs', r1, r2, r3⟩ | ⟨e, r1, r2, r3⟩
  · subst r2
    obtain ⟨a1, a2, a3, a4, -⟩ := (hg s cs h.2.1).1 s' cs' r1
    rw [if_neg (by decide)]
    obtain ⟨B4, b4, v1, v2, v3⟩ := c_conL (S := S) (d := d) (k := k) (E := E) (L := L) (T := T) hq hf hg 401 0 s' 99999 cs' B1 r3 rfl (by omega) (by omega) (by decide)
    refine ⟨B4, b4, v1, CFr_tr f2 v2, ?_⟩
    have ea : (pCo t n q) s cs = whW t n 35 106 (pAl t n q) 401 s' cs' := by show bnd ((pAl t n q) s cs) _ = _; rw [r1]; rfl
    rw [ea]; exact v3
  · subst r2
    rw [if_pos rfl, q_z0]
    refine ⟨B1, 0, rfl, f2, Or.inr ⟨e, ?_, rfl, r3⟩⟩
    show bnd ((pAl t n q) s cs) _ = _
    rw [r1]; rfl
/-- a comparison in the class: behind its first sum -/
theorem c_cmp {s g : Nat} {cs : Cs} {x1 : Int32} (h : CSt t n A s cs) (hl : cs.length ≤ s) : ∃ B b, (rC (Hh k E A L T) (.ref 1) 9 (cI (ex S (d + 6) 73 [.ref 1, .int 60] (Hh k E A L T)) (fun y8 h7 => rC h7 (.ref 1) 9 (cI (ex S (d + 6) 74 [.ref 1, .int 60] h7) (fun y10 h9 => (if y10 = 0 then rC h9 (.ref 1) 9 (cI (ex S (d + 6) 74 [.ref 1, .int 62] h9) (fun y12 h11 => (if y12 = 0 then (if y8 = 0 then rC h11 (.ref 1) 9 (cU (ex S (d + 6) 75 [.ref 1, .int (-14)] h11) (fun h13 => zR 0 (some (.inl (some (.int 0)), h13)))) else rC h11 (.ref 1) 9 (cU (ex S (d + 6) 75 [.ref 1, .int (-13)] h11) (fun h14 => zR 0 (some (.inl (some (.int 0)), h14))))) else bd S (ex S (d + 6)) dflT E_X6_takeAtom (g + 1) 117 [some (.ref 1), some (.int x1), some (.int 0), some (.int y8), none] [] h11))) else bd S (ex S (d + 6)) dflT E_X6_takeAtom (g + 1) 117 [some (.ref 1), some (.int x1), some (.int 0), some (.int y8), none] [] h9)))))) = some (.inl (some (.int b)), Hh k E B L T) ∧ CFr A B ∧ ((∃ s' cs', cmpT t n s cs = .inl (s', cs') ∧ b = 1 ∧ CSt t n B s' cs') ∨ ∃ e, cmpT t n s cs = .inr e ∧ b = 0 ∧ FlC B e) := by
  have hs := h.2.1
  have h400 := h.1.2.2
  have hsn := hs.1
  obtain ⟨n1, n2, n3⟩ := nx_c hs
  have fin : ∀ (y8 op code : Int32) (B0 : fA), CSt t n B0 (nx t n s) cs → CFr A B0 → s < n → (y8 = 0 ∧ op = 103 ∧ code = -14 ∨ y8 = 1 ∧ op = 102 ∧ code = -13) → ∃ B b, bd S (ex S (d + 6)) dflT E_X6_takeAtom (g + 1) 117 [some (.ref 1), some (.int x1), some (.int 0), some (.int y8), none] [] (Hh k E B0 L T) = some (.inl (some (.int b)), Hh k E B L T) ∧ CFr A B ∧ ((∃ s' cs', bnd (pSum t n (nx t n s) cs) (fun s' cs' => (.inl (s', cs' ++ [(op, 0)]) : PR)) = .inl (s', cs') ∧ b = 1 ∧ CSt t n B s' cs') ∨ ∃ e, bnd (pSum t n (nx t n s) cs) (fun s' cs' => (.inl (s', cs' ++ [(op, 0)]) : PR)) = .inr e ∧ b = 0 ∧ FlC B e) := by
    intro y8 op code B0 hB0 hF hsl hy
    obtain ⟨n4, -⟩ := n3 hsl
    obtain ⟨B2, b2, f1, f2, f3⟩ := c_sum (S := S) (d := d) (k := k) (E := E) (L := L) (T := T) B0 (nx t n s) cs hB0 (by omega)
    rw [g_X6_takeAtom_117]
    simp -implicitDefEqProofs only [hc_1, f1, q_I]
    rcases f3 with ⟨s', cs', r1, r2, r3⟩ | ⟨e, r1, r2, r3⟩
    · subst r2
      obtain ⟨a1, a2, a3, a4, -⟩ := (Gd_sum (t := t) (n := n) (nx t n s) cs n1).1 s' cs' r1
      have a5 := a1.1
      rw [if_neg (by decide), r1]
      rcases hy with ⟨rfl, rfl, rfl⟩ | ⟨rfl, rfl, rfl⟩
      · obtain ⟨B3, u1, u2, u3⟩ := c_emit (S := S) (d := d + 5) (k := k) (E := E) (L := L) (T := T) (a := 103) (b := 0) (x := -14) r3 (by omega) (by decide)
        rw [if_pos rfl]
        simp -implicitDefEqProofs only [hc_1, u1, q_U, q_z1]
        exact ⟨B3, 1, rfl, CFr_tr hF (CFr_tr f2 u3), Or.inl ⟨_, _, rfl, rfl, u2⟩⟩
      · obtain ⟨B3, u1, u2, u3⟩ := c_emit (S := S) (d := d + 5) (k := k) (E := E) (L := L) (T := T) (a := 102) (b := 0) (x := -13) r3 (by omega) (by decide)
        rw [if_neg (by decide)]
        simp -implicitDefEqProofs only [hc_1, u1, q_U, q_z1]
        exact ⟨B3, 1, rfl, CFr_tr hF (CFr_tr f2 u3), Or.inl ⟨_, _, rfl, rfl, u2⟩⟩
    · subst r2
      rw [if_pos rfl, r1]
      rcases hy with ⟨rfl, rfl, rfl⟩ | ⟨rfl, rfl, rfl⟩
      · obtain ⟨B3, u1, u2, u3⟩ := c_emitF (S := S) (d := d + 5) (k := k) (E := E) (L := L) (T := T) (x := -14) r3
        rw [if_pos rfl]
        simp -implicitDefEqProofs only [hc_1, u1, q_U, q_z0]
        exact ⟨B3, 0, rfl, CFr_tr hF (CFr_tr f2 u3), Or.inr ⟨e, rfl, rfl, u2⟩⟩
      · obtain ⟨B3, u1, u2, u3⟩ := c_emitF (S := S) (d := d + 5) (k := k) (E := E) (L := L) (T := T) (x := -13) r3
        rw [if_neg (by decide)]
        simp -implicitDefEqProofs only [hc_1, u1, q_U, q_z0]
        exact ⟨B3, 0, rfl, CFr_tr hF (CFr_tr f2 u3), Or.inr ⟨e, rfl, rfl, u2⟩⟩
  simp -implicitDefEqProofs only [hc_1, c_isS h, q_I]
  unfold cmpT
  rcases c_tkS (S := S) (d := d) (k := k) (E := E) (L := L) (T := T) (x := 60) h with ⟨q, B, e1, e2, e3⟩ | ⟨q, e1⟩
  · rw [if_pos q, if_pos q, e1]
    simp -implicitDefEqProofs only [q_I, i1_0, if_false]
    exact fin 1 102 (-13) B e2 e3 (K_lt hs (by rw [(sg_k q).1]; decide)) (Or.inr ⟨rfl, rfl, rfl⟩)
  · rw [if_neg q, if_neg q, e1]
    simp -implicitDefEqProofs only [q_I, if_true, hc_1]
    rcases c_tkS (S := S) (d := d) (k := k) (E := E) (L := L) (T := T) (x := 62) h with ⟨q2, B, f1, f2, f3⟩ | ⟨q2, f1⟩
    · rw [if_pos q2, f1]
      simp -implicitDefEqProofs only [q_I, i1_0, if_false]
      exact fin 0 103 (-14) B f2 f3 (K_lt hs (by rw [(sg_k q2).1]; decide)) (Or.inl ⟨rfl, rfl, rfl⟩)
    · obtain ⟨B3, u1, u2, u3⟩ := c_emitF (S := S) (d := d + 5) (k := k) (E := E) (L := L) (T := T) (x := -14) (Fl_of h (by omega))
      rw [if_neg q2, f1]
      simp -implicitDefEqProofs only [q_I, if_true, hc_1, u1, q_U, q_z0]
      exact ⟨B3, 0, rfl, u3, Or.inr ⟨s, rfl, rfl, u2⟩⟩
/-- an atom with what it is made of -/
theorem c_atom0 {o : Option ((Nat → Cs → PR) × (Nat → Cs → PR))} {q : Nat} (hq : q ≤ 6) (d' : Nat) (hd : d' = d + 6) (ho : (q = 0 ∧ o = none) ∨ ∃ f g, 0 < q ∧ o = some (f, g) ∧ cSim S d' k E L T t n 77 [.int (nI (6 - (q - 1)))] f ∧ cSim S d' k E L T t n 79 [.int (nI (6 - (q - 1)))] g ∧ Gd t n f ∧ Gd t n g) : cSim S (d' + 1) k E L T t n 77 [.int (nI (6 - q))] (atO t n o) := by
  subst hd
  intro A s cs h hl
  have hs := h.2.1
  have h400 := h.1.2.2
  have hsn := hs.1
  obtain ⟨n1, n2, n3⟩ := nx_c hs
  have iw : ex S (d + 6) 69 [.ref 1, .int 36] (Hh k E A L T) = _ := c_isW (S := S) (d := d + 5) (k := k) (E := E) (L := L) (T := T) (j := 36) h
  have x6 : (nI (6 - q) < 6) ↔ 0 < q := by
    rw [show (6 : Int32) = nI 6 from rfl, nI_ltI (by omega) (by decide)]; omega
  have fl0 : FlC A s := Fl_of h (by omega)
  rw [x_X6_takeAtom, g_X6_takeAtom_0]
  simp -implicitDefEqProofs only [hc_1, iw, q_I]
  unfold atO
  by_cases w : wdP t n s 36 = true
  · rw [if_pos w, if_pos w, if_neg (by decide), g_X6_takeAtom_20]
    rcases ho with ⟨rfl, rfl⟩ | ⟨f, g, hq0, rfl, hf, -, gf, -⟩
    · rw [if_neg (by decide), q_z0]
      exact ⟨A, 0, rfl, CFr_refl, Or.inr ⟨s, rfl, rfl, fl0⟩⟩
    · obtain ⟨n4, -⟩ := n3 (K_lt hs (by rw [(wd_k w).1]; decide))
      obtain ⟨B1, e1, e2, e3⟩ := c_nx (S := S) (d := d + 1) (k := k) (E := E) (L := L) (T := T) h
      obtain ⟨B2, b2, f1, f2, f3⟩ := hf B1 (nx t n s) cs e2 (by omega)
      rw [if_pos (x6.mpr hq0)]
      simp -implicitDefEqProofs only [hc_1, e1, q_U, i1_0, if_false, show nI (6 - q) + 1 = nI (6 - (q - 1)) from by rw [nI_p1]; congr 1; omega, f1, q_I]
      show ∃ B b, _ = _ ∧ _ ∧ ((∃ s' cs', bnd (f (nx t n s) cs) (fun s' cs' => (.inl (s', cs' ++ [(104, 0)]) : PR)) = .inl (s', cs') ∧ _ ∧ _) ∨ ∃ e, bnd (f (nx t n s) cs) (fun s' cs' => (.inl (s', cs' ++ [(104, 0)]) : PR)) = .inr e ∧ _ ∧ _)
      rcases f3 with ⟨s', cs', r1, r2, r3⟩ | ⟨e, r1, r2, r3⟩
      · subst r2
        obtain ⟨a1, a2, a3, a4, -⟩ := (gf (nx t n s) cs n1).1 s' cs' r1
        have a5 := a1.1
        obtain ⟨B3, u1, u2, u3⟩ := c_emit (S := S) (d := d + 5) (k := k) (E := E) (L := L) (T := T) (a := 104) (b := 0) (x := -15) r3 (by omega) (by decide)
        rw [r1]
        simp -implicitDefEqProofs only [hc_1, u1, q_U, q_z1]
        exact ⟨B3, 1, rfl, CFr_tr e3 (CFr_tr f2 u3), Or.inl ⟨_, _, rfl, rfl, u2⟩⟩
      · subst r2
        obtain ⟨B3, u1, u2, u3⟩ := c_emitF (S := S) (d := d + 5) (k := k) (E := E) (L := L) (T := T) (x := -15) r3
        rw [r1]
        simp -implicitDefEqProofs only [hc_1, u1, q_U, q_z0]
        exact ⟨B3, 0, rfl, CFr_tr e3 (CFr_tr f2 u3), Or.inr ⟨e, rfl, rfl, u2⟩⟩
  · rw [if_neg w, if_neg w, if_pos rfl]
    simp -implicitDefEqProofs only [hc_1, c_isS h, q_I]
    by_cases pr : sgP t n s 40 = true
    · rw [if_pos pr, if_pos pr, if_neg (by decide), g_X6_takeAtom_20]
      rcases ho with ⟨rfl, rfl⟩ | ⟨f, g, hq0, rfl, -, hg, -, gg⟩
      · rw [if_neg (by decide), q_z0]
        exact ⟨A, 0, rfl, CFr_refl, Or.inr ⟨s, rfl, rfl, fl0⟩⟩
      · obtain ⟨n4, -⟩ := n3 (K_lt hs (by rw [(sg_k pr).1]; decide))
        obtain ⟨B1, e1, e2, e3⟩ := c_nx (S := S) (d := d + 1) (k := k) (E := E) (L := L) (T := T) h
        obtain ⟨B2, b2, f1, f2, f3⟩ := hg B1 (nx t n s) cs e2 (by omega)
        rw [if_pos (x6.mpr hq0)]
        simp -implicitDefEqProofs only [hc_1, e1, q_U, if_true, show nI (6 - q) + 1 = nI (6 - (q - 1)) from by rw [nI_p1]; congr 1; omega, f1, q_I]
        show ∃ B b, _ = _ ∧ _ ∧ ((∃ s' cs', bnd (g (nx t n s) cs) (cls t n) = .inl (s', cs') ∧ _ ∧ _) ∨ ∃ e, bnd (g (nx t n s) cs) (cls t n) = .inr e ∧ _ ∧ _)
        rcases f3 with ⟨s', cs', r1, r2, r3⟩ | ⟨e, r1, r2, r3⟩
        · subst r2
          obtain ⟨a1, a2, a3, a4, -⟩ := (gg (nx t n s) cs n1).1 s' cs' r1
          have a5 := a1.1
          rw [r1, if_neg (by decide)]
          show ∃ B b, _ = _ ∧ _ ∧ ((∃ s'' cs'', cls t n s' cs' = .inl (s'', cs'') ∧ _ ∧ _) ∨ ∃ e, cls t n s' cs' = .inr e ∧ _ ∧ _)
          unfold cls
          rcases c_tkS (S := S) (d := d) (k := k) (E := E) (L := L) (T := T) (x := 41) r3 with ⟨q2, B, v1, v2, v3⟩ | ⟨q2, v1⟩
          · rw [if_pos q2]
            simp -implicitDefEqProofs only [hc_1, v1, q_I, i1_0, if_false, q_z1]
            exact ⟨B, 1, rfl, CFr_tr e3 (CFr_tr f2 v3), Or.inl ⟨_, _, rfl, rfl, v2⟩⟩
          · rw [if_neg q2]
            simp -implicitDefEqProofs only [hc_1, v1, q_I, if_true, q_z0]
            exact ⟨B2, 0, rfl, CFr_tr e3 f2, Or.inr ⟨s', rfl, rfl, Fl_of r3 (by omega)⟩⟩
        · subst r2
          rw [r1, if_pos rfl, q_z0]
          exact ⟨B2, 0, rfl, CFr_tr e3 f2, Or.inr ⟨e, rfl, rfl, r3⟩⟩
    · rw [if_neg pr, if_neg pr, if_pos rfl]
      obtain ⟨B2, b2, f1, f2, f3⟩ := c_sum (S := S) (d := d) (k := k) (E := E) (L := L) (T := T) A s cs h hl
      simp -implicitDefEqProofs only [hc_1, f1, q_I]
      rcases f3 with ⟨s', cs', r1, r2, r3⟩ | ⟨e, r1, r2, r3⟩
      · subst r2
        obtain ⟨a1, a2, a3, a4, -⟩ := (Gd_sum (t := t) (n := n) s cs hs).1 s' cs' r1
        rw [if_neg (by decide), r1]
        obtain ⟨B3, b3, v1, v2, v3⟩ := c_cmp (S := S) (d := d) (k := k) (E := E) (L := L) (T := T) (g := 99998) (x1 := nI (6 - q)) r3 (by omega)
        simp -implicitDefEqProofs only [hc_1] at v1
        exact ⟨B3, b3, v1, CFr_tr f2 v2, v3⟩
      · subst r2
        rw [if_pos rfl, q_z0, r1]
        exact ⟨B2, 0, rfl, f2, Or.inr ⟨e, rfl, rfl, r3⟩⟩
theorem c_atom (q : Nat) : ∀ d, q ≤ 6 → cSim S (d + 7 + 3 * q) k E L T t n 77 [.int (nI (6 - q))] (pA t n q) := by
  induction q with
  | zero =>
    intro d hq
    exact c_atom0 (d := d) (q := 0) hq (d + 6) rfl (Or.inl ⟨rfl, rfl⟩)
  | succ q ih =>
    intro d hq
    have hf := ih (d + 2) (by omega)
    have h1 := ih d (by omega)
    have h2 := c_all (S := S) (d := d) (k := k) (E := E) (L := L) (T := T) (t := t) (n := n) (q := q) (by omega) h1 (Gd_A q)
    have h3 := c_con (S := S) (d := d) (k := k) (E := E) (L := L) (T := T) (t := t) (n := n) (q := q) (by omega) h2 (Gd_L q)
    rw [show d + 2 + 7 + 3 * q = d + 3 + 3 * q + 6 by omega] at hf
    rw [show d + 8 + 1 + 3 * q = d + 3 + 3 * q + 6 by omega] at h3
    have := c_atom0 (S := S) (d := d + 3 + 3 * q) (k := k) (E := E) (L := L) (T := T) (t := t) (n := n) (o := some (pA t n q, sqO t n 35 106 (sqO t n 34 105 (pA t n q)))) (q := q + 1) hq (d + 3 + 3 * q + 6) rfl (Or.inr ⟨_, _, by omega, rfl, by rw [show q + 1 - 1 = q by omega]; exact hf, by rw [show q + 1 - 1 = q by omega]; exact h3, Gd_A q, Gd_C q⟩)
    rw [show d + 7 + 3 * (q + 1) = d + 3 + 3 * q + 6 + 1 by omega]
    exact this
theorem c_cond : cSim S (d + 27) k E L T t n 79 [.int 0] (pCo t n 6) := by
  have h1 := c_atom (S := S) (k := k) (E := E) (L := L) (T := T) (t := t) (n := n) 6 d (by decide)
  have h2 := c_all (S := S) (d := d) (k := k) (E := E) (L := L) (T := T) (t := t) (n := n) (q := 6) (by decide) h1 (Gd_A 6)
  exact c_con (S := S) (d := d) (k := k) (E := E) (L := L) (T := T) (t := t) (n := n) (q := 6) (by decide) h2 (Gd_L 6)
end CParC
