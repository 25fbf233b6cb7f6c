/-! the reference reads a condition, whole -/
section RParD
variable {S : sT} {d c : Nat} {k : Value} {E : List dsc} {A : fA} {L : fL} {T : fT} {W : fW} {t : Nat → Int32} {n : Nat}
theorem r_allL {q : Nat} (hq : q ≤ 6) (hf : rSim S (d + 7 + 3 * q) k E L T t n 132 (nI (6 - q)) (pA t n q)) (hg : Gd t n (pA t n q)) (m : Nat) : ∀ (i s g : Nat) (cs : Cs) (A : fA), RSt t n A s cs → i + m = 401 → i ≤ s → cs.length ≤ s → A 39 9 = nI (6 - q) → m + 1 ≤ g → ∃ B b, bd S (ex S (d + 7 + 3 * q)) dflT E_X12_readAllOf g 9 [some (.ref 39)] [] (Hh k E A L T) = some (.inl (some (.int b)), Hh k E B L T) ∧ RFr A B ∧ ((∃ s' cs', whW t n 34 105 (pA t n q) m s cs = .inl (s', cs') ∧ b = 1 ∧ RSt t n B s' cs' ∧ B 39 9 = nI (6 - q)) ∨ ∃ e, whW t n 34 105 (pA t n q) m s cs = .inr e ∧ b = 0 ∧ B 39 8 = nI e) := by
  induction m with
  | zero =>
    intro i s g cs A h hm hi _ _ _
    have := h.2.1.1
    have := h.1.2.2
    omega
  | succ m ih =>
    intro i s g cs A h hm hi hl h9 hgf
    have hn := h.2.1
    have h400 := h.1.2.2
    have hsn := hn.1
    obtain ⟨g, rfl⟩ : ∃ g', g = g' + 1 := ⟨g - 1, by omega⟩
    have ew : whW t n 34 105 (pA t n q) (m + 1) s cs = if wdP t n s 34 = true then bnd ((pA t n q) (nx t n s) cs) (fun s' cs' => whW t n 34 105 (pA t n q) m s' (cs' ++ [(105, 0)])) else .inl (s, cs) := rfl
    obtain ⟨B, b1, b2, b3, b4⟩ := r_ps (S := S) (d := d + 2 + 3 * q) (k := k) (E := E) (L := L) (T := T) (j := 34) (j' := 41) (by decide) (by decide) (by decide) h
    rw [show d + 2 + 3 * q + 5 = d + 7 + 3 * q by omega] at b1
    have b1' : ex S (d + 7 + 3 * q) 126 [.ref 39, .retAddr 141] (Hh k E A L T) = _ := b1
    have b9 : B 39 9 = nI (6 - q) := by rw [b4.2 9 (by decide) (by decide)]; exact h9
    rw [ew, g_X12_readAllOf_9]
    simp -implicitDefEqProofs only [hc_39, b1', q_I]
    by_cases qw : wdP t n s 34 = true
    · have hlt := K_lt hn (by rw [(wd_k qw).1]; decide)
      obtain ⟨n1, n2, n3⟩ := nx_c hn
      obtain ⟨n4, -⟩ := n3 hlt
      rw [if_pos qw] at b2
      rw [if_pos qw, if_neg (by decide), if_pos qw]
      obtain ⟨C, b5, c1, c2, c3⟩ := hf B (nx t n s) cs b2 (by omega) b9
      simp -implicitDefEqProofs only [hc_39, c1, q_I]
      rcases c3 with ⟨s', cs', r1, r2, r3, r4⟩ | ⟨e, r1, r2, r3⟩
      · subst r2
        obtain ⟨a1, a2, a3, a4, -⟩ := (hg (nx t n s) cs n1).1 s' cs' r1
        have a5 := a1.1
        obtain ⟨D, d1, d2, d3, d4, d5⟩ := r_adds (S := S) (d := d + 5 + 3 * q) (k := k) (E := E) (L := L) (T := T) (a := 105) (b := 0) r3 (by omega)
        rw [show d + 5 + 3 * q + 2 = d + 7 + 3 * q by omega] at d1
        rw [if_neg (by decide), r1]
        simp -implicitDefEqProofs only [hc_39, d1, q_U]
        obtain ⟨F, b6, f1, f2, f3⟩ := ih (i + 1) s' g (cs' ++ [(105, 0)]) D d2 (by omega) (by omega) (by rw [ln_a]; omega) (by rw [d4]; exact r4) (by omega)
        exact ⟨F, b6, f1, RFr_tr (RFr_R b4) (RFr_tr c2 (RFr_tr d3 f2)), f3⟩
      · subst r2
        rw [if_pos rfl, q_z0, r1]
        exact ⟨C, 0, rfl, RFr_tr (RFr_R b4) c2, Or.inr ⟨e, rfl, rfl, r3⟩⟩
    · rw [if_neg qw] at b2
      rw [if_neg qw, if_pos rfl, q_z1, if_neg qw]
      exact ⟨B, 1, rfl, RFr_R b4, Or.inl ⟨s, cs, rfl, rfl, b2, b9⟩⟩
theorem r_all {q : Nat} (hq : q ≤ 6) (hf : rSim S (d + 7 + 3 * q) k E L T t n 132 (nI (6 - q)) (pA t n q)) (hg : Gd t n (pA t n q)) : rSim S (d + 8 + 3 * q) k E L T t n 133 (nI (6 - q)) (pAl t n q) := by
  intro A s cs h hl h9
  rw [show d + 8 + 3 * q = (d + 7 + 3 * q) + 1 by omega, x_X12_readAllOf, g_X12_readAllOf_0]
  obtain ⟨B1, b1, f1, f2, f3⟩ := hf A s cs h hl h9
  simp -implicitDefEqProofs only [hc_39, f1, q_I]
  rcases f3 with ⟨s', cs', r1, r2, r3, r4⟩ | ⟨e, r1, r2, r3⟩
  · subst r2
    obtain ⟨a1, a2, a3, a4, -⟩ := (hg s cs h.2.1).1 s' cs' r1
    rw [if_neg (by decide)]
    obtain ⟨B4, b4, v1, v2, v3⟩ := r_allL (S := S) (d := d) (k := k) (E := E) (L := L) (T := T) hq hf hg 401 0 s' 99999 cs' B1 r3 rfl (by omega) (by omega) r4 (by decide)
    refine ⟨B4, b4, v1, RFr_tr f2 v2, ?_⟩
    have ea : (pAl t n q) s cs = whW t n 34 105 (pA t n q) 401 s' cs' := by show bnd ((pA t n q) s cs) _ = _; rw [r1]; rfl
    rw [ea]; exact v3
  · subst r2
    rw [if_pos rfl, q_z0]
    refine ⟨B1, 0, rfl, f2, Or.inr ⟨e, ?_, rfl, r3⟩⟩
    show bnd ((pA t n q) s cs) _ = _
    rw [r1]; rfl
theorem r_conL {q : Nat} (hq : q ≤ 6) (hf : rSim S (d + 8 + 3 * q) k E L T t n 133 (nI (6 - q)) (pAl t n q)) (hg : Gd t n (pAl t n q)) (m : Nat) : ∀ (i s g : Nat) (cs : Cs) (A : fA), RSt t n A s cs → i + m = 401 → i ≤ s → cs.length ≤ s → A 39 9 = nI (6 - q) → m + 1 ≤ g → ∃ B b, bd S (ex S (d + 8 + 3 * q)) dflT E_X12_readCond g 9 [some (.ref 39)] [] (Hh k E A L T) = some (.inl (some (.int b)), Hh k E B L T) ∧ RFr A B ∧ ((∃ s' cs', whW t n 35 106 (pAl t n q) m s cs = .inl (s', cs') ∧ b = 1 ∧ RSt t n B s' cs' ∧ B 39 9 = nI (6 - q)) ∨ ∃ e, whW t n 35 106 (pAl t n q) m s cs = .inr e ∧ b = 0 ∧ B 39 8 = nI e) := by
  induction m with
  | zero =>
    intro i s g cs A h hm hi _ _ _
    have := h.2.1.1
    have := h.1.2.2
    omega
  | succ m ih =>
    intro i s g cs A h hm hi hl h9 hgf
    have hn := h.2.1
    have h400 := h.1.2.2
    have hsn := hn.1
    obtain ⟨g, rfl⟩ : ∃ g', g = g' + 1 := ⟨g - 1, by omega⟩
    have ew : whW t n 35 106 (pAl t n q) (m + 1) s cs = if wdP t n s 35 = true then bnd ((pAl t n q) (nx t n s) cs) (fun s' cs' => whW t n 35 106 (pAl t n q) m s' (cs' ++ [(106, 0)])) else .inl (s, cs) := rfl
    obtain ⟨B, b1, b2, b3, b4⟩ := r_ps (S := S) (d := d + 3 + 3 * q) (k := k) (E := E) (L := L) (T := T) (j := 35) (j' := 42) (by decide) (by decide) (by decide) h
    rw [show d + 3 + 3 * q + 5 = d + 8 + 3 * q by omega] at b1
    have b1' : ex S (d + 8 + 3 * q) 126 [.ref 39, .retAddr 142] (Hh k E A L T) = _ := b1
    have b9 : B 39 9 = nI (6 - q) := by rw [b4.2 9 (by decide) (by decide)]; exact h9
    rw [ew, g_X12_readCond_9]
    simp -implicitDefEqProofs only [hc_39, b1', q_I]
    by_cases qw : wdP t n s 35 = true
    · have hlt := K_lt hn (by rw [(wd_k qw).1]; decide)
      obtain ⟨n1, n2, n3⟩ := nx_c hn
      obtain ⟨n4, -⟩ := n3 hlt
      rw [if_pos qw] at b2
      rw [if_pos qw, if_neg (by decide), if_pos qw]
      obtain ⟨C, b5, c1, c2, c3⟩ := hf B (nx t n s) cs b2 (by omega) b9
      simp -implicitDefEqProofs only [hc_39, c1, q_I]
      rcases c3 with ⟨s', cs', r1, r2, r3, r4⟩ | ⟨e, r1, r2, r3⟩
      · subst r2
        obtain ⟨a1, a2, a3, a4, -⟩ := (hg (nx t n s) cs n1).1 s' cs' r1
        have a5 := a1.1
        obtain ⟨D, d1, d2, d3, d4, d5⟩ := r_adds (S := S) (d := d + 6 + 3 * q) (k := k) (E := E) (L := L) (T := T) (a := 106) (b := 0) r3 (by omega)
        rw [show d + 6 + 3 * q + 2 = d + 8 + 3 * q by omega] at d1
        rw [if_neg (by decide), r1]
        simp -implicitDefEqProofs only [hc_39, d1, q_U]
        obtain ⟨F, b6, f1, f2, f3⟩ := ih (i + 1) s' g (cs' ++ [(106, 0)]) D d2 (by omega) (by omega) (by rw [ln_a]; omega) (by rw [d4]; exact r4) (by omega)
        exact ⟨F, b6, f1, RFr_tr (RFr_R b4) (RFr_tr c2 (RFr_tr d3 f2)), f3⟩
      · subst r2
        rw [if_pos rfl, q_z0, r1]
        exact ⟨C, 0, rfl, RFr_tr (RFr_R b4) c2, Or.inr ⟨e, rfl, rfl, r3⟩⟩
    · rw [if_neg qw] at b2
      rw [if_neg qw, if_pos rfl, q_z1, if_neg qw]
      exact ⟨B, 1, rfl, RFr_R b4, Or.inl ⟨s, cs, rfl, rfl, b2, b9⟩⟩
theorem r_con {q : Nat} (hq : q ≤ 6) (hf : rSim S (d + 8 + 3 * q) k E L T t n 133 (nI (6 - q)) (pAl t n q)) (hg : Gd t n (pAl t n q)) : rSim S (d + 9 + 3 * q) k E L T t n 134 (nI (6 - q)) (pCo t n q) := by
  intro A s cs h hl h9
  rw [show d + 9 + 3 * q = (d + 8 + 3 * q) + 1 by omega, x_X12_readCond, g_X12_readCond_0]
  obtain ⟨B1, b1, f1, f2, f3⟩ := hf A s cs h hl h9
  simp -implicitDefEqProofs only [hc_39, f1, q_I]
  rcases f3 with ⟨s', cs', r1, r2, r3, r4⟩ | ⟨e, r1, r2, r3⟩
  · subst r2
    obtain ⟨a1, a2, a3, a4, -⟩ := (hg s cs h.2.1).1 s' cs' r1
    rw [if_neg (by decide)]
    obtain ⟨B4, b4, v1, v2, v3⟩ := r_conL (S := S) (d := d) (k := k) (E := E) (L := L) (T := T) hq hf hg 401 0 s' 99999 cs' B1 r3 rfl (by omega) (by omega) r4 (by decide)
    refine ⟨B4, b4, v1, RFr_tr f2 v2, ?_⟩
    have ea : (pCo t n q) s cs = whW t n 35 106 (pAl t n q) 401 s' cs' := by show bnd ((pAl t n q) s cs) _ = _; rw [r1]; rfl
    rw [ea]; exact v3
  · subst r2
    rw [if_pos rfl, q_z0]
    refine ⟨B1, 0, rfl, f2, Or.inr ⟨e, ?_, rfl, r3⟩⟩
    show bnd ((pAl t n q) s cs) _ = _
    rw [r1]; rfl
theorem r_143 {s g : Nat} {cs : Cs} {y op x : Int32} (h : RSt t n A s cs) (hl : cs.length < s) (h9 : A 39 9 = x) (hy : y = 0 ∧ op = 103 ∨ y = 1 ∧ op = 102) : ∃ B b, bd S (ex S (d + 6)) dflT E_X12_readAtom (g + 1) 143 [some (.ref 39), some (.int y)] [] (Hh k E A L T) = some (.inl (some (.int b)), Hh k E B L T) ∧ RFr A B ∧ ((∃ s' cs', bnd (pSum t n s cs) (fun s' cs' => (.inl (s', cs' ++ [(op, 0)]) : PR)) = .inl (s', cs') ∧ b = 1 ∧ RSt t n B s' cs' ∧ B 39 9 = x) ∨ ∃ e, bnd (pSum t n s cs) (fun s' cs' => (.inl (s', cs' ++ [(op, 0)]) : PR)) = .inr e ∧ b = 0 ∧ B 39 8 = nI e) := by
  have h400 := h.1.2.2
  obtain ⟨B, b, f1, f2, f3⟩ := r_sum (S := S) (d := d) (k := k) (E := E) (L := L) (T := T) (x := x) A s cs h (by omega) h9
  rw [g_X12_readAtom_143]
  simp -implicitDefEqProofs only [hc_39, f1, q_I]
  rcases f3 with ⟨s', cs', r1, r2, r3, r4⟩ | ⟨e, r1, r2, r3⟩
  · subst r2
    obtain ⟨a1, a2, a3, a4, -⟩ := (Gd_sum (t := t) (n := n) s cs h.2.1).1 s' cs' r1
    have a5 := a1.1
    obtain ⟨D, d1, d2, d3, d4, d5⟩ := r_adds (S := S) (d := d + 4) (k := k) (E := E) (L := L) (T := T) (a := op) (b := 0) r3 (by omega)
    rw [if_neg (by decide), r1]
    rcases hy with ⟨rfl, rfl⟩ | ⟨rfl, rfl⟩
    · rw [if_pos rfl]
      simp -implicitDefEqProofs only [hc_39, d1, q_U, q_z1]
      exact ⟨D, 1, rfl, RFr_tr f2 d3, Or.inl ⟨_, _, rfl, rfl, d2, by rw [d4]; exact r4⟩⟩
    · rw [if_neg (by decide)]
      simp -implicitDefEqProofs only [hc_39, d1, q_U, q_z1]
      exact ⟨D, 1, rfl, RFr_tr f2 d3, Or.inl ⟨_, _, rfl, rfl, d2, by rw [d4]; exact r4⟩⟩
  · subst r2
    rw [if_pos rfl, q_z0, r1]
    exact ⟨B, 0, rfl, f2, Or.inr ⟨e, rfl, rfl, r3⟩⟩
theorem RSt_9 {s : Nat} {cs : Cs} {x : Int32} (h : RSt t n A s cs) : RSt t n (up A 39 9 x) s cs := by
  obtain ⟨⟨h1, h1b, h1c⟩, h2, ⟨p, hp, h6, hs⟩, h4, h5⟩ := h
  exact ⟨⟨fun i hi => by rw [up_ne (by decide)]; exact h1 i hi, by rw [up_rr (by decide)]; exact h1b, h1c⟩, h2, ⟨p, hp, by rw [up_rr (by decide)]; exact h6, hs⟩, by rw [up_rr (by decide)]; exact h4, fun i hi => by rw [up_ne (by decide)]; exact h5 i hi⟩
theorem RFr_9 {x : Int32} : RFr A (up A 39 9 x) := ⟨fun r a _ => up_ne a, fun j _ _ a _ => up_rr a, fun i _ => by rw [up_ne (by decide)]⟩
theorem r_atom0 {o : Option ((Nat → Cs → PR) × (Nat → Cs → PR))} {q : Nat} (hq : q ≤ 6) (d' : Nat) (hd : d' = d + 6) (ho : (q = 0 ∧ o = none) ∨ ∃ f g, 0 < q ∧ o = some (f, g) ∧ rSim S d' k E L T t n 132 (nI (6 - (q - 1))) f ∧ rSim S d' k E L T t n 134 (nI (6 - (q - 1))) g ∧ Gd t n f ∧ Gd t n g) : rSim S (d' + 1) k E L T t n 132 (nI (6 - q)) (atO t n o) := by
  subst hd
  intro A s cs h hl h9
  have hn := h.2.1
  have h400 := h.1.2.2
  have hsn := hn.1
  obtain ⟨n1, n2, n3⟩ := nx_c hn
  have x6 : (nI (6 - q) = 6) ↔ q = 0 := by
    rw [show (6 : Int32) = nI 6 from rfl, nI_eq (by omega) (by decide)]; omega
  have xs : nI (6 - (q - 1)) - 1 = nI (6 - q) ∨ q = 0 := by
    by_cases q0 : q = 0
    · exact Or.inr q0
    · left; rw [show nI (6 - (q - 1)) - 1 = nI (6 - (q - 1) - 1) from sub_n (a := 1) (by omega) (by omega)]; congr 1; omega
  obtain ⟨B, b1, b2, b3, b4⟩ := r_sg (S := S) (d := d + 3) (k := k) (E := E) (L := L) (T := T) (x := 40) h (by decide) (by decide)
  have b9 : B 39 9 = nI (6 - q) := by rw [b4.2 9 (by decide) (by decide)]; exact h9
  rw [x_X12_readAtom, g_X12_readAtom_0]
  simp -implicitDefEqProofs only [hc_39, b1, q_I]
  unfold atO
  by_cases pr : sgP t n s 40 = true
  · have nw : ¬ wdP t n s 36 = true := fun z => by have := (wd_k z).1; rw [(sg_k pr).1] at this; exact absurd this (by decide)
    rw [if_pos pr] at b2
    rw [if_neg nw, if_pos pr, if_pos pr, if_neg (by decide)]
    simp -implicitDefEqProofs only [hg_39_9, b9]
    rcases ho with ⟨rfl, rfl⟩ | ⟨f, g, hq0, rfl, -, hg, -, gg⟩
    · rw [if_pos (by decide), q_z0]
      exact ⟨B, 0, rfl, RFr_R b4, Or.inr ⟨s, rfl, rfl, b3⟩⟩
    · obtain ⟨n4, -⟩ := n3 (K_lt hn (by rw [(sg_k pr).1]; decide))
      have e9 : nI (6 - q) + 1 = nI (6 - (q - 1)) := by rw [nI_p1]; congr 1; omega
      rw [if_neg (fun z => by have := x6.mp z; omega)]
      obtain ⟨C, c0, c1, c2, c3⟩ := hg (up B 39 9 (nI (6 - (q - 1)))) (nx t n s) cs (RSt_9 b2) (by omega) up_ii
      simp -implicitDefEqProofs only [hp_39_9, e9, hc_39, c1, q_I]
      show ∃ B b, _ = _ ∧ _ ∧ ((∃ s' cs', bnd (g (nx t n s) cs) (cls t n) = .inl (s', cs') ∧ _ ∧ _ ∧ _) ∨ ∃ e, bnd (g (nx t n s) cs) (cls t n) = .inr e ∧ _ ∧ _)
      rcases c3 with ⟨s', cs', r1, r2, r3, r4⟩ | ⟨e, r1, r2, r3⟩
      · subst r2
        have xs' := xs.resolve_right (by omega)
        obtain ⟨D, d1, d2, d3, d4⟩ := r_sg (S := S) (d := d + 3) (k := k) (E := E) (L := L) (T := T) (x := 41) (RSt_9 (x := nI (6 - q)) r3) (by decide) (by decide)
        rw [r1, if_neg (by decide)]
        simp -implicitDefEqProofs only [hg_39_9, r4, hp_39_9, xs', hc_39, d1, q_I]
        show ∃ B b, _ = _ ∧ _ ∧ ((∃ s'' cs'', cls t n s' cs' = .inl (s'', cs'') ∧ _ ∧ _ ∧ _) ∨ ∃ e, cls t n s' cs' = .inr e ∧ _ ∧ _)
        unfold cls
        have fr := RFr_tr (RFr_R b4) (RFr_tr RFr_9 (RFr_tr c2 (RFr_tr RFr_9 (RFr_R d4))))
        by_cases q2 : sgP t n s' 41 = true
        · rw [if_pos q2] at d2
          rw [if_pos q2, if_pos q2, q_z1]
          exact ⟨D, 1, rfl, fr, Or.inl ⟨_, _, rfl, rfl, d2, by rw [d4.2 9 (by decide) (by decide)]; exact up_ii⟩⟩
        · rw [if_neg q2, if_neg q2, q_z0]
          exact ⟨D, 0, rfl, fr, Or.inr ⟨s', rfl, rfl, d3⟩⟩
      · subst r2
        rw [r1, if_pos rfl, q_z0]
        exact ⟨C, 0, rfl, RFr_tr (RFr_R b4) (RFr_tr RFr_9 c2), Or.inr ⟨e, rfl, rfl, r3⟩⟩
  · rw [if_neg pr] at b2
    rw [if_neg pr, if_neg pr, if_pos rfl]
    obtain ⟨C, c1, c2, c3, c4⟩ := r_ps (S := S) (d := d + 1) (k := k) (E := E) (L := L) (T := T) (j := 36) (j' := 33) (by decide) (by decide) (by decide) b2
    have c1' : ex S (d + 6) 126 [.ref 39, .retAddr 133] (Hh k E B L T) = _ := c1
    have c9 : C 39 9 = nI (6 - q) := by rw [c4.2 9 (by decide) (by decide)]; exact b9
    have fr := RFr_tr (RFr_R b4) (RFr_R c4)
    simp -implicitDefEqProofs only [hc_39, c1', q_I]
    by_cases w : wdP t n s 36 = true
    · rw [if_pos w] at c2
      rw [if_pos w, if_pos w, if_neg (by decide)]
      simp -implicitDefEqProofs only [hg_39_9, c9]
      rcases ho with ⟨rfl, rfl⟩ | ⟨f, g, hq0, rfl, hf, -, gf, -⟩
      · rw [if_pos (by decide), q_z0]
        exact ⟨C, 0, rfl, fr, Or.inr ⟨s, rfl, rfl, c3⟩⟩
      · obtain ⟨n4, -⟩ := n3 (K_lt hn (by rw [(wd_k w).1]; decide))
        have e9 : nI (6 - q) + 1 = nI (6 - (q - 1)) := by rw [nI_p1]; congr 1; omega
        rw [if_neg (fun z => by have := x6.mp z; omega)]
        obtain ⟨D, d0, d1, d2, d3⟩ := hf (up C 39 9 (nI (6 - (q - 1)))) (nx t n s) cs (RSt_9 c2) (by omega) up_ii
        simp -implicitDefEqProofs only [hp_39_9, e9, hc_39, d1, q_I]
        show ∃ B b, _ = _ ∧ _ ∧ ((∃ s' cs', bnd (f (nx t n s) cs) (fun s' cs' => (.inl (s', cs' ++ [(104, 0)]) : PR)) = .inl (s', cs') ∧ _ ∧ _ ∧ _) ∨ ∃ e, bnd (f (nx t n s) cs) (fun s' cs' => (.inl (s', cs' ++ [(104, 0)]) : PR)) = .inr e ∧ _ ∧ _)
        rcases d3 with ⟨s', cs', r1, r2, r3, r4⟩ | ⟨e, r1, r2, r3⟩
        · subst r2
          obtain ⟨a1, a2, a3, a4, -⟩ := (gf (nx t n s) cs n1).1 s' cs' r1
          have a5 := a1.1
          have xs' := xs.resolve_right (by omega)
          obtain ⟨F, f1, f2, f3, f4, f5⟩ := r_adds (S := S) (d := d + 4) (k := k) (E := E) (L := L) (T := T) (a := 104) (b := 0) (RSt_9 (x := nI (6 - q)) r3) (by omega)
          rw [r1, if_neg (by decide)]
          simp -implicitDefEqProofs only [hg_39_9, r4, hp_39_9, xs', hc_39, f1, q_U, q_z1]
          exact ⟨F, 1, rfl, RFr_tr fr (RFr_tr RFr_9 (RFr_tr d2 (RFr_tr RFr_9 f3))), Or.inl ⟨_, _, rfl, rfl, f2, by rw [f4]; exact up_ii⟩⟩
        · subst r2
          rw [r1, if_pos rfl, q_z0]
          exact ⟨D, 0, rfl, RFr_tr fr (RFr_tr RFr_9 d2), Or.inr ⟨e, rfl, rfl, r3⟩⟩
    · rw [if_neg w] at c2
      rw [if_neg w, if_neg w, if_pos rfl]
      obtain ⟨D, d0, d1, d2, d3⟩ := r_sum (S := S) (d := d) (k := k) (E := E) (L := L) (T := T) (x := nI (6 - q)) C s cs c2 hl c9
      simp -implicitDefEqProofs only [hc_39, d1, q_I]
      rcases d3 with ⟨s', cs', r1, r2, r3, r4⟩ | ⟨e, r1, r2, r3⟩
      · subst r2
        obtain ⟨a1, a2, a3, a4, -⟩ := (Gd_sum (t := t) (n := n) s cs hn).1 s' cs' r1
        have a5 := a1.1
        obtain ⟨m1, m2, m3⟩ := nx_c a1
        rw [if_neg (by decide), r1]
        show ∃ B b, _ = _ ∧ _ ∧ ((∃ s'' cs'', cmpT t n s' cs' = .inl (s'', cs'') ∧ _ ∧ _ ∧ _) ∨ ∃ e, cmpT t n s' cs' = .inr e ∧ _ ∧ _)
        unfold cmpT
        obtain ⟨F, f1, f2, f3, f4⟩ := r_sg (S := S) (d := d + 3) (k := k) (E := E) (L := L) (T := T) (x := 60) r3 (by decide) (by decide)
        have f9 : F 39 9 = nI (6 - q) := by rw [f4.2 9 (by decide) (by decide)]; exact r4
        simp -implicitDefEqProofs only [hc_39, f1, q_I]
        by_cases ql : sgP t n s' 60 = true
        · obtain ⟨m4, -⟩ := m3 (K_lt a1 (by rw [(sg_k ql).1]; decide))
          rw [if_pos ql] at f2
          rw [if_pos ql, if_neg (by decide), if_pos ql]
          obtain ⟨G, g0, g1, g2, g3⟩ := r_143 (S := S) (d := d) (k := k) (E := E) (L := L) (T := T) (g := 99998) (y := 1) (op := 102) f2 (by omega) f9 (Or.inr ⟨rfl, rfl⟩)
          exact ⟨G, g0, g1, RFr_tr fr (RFr_tr d2 (RFr_tr (RFr_R f4) g2)), g3⟩
        · rw [if_neg ql] at f2
          rw [if_neg ql, if_pos rfl, if_neg ql]
          obtain ⟨G, g1, g2, g3, g4⟩ := r_sg (S := S) (d := d + 3) (k := k) (E := E) (L := L) (T := T) (x := 62) f2 (by decide) (by decide)
          have g9 : G 39 9 = nI (6 - q) := by rw [g4.2 9 (by decide) (by decide)]; exact f9
          simp -implicitDefEqProofs only [hc_39, g1, q_I]
          by_cases qm : sgP t n s' 62 = true
          · obtain ⟨m4, -⟩ := m3 (K_lt a1 (by rw [(sg_k qm).1]; decide))
            rw [if_pos qm] at g2
            rw [if_pos qm, if_neg (by decide), if_pos qm]
            obtain ⟨K, k0, k1, k2, k3⟩ := r_143 (S := S) (d := d) (k := k) (E := E) (L := L) (T := T) (g := 99998) (y := 0) (op := 103) g2 (by omega) g9 (Or.inl ⟨rfl, rfl⟩)
            exact ⟨K, k0, k1, RFr_tr fr (RFr_tr d2 (RFr_tr (RFr_R f4) (RFr_tr (RFr_R g4) k2))), k3⟩
          · rw [if_neg qm, if_pos rfl, q_z0, if_neg qm]
            exact ⟨G, 0, rfl, RFr_tr fr (RFr_tr d2 (RFr_tr (RFr_R f4) (RFr_R g4))), Or.inr ⟨s', rfl, rfl, g3⟩⟩
      · subst r2
        rw [if_pos rfl, q_z0, r1]
        exact ⟨D, 0, rfl, RFr_tr fr d2, Or.inr ⟨e, rfl, rfl, r3⟩⟩
theorem r_atom (q : Nat) : ∀ d, q ≤ 6 → rSim S (d + 7 + 3 * q) k E L T t n 132 (nI (6 - q)) (pA t n q) := by
  induction q with
  | zero =>
    intro d hq
    exact r_atom0 (d := d) (q := 0) hq (d + 6) rfl (Or.inl ⟨rfl, rfl⟩)
  | succ q ih =>
    intro d hq
    have hf := ih (d + 2) (by omega)
    have h1 := ih d (by omega)
    have h2 := r_all (S := S) (d := d) (k := k) (E := E) (L := L) (T := T) (t := t) (n := n) (q := q) (by omega) h1 (Gd_A q)
    have h3 := r_con (S := S) (d := d) (k := k) (E := E) (L := L) (T := T) (t := t) (n := n) (q := q) (by omega) h2 (Gd_L q)
    rw [show d + 2 + 7 + 3 * q = d + 3 + 3 * q + 6 by omega] at hf
    rw [show d + 8 + 1 + 3 * q = d + 3 + 3 * q + 6 by omega] at h3
    have := r_atom0 (S := S) (d := d + 3 + 3 * q) (k := k) (E := E) (L := L) (T := T) (t := t) (n := n) (o := some (pA t n q, sqO t n 35 106 (sqO t n 34 105 (pA t n q)))) (q := q + 1) hq (d + 3 + 3 * q + 6) rfl (Or.inr ⟨_, _, by omega, rfl, by rw [show q + 1 - 1 = q by omega]; exact hf, by rw [show q + 1 - 1 = q by omega]; exact h3, Gd_A q, Gd_C q⟩)
    rw [show d + 7 + 3 * (q + 1) = d + 3 + 3 * q + 6 + 1 by omega]
    exact this
theorem r_cond : rSim S (d + 27) k E L T t n 134 0 (pCo t n 6) := by
  have h1 := r_atom (S := S) (k := k) (E := E) (L := L) (T := T) (t := t) (n := n) 6 d (by decide)
  have h2 := r_all (S := S) (d := d) (k := k) (E := E) (L := L) (T := T) (t := t) (n := n) (q := 6) (by decide) h1 (Gd_A 6)
  exact r_con (S := S) (d := d) (k := k) (E := E) (L := L) (T := T) (t := t) (n := n) (q := 6) (by decide) h2 (Gd_L 6)
end RParD
