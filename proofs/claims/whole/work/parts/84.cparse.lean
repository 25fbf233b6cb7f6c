/-! the class reads a condition -/
section CParB
variable {S : sT} {d c : Nat} {k : Value} {E : List dsc} {A : fA} {L : fL} {T : fT} {W : fW} {t : Nat → Int32} {n : Nat}
def CSt (t : Nat → Int32) (n : Nat) (A : fA) (s : Nat) (cs : Cs) : Prop := Tp A t n ∧ Nm t n s ∧ Tk A t n s ∧ A 1 10 = nI cs.length ∧ ∀ i, i < cs.length → A 3 (96 + i) = tr (cs.getD i (0, 0)).1 (cs.getD i (0, 0)).2
def CFr (A B : fA) : Prop := (∀ r, r ≠ 1 → r ≠ 3 → B r = A r) ∧ (∀ j, j ≠ 4 → j ≠ 5 → j ≠ 6 → j ≠ 7 → j ≠ 10 → B 1 j = A 1 j) ∧ ∀ i, i < 96 → B 3 i = A 3 i
theorem CFr_refl : CFr A A := ⟨fun _ _ _ => rfl, fun _ _ _ _ _ _ => rfl, fun _ _ => rfl⟩
theorem CFr_tr {B C : fA} (h : CFr A B) (g : CFr B C) : CFr A C := ⟨fun r a b => (g.1 r a b).trans (h.1 r a b), fun j a b c e f => (g.2.1 j a b c e f).trans (h.2.1 j a b c e f), fun i hi => (g.2.2 i hi).trans (h.2.2 i hi)⟩
theorem CFr_N {B : fA} (h : Nx A B) : CFr A B := ⟨fun r a _ => h.1 r a, fun j a b c e _ => h.2 j a b c e, fun i _ => by rw [h.1 3 (by decide)]⟩
/-- it has failed at a token -/
def FlC (B : fA) (e : Nat) : Prop := B 1 5 = nI e ∧ ∃ c0, c0 ≤ 400 ∧ B 1 10 = nI c0
theorem c_nx {s : Nat} {cs : Cs} (h : CSt t n A s cs) : ∃ B, ex S (d + 5) 65 [.ref 1] (Hh k E A L T) = some (.inl none, Hh k E B L T) ∧ CSt t n B (nx t n s) cs ∧ CFr A B := by
  obtain ⟨h1, h2, h3, h4, h5⟩ := h
  obtain ⟨a1, a2, a3⟩ := tE_c (t := t) (n := n) (p := s) h2.1
  obtain ⟨B, b1, ⟨b2, b3, b4, b5⟩, b6⟩ := c_next (S := S) (d := d) (k := k) (E := E) (L := L) (T := T) h1 a2 h3.1
  refine ⟨B, b1, ⟨Tp_N h1 b6, (nx_c h2).1, ⟨?_, ?_, ?_, ?_⟩, ?_, fun i hi => ?_⟩, CFr_N b6⟩
  · rw [b2]; unfold nx; rw [tE_i a2]
  · rw [b3]; unfold nx; rw [tS_i a2]
  · rw [b4]; unfold nx; rw [tK_i a2]
  · rw [b5]; unfold nx; rw [tV_i a2]
  · rw [b6.2 10 (by decide) (by decide) (by decide) (by decide)]; exact h4
  · rw [b6.1 3 (by decide)]; exact h5 i hi
theorem c_emit {s : Nat} {cs : Cs} {a b x : Int32} (h : CSt t n A s cs) (hl : cs.length < 400) (hx : x = tr a b) : ∃ B, ex S (d + 1) 75 [.ref 1, .int x] (Hh k E A L T) = some (.inl none, Hh k E B L T) ∧ CSt t n B s (cs ++ [(a, b)]) ∧ CFr A B := by
  obtain ⟨h1, h2, ⟨k1, k2, k3, k4⟩, h4, h5⟩ := h
  have e96 : (96 : Int32) + nI cs.length = nI (96 + cs.length) := by rw [show (96 : Int32) = nI 96 from rfl, nI_add]
  have z : up A 3 (96 + cs.length) x 1 10 = nI cs.length := by rw [up_ne (by decide)]; exact h4
  rw [x_X6_emit, g_X6_emit_0]
  simp -implicitDefEqProofs only [hg_1_10, h4, if_neg (show ¬ (400 : Int32) ≤ nI cs.length from nI_ge (b := 400) hl (by decide)), hv_1_8, e96, sn_3 (show 96 + cs.length < 496 by omega), z, hp_1_10, nI_p1]
  refine ⟨_, rfl, ⟨⟨fun i hi => ?_, ?_, h1.2.2⟩, h2, ⟨?_, ?_, ?_, ?_⟩, ?_, fun i hi => ?_⟩, fun r r1 r2 => by rw [up_ne r1, up_ne r2], fun j _ _ _ _ j10 => by rw [up_rr j10, up_ne (by decide)], fun i hi => by rw [up_ne (by decide), up_rr (by omega)]⟩
  · rw [up_ne (by decide), up_ne (by decide)]; exact h1.1 i hi
  · rw [up_rr (by decide), up_ne (by decide)]; exact h1.2.1
  · rw [up_rr (by decide), up_ne (by decide)]; exact k1
  · rw [up_rr (by decide), up_ne (by decide)]; exact k2
  · rw [up_rr (by decide), up_ne (by decide)]; exact k3
  · rw [up_rr (by decide), up_ne (by decide)]; exact k4
  · rw [up_ii, ln_a]
  · rw [ln_a] at hi
    rw [up_ne (by decide)]
    by_cases q : i = cs.length
    · subst q; rw [up_ii, gd_z]; exact hx
    · rw [up_rr (by omega), gd_a (by omega)]; exact h5 i (by omega)
theorem c_isW {s j : Nat} {cs : Cs} (h : CSt t n A s cs) : ex S (d + 1) 69 [.ref 1, .int (nI j)] (Hh k E A L T) = some (.inl (some (.int (if wdP t n s j = true then 1 else 0))), Hh k E A L T) := by
  obtain ⟨-, -, ⟨-, -, k3, k4⟩, -, -⟩ := h
  rw [x_X6_isWord, g_X6_isWord_0]
  simp -implicitDefEqProofs only [hg_1_6, k3, hg_1_7, k4]
  unfold wdP
  by_cases q : tK t n s = 1
  · by_cases q2 : tV t n s = nI j
    · rw [if_pos q, if_pos q2, q_z1]; simp [q, q2]
    · rw [if_pos q, if_neg q2, q_z0]; simp [q2]
  · rw [if_neg q, q_z0]; simp [q]
theorem c_isS {s : Nat} {x : Int32} {cs : Cs} (h : CSt t n A s cs) : ex S (d + 1) 73 [.ref 1, .int x] (Hh k E A L T) = some (.inl (some (.int (if sgP t n s x = true then 1 else 0))), Hh k E A L T) := by
  obtain ⟨-, -, ⟨-, -, k3, k4⟩, -, -⟩ := h
  rw [x_X6_isSign, g_X6_isSign_0]
  simp -implicitDefEqProofs only [hg_1_6, k3, hg_1_7, k4]
  unfold sgP
  by_cases q : tK t n s = 3
  · by_cases q2 : tV t n s = x
    · rw [if_pos q, if_pos q2, q_z1]; simp [q, q2]
    · rw [if_pos q, if_neg q2, q_z0]; simp [q2]
  · rw [if_neg q, q_z0]; simp [q]
theorem c_tkS {s : Nat} {x : Int32} {cs : Cs} (h : CSt t n A s cs) : (sgP t n s x = true ∧ ∃ B, ex S (d + 6) 74 [.ref 1, .int x] (Hh k E A L T) = some (.inl (some (.int 1)), Hh k E B L T) ∧ CSt t n B (nx t n s) cs ∧ CFr A B) ∨ (¬ sgP t n s x = true ∧ ex S (d + 6) 74 [.ref 1, .int x] (Hh k E A L T) = some (.inl (some (.int 0)), Hh k E A L T)) := by
  rw [x_X6_takeSign, g_X6_takeSign_0]
  simp -implicitDefEqProofs only [hc_1, c_isS h, q_I]
  by_cases q : sgP t n s x = true
  · left
    obtain ⟨B, b1, b2, b3⟩ := c_nx (S := S) (d := d) (k := k) (E := E) (L := L) (T := T) h
    rw [if_pos q, if_neg (by decide)]
    simp -implicitDefEqProofs only [hc_1, b1, q_U, q_z1]
    exact ⟨q, B, rfl, b2, b3⟩
  · right
    rw [if_neg q, if_pos rfl, q_z0]
    exact ⟨q, rfl⟩
/-- what a reading method of the class does -/
def cSim (S : sT) (d : Nat) (k : Value) (E : List dsc) (L : fL) (T : fT) (t : Nat → Int32) (n m : Nat) (av : List Value) (f : Nat → Cs → PR) : Prop := ∀ A s cs, CSt t n A s cs → cs.length ≤ s → ∃ B b, ex S d m (.ref 1 :: av) (Hh k E A L T) = some (.inl (some (.int b)), Hh k E B L T) ∧ CFr A B ∧ ((∃ s' cs', f s cs = .inl (s', cs') ∧ b = 1 ∧ CSt t n B s' cs') ∨ ∃ e, f s cs = .inr e ∧ b = 0 ∧ FlC B e)
def adI (i : Nat) (cs : Cs) : Cs := if i = 0 then cs else cs ++ [(101, 0)]
theorem tr_V {x : Int32} (h1 : ¬ x < 0) (h2 : ¬ 10 < x) : tr x 0 = -1 - x := by
  obtain ⟨m, hm, rfl⟩ := wi_n (M := 10) (by decide) ⟨h1, h2⟩
  exact (tr_f m (by omega) 0).1
theorem c_sum2 {i s g : Nat} {cs : Cs} {o2 o3 : Option Value} (h : CSt t n A s cs) (hi : i < 400) : (isFc t n s = true ∧ bd S (ex S (d + 5)) dflT E_X6_takeSum (g + 4) 2 [some (.ref 1), some (.int (nI i)), o2, o3] [] (Hh k E A L T) = bd S (ex S (d + 5)) dflT E_X6_takeSum (g + 1) 90 [some (.ref 1), some (.int (nI i)), some (.int 0), some (.int 1)] [.int (tr (tV t n s) 0), .ref 1] (Hh k E A L T)) ∨ (¬ isFc t n s = true ∧ isNm t n s 999999 = true ∧ bd S (ex S (d + 5)) dflT E_X6_takeSum (g + 4) 2 [some (.ref 1), some (.int (nI i)), o2, o3] [] (Hh k E A L T) = bd S (ex S (d + 5)) dflT E_X6_takeSum (g + 1) 90 [some (.ref 1), some (.int (nI i)), some (.int 1), some (.int 0)] [.int (tr 100 (tV t n s)), .ref 1] (Hh k E A L T)) ∨ (¬ isFc t n s = true ∧ ¬ isNm t n s 999999 = true ∧ bd S (ex S (d + 5)) dflT E_X6_takeSum (g + 4) 2 [some (.ref 1), some (.int (nI i)), o2, o3] [] (Hh k E A L T) = some (.inl (some (.int 0)), Hh k E A L T)) := by
  obtain ⟨-, -, ⟨-, -, k3, k4⟩, -, -⟩ := h
  have g0 : ¬ (400 : Int32) ≤ nI i := nI_ge (b := 400) hi (by decide)
  rw [show g + 4 = (g + 3) + 1 from rfl, g_X6_takeSum_2]
  simp -implicitDefEqProofs only [if_neg g0, hg_1_6, k3]
  unfold isFc isNm
  by_cases q1 : tK t n s = 1
  · have n2 : ¬ tK t n s = 2 := by rw [q1]; decide
    rw [if_neg n2, show g + 3 = (g + 2) + 1 from rfl, g_X6_takeSum_31]
    simp -implicitDefEqProofs only [hg_1_6, k3, if_pos q1, hg_1_7, k4]
    by_cases v0 : tV t n s < 0
    · right; right
      rw [if_pos v0, show g + 2 = (g + 1) + 1 from rfl, g_X6_takeSum_61, if_pos rfl, if_pos rfl, q_z0]
      exact ⟨by simp [v0], by simp [n2], rfl⟩
    · rw [if_neg v0]
      by_cases v1 : 10 < tV t n s
      · right; right
        rw [if_pos v1, show g + 2 = (g + 1) + 1 from rfl, g_X6_takeSum_61, if_pos rfl, if_pos rfl, q_z0]
        exact ⟨by simp [v1], by simp [n2], rfl⟩
      · left
        rw [if_neg v1, show g + 2 = (g + 1) + 1 from rfl, g_X6_takeSum_61, if_pos rfl, if_neg (by decide), if_pos rfl]
        simp -implicitDefEqProofs only [hg_1_7, k4]
        exact ⟨by simp [q1, v0, v1], by rw [tr_V v0 v1]⟩
  · by_cases q2 : tK t n s = 2
    · rw [if_pos q2]
      simp -implicitDefEqProofs only [hg_1_7, k4]
      by_cases v : 999999 < tV t n s
      · right; right
        rw [if_pos v, show g + 3 = (g + 2) + 1 from rfl, g_X6_takeSum_31]
        simp -implicitDefEqProofs only [hg_1_6, k3, if_neg q1]
        rw [show g + 2 = (g + 1) + 1 from rfl, g_X6_takeSum_61, if_pos rfl, if_pos rfl, q_z0]
        exact ⟨by simp [q1], by simp [v], rfl⟩
      · right; left
        rw [if_neg v, show g + 3 = (g + 2) + 1 from rfl, g_X6_takeSum_31]
        simp -implicitDefEqProofs only [hg_1_6, k3, if_neg q1]
        rw [show g + 2 = (g + 1) + 1 from rfl, g_X6_takeSum_61, if_neg (by decide), if_neg (by decide)]
        simp -implicitDefEqProofs only [hg_1_7, k4]
        exact ⟨by simp [q1], by simp [q2, v], rfl⟩
    · right; right
      rw [if_neg q2, show g + 3 = (g + 2) + 1 from rfl, g_X6_takeSum_31]
      simp -implicitDefEqProofs only [hg_1_6, k3, if_neg q1]
      rw [show g + 2 = (g + 1) + 1 from rfl, g_X6_takeSum_61, if_pos rfl, if_pos rfl, q_z0]
      exact ⟨by simp [q1], by simp [q2], rfl⟩
theorem c_sumL (m : Nat) : ∀ (i s g : Nat) (cs : Cs) (A : fA) (o2 o3 : Option Value), CSt t n A s cs → i + m = 401 → 2 * i ≤ s → cs.length + (if i = 0 then 0 else 1) ≤ s → 4 * (m + 1) ≤ g → ∃ B b, bd S (ex S (d + 5)) dflT E_X6_takeSum g 2 [some (.ref 1), some (.int (nI i)), o2, o3] [] (Hh k E A L T) = some (.inl (some (.int b)), Hh k E B L T) ∧ CFr A B ∧ ((∃ s' cs', bnd (pPart t n s cs) (fun a b => pSumT t n m a (adI i b)) = .inl (s', cs') ∧ b = 1 ∧ CSt t n B s' cs') ∨ ∃ e, bnd (pPart t n s cs) (fun a b => pSumT t n m a (adI i b)) = .inr e ∧ b = 0 ∧ FlC B e) := by
  induction m with
  | zero =>
    intro i s g cs A o2 o3 h hm hi _ _
    have := h.2.1.1
    have := h.1.2.2
    omega
  | succ m ih =>
    intro i s g cs A o2 o3 h hm hi hl hg
    have hs := h.2.1
    have h400 := h.1.2.2
    have hsn := hs.1
    obtain ⟨g, rfl⟩ : ∃ g', g = g' + 4 := ⟨g - 4, by omega⟩
    obtain ⟨n1, n2, n3⟩ := nx_c hs
    -- what follows a part
    have go : ∀ (a b : Int32) (x2 x3 : Int32), pPart t n s cs = .inl (nx t n s, cs ++ [(a, b)]) → s < n → ∃ B b', bd S (ex S (d + 5)) dflT E_X6_takeSum (g + 1) 90 [some (.ref 1), some (.int (nI i)), some (.int x2), some (.int x3)] [.int (tr a b), .ref 1] (Hh k E A L T) = some (.inl (some (.int b')), Hh k E B L T) ∧ CFr A B ∧ ((∃ s' cs', bnd (pPart t n s cs) (fun a b => pSumT t n (m + 1) a (adI i b)) = .inl (s', cs') ∧ b' = 1 ∧ CSt t n B s' cs') ∨ ∃ e, bnd (pPart t n s cs) (fun a b => pSumT t n (m + 1) a (adI i b)) = .inr e ∧ b' = 0 ∧ FlC B e) := by
      intro a b x2 x3 hp hsl
      obtain ⟨n4, n5⟩ := n3 hsl
      rw [hp]
      have er : bnd (.inl (nx t n s, cs ++ [(a, b)]) : PR) (fun a b => pSumT t n (m + 1) a (adI i b)) = pSumT t n (m + 1) (nx t n s) (adI i (cs ++ [(a, b)])) := rfl
      rw [er]
      obtain ⟨B1, c1, c2, c3⟩ := c_emit (S := S) (d := d + 4) (k := k) (E := E) (L := L) (T := T) h (show cs.length < 400 by omega) (a := a) (b := b) rfl
      have key : ∀ B2 : fA, CSt t n B2 s (adI i (cs ++ [(a, b)])) → CFr A B2 → ∃ B b', (rC (Hh k E B2 L T) (.ref 1) 9 (cU (ex S (d + 5) 65 [.ref 1] (Hh k E B2 L T)) (fun h2 => rC h2 (.ref 1) 9 (cI (ex S (d + 5) 73 [.ref 1, .int 43] h2) (fun y4 h3 => (if y4 = 0 then zR 1 (some (.inl (some (.int 1)), h3)) else rC h3 (.ref 1) 9 (cU (ex S (d + 5) 65 [.ref 1] h3) (fun h5 => bd S (ex S (d + 5)) dflT E_X6_takeSum g 2 [some (.ref 1), some (.int (nI i + 1)), some (.int x2), some (.int x3)] [] h5)))))))) = some (.inl (some (.int b')), Hh k E B L T) ∧ CFr A B ∧ ((∃ s' cs', pSumT t n (m + 1) (nx t n s) (adI i (cs ++ [(a, b)])) = .inl (s', cs') ∧ b' = 1 ∧ CSt t n B s' cs') ∨ ∃ e, pSumT t n (m + 1) (nx t n s) (adI i (cs ++ [(a, b)])) = .inr e ∧ b' = 0 ∧ FlC B e) := by
        intro B2 hB2 hF2
        obtain ⟨B3, e1, e2, e3⟩ := c_nx (S := S) (d := d) (k := k) (E := E) (L := L) (T := T) hB2
        simp -implicitDefEqProofs only [hc_1, e1, q_U, c_isS e2, q_I]
        have ep : pSumT t n (m + 1) (nx t n s) (adI i (cs ++ [(a, b)])) = if sgP t n (nx t n s) 43 = true then bnd (pPart t n (nx t n (nx t n s)) (adI i (cs ++ [(a, b)]))) (fun s' cs' => pSumT t n m s' (cs' ++ [(101, 0)])) else .inl (nx t n s, adI i (cs ++ [(a, b)])) := rfl
        rw [ep]
        by_cases q : sgP t n (nx t n s) 43 = true
        · have hl2 := K_lt n1 (by rw [(sg_k q).1]; decide)
          obtain ⟨m1, m2, m3⟩ := nx_c n1
          obtain ⟨m4, -⟩ := m3 hl2
          obtain ⟨B4, f1, f2, f3⟩ := c_nx (S := S) (d := d) (k := k) (E := E) (L := L) (T := T) e2
          rw [if_pos q, if_neg (by decide), if_pos q]
          simp -implicitDefEqProofs only [hc_1, f1, q_U, nI_p1]
          have la : (adI i (cs ++ [(a, b)])).length ≤ cs.length + 1 + (if i = 0 then 0 else 1) := by
            unfold adI
            split
            · rw [ln_a]; omega
            · rw [ln_a, ln_a]; omega
          obtain ⟨B5, b5, r1, r2, r3⟩ := ih (i + 1) (nx t n (nx t n s)) g (adI i (cs ++ [(a, b)])) B4 (some (.int x2)) (some (.int x3)) f2 (by omega) (by omega) (by rw [if_neg (by omega)]; omega) (by omega)
          have ea : (fun a b => pSumT t n m a (adI (i + 1) b)) = (fun s' cs' => pSumT t n m s' (cs' ++ [(101, 0)])) := by funext a b; unfold adI; rw [if_neg (by omega)]
          rw [ea] at r3
          exact ⟨B5, b5, r1, CFr_tr hF2 (CFr_tr e3 (CFr_tr f3 r2)), r3⟩
        · rw [if_neg q, if_pos rfl, if_neg q, q_z1]
          exact ⟨B3, 1, rfl, CFr_tr hF2 e3, Or.inl ⟨_, _, rfl, rfl, e2⟩⟩
      rw [g_X6_takeSum_90]
      simp -implicitDefEqProofs only [hc_1, c1, q_U]
      by_cases q0 : i = 0
      · subst q0
        rw [if_pos (by decide)]
        have kk := key B1 (by unfold adI; rw [if_pos rfl]; exact c2) c3
        simp -implicitDefEqProofs only [hc_1] at kk
        exact kk
      · rw [if_neg (show ¬ nI i ≤ 0 from nI_ge (a := 0) (by omega) (by omega))]
        rw [if_neg q0] at hl
        obtain ⟨B2, e1, e2, e3⟩ := c_emit (S := S) (d := d + 4) (k := k) (E := E) (L := L) (T := T) (a := 101) (b := 0) (x := -12) c2 (by rw [ln_a]; omega) (by decide)
        simp -implicitDefEqProofs only [hc_1, e1, q_U]
        have kk := key B2 (by unfold adI; rw [if_neg q0]; exact e2) (CFr_tr c3 e3)
        simp -implicitDefEqProofs only [hc_1] at kk
        exact kk
    rcases c_sum2 (S := S) (d := d) (k := k) (E := E) (L := L) (T := T) (i := i) (g := g) (o2 := o2) (o3 := o3) h (by omega) with ⟨q1, e⟩ | ⟨q1, q2, e⟩ | ⟨q1, q2, e⟩
    · have hk : tK t n s = 1 := by unfold isFc at q1; simp -implicitDefEqProofs only [Bool.and_eq_true, decide_eq_true_eq] at q1; exact q1.1
      rw [e]
      exact go _ _ _ _ (by unfold pPart; rw [if_pos q1]) (K_lt hs (by rw [hk]; decide))
    · have hk : tK t n s = 2 := by unfold isNm at q2; simp -implicitDefEqProofs only [Bool.and_eq_true, decide_eq_true_eq] at q2; exact q2.1
      rw [e]
      exact go _ _ _ _ (by unfold pPart; rw [if_neg q1, if_pos q2]) (K_lt hs (by rw [hk]; decide))
    · rw [e]
      have ep : pPart t n s cs = .inr s := by unfold pPart; rw [if_neg q1, if_neg q2]
      rw [ep]
      exact ⟨A, 0, rfl, CFr_refl, Or.inr ⟨s, rfl, rfl, by rw [h.2.2.1.2.1, hs.2], cs.length, by split at hl <;> omega, h.2.2.2.1⟩⟩
theorem c_sum : cSim S (d + 6) k E L T t n 76 [] (pSum t n) := by
  intro A s cs h hl
  rw [x_X6_takeSum, g_X6_takeSum_0]
  obtain ⟨B, b, r1, r2, r3⟩ := c_sumL (S := S) (d := d) (k := k) (E := E) (L := L) (T := T) 401 0 s 99999 cs A none none h rfl (by omega) (by simpa using hl) (by decide)
  have ea : (fun a b => pSumT t n 401 a (adI 0 b)) = (fun s' cs' => pSumT t n 401 s' cs') := by funext a b; unfold adI; rw [if_pos rfl]
  rw [ea] at r3
  exact ⟨B, b, r1, r2, r3⟩
end CParB
