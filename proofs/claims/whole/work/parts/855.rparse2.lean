/-! the reference reads a condition -/
section RParC
variable {S : sT} {d c : Nat} {k : Value} {E : List dsc} {A : fA} {L : fL} {T : fT} {W : fW} {t : Nat → Int32} {n : Nat}
def fcS (f : Nat) : Nat := ([34, 21, 22, 23, 24, 35, 36, 37, 38, 39, 40] : List Nat).getD f 0
theorem fcS_ok : ∀ f : Fin 11, fcS f.1 < 43 ∧ strByt.getD (fcS f.1) [] = DW.getD f.1 [] := by decide
theorem r_fact {f : Nat} {h : pH} (hf : f < 11) : ex S (d + 1) 129 [.int (nI f)] h = some (.inl (some (.retAddr (100 + fcS f))), h) := by
  rw [x_X12_fact, g_X12_fact_0]
  match f, hf with
  | 0, _ => rw [if_pos (show nI 0 = 0 by decide), g_X12_fact_56]; rfl
  | 1, _ => rw [if_neg (show ¬ nI 1 = 0 by decide), if_pos (show nI 1 = 1 by decide), g_X12_fact_59]; rfl
  | 2, _ => rw [if_neg (show ¬ nI 2 = 0 by decide), if_neg (show ¬ nI 2 = 1 by decide), if_pos (show nI 2 = 2 by decide), g_X12_fact_62]; rfl
  | 3, _ => rw [if_neg (show ¬ nI 3 = 0 by decide), if_neg (show ¬ nI 3 = 1 by decide), if_neg (show ¬ nI 3 = 2 by decide), if_pos (show nI 3 = 3 by decide), g_X12_fact_65]; rfl
  | 4, _ => rw [if_neg (show ¬ nI 4 = 0 by decide), if_neg (show ¬ nI 4 = 1 by decide), if_neg (show ¬ nI 4 = 2 by decide), if_neg (show ¬ nI 4 = 3 by decide), if_pos (show nI 4 = 4 by decide), g_X12_fact_68]; rfl
  | 5, _ => rw [if_neg (show ¬ nI 5 = 0 by decide), if_neg (show ¬ nI 5 = 1 by decide), if_neg (show ¬ nI 5 = 2 by decide), if_neg (show ¬ nI 5 = 3 by decide), if_neg (show ¬ nI 5 = 4 by decide), if_pos (show nI 5 = 5 by decide), g_X12_fact_71]; rfl
  | 6, _ => rw [if_neg (show ¬ nI 6 = 0 by decide), if_neg (show ¬ nI 6 = 1 by decide), if_neg (show ¬ nI 6 = 2 by decide), if_neg (show ¬ nI 6 = 3 by decide), if_neg (show ¬ nI 6 = 4 by decide), if_neg (show ¬ nI 6 = 5 by decide), if_pos (show nI 6 = 6 by decide), g_X12_fact_74]; rfl
  | 7, _ => rw [if_neg (show ¬ nI 7 = 0 by decide), if_neg (show ¬ nI 7 = 1 by decide), if_neg (show ¬ nI 7 = 2 by decide), if_neg (show ¬ nI 7 = 3 by decide), if_neg (show ¬ nI 7 = 4 by decide), if_neg (show ¬ nI 7 = 5 by decide), if_neg (show ¬ nI 7 = 6 by decide), if_pos (show nI 7 = 7 by decide), g_X12_fact_77]; rfl
  | 8, _ => rw [if_neg (show ¬ nI 8 = 0 by decide), if_neg (show ¬ nI 8 = 1 by decide), if_neg (show ¬ nI 8 = 2 by decide), if_neg (show ¬ nI 8 = 3 by decide), if_neg (show ¬ nI 8 = 4 by decide), if_neg (show ¬ nI 8 = 5 by decide), if_neg (show ¬ nI 8 = 6 by decide), if_neg (show ¬ nI 8 = 7 by decide), if_pos (show nI 8 = 8 by decide), g_X12_fact_80]; rfl
  | 9, _ => rw [if_neg (show ¬ nI 9 = 0 by decide), if_neg (show ¬ nI 9 = 1 by decide), if_neg (show ¬ nI 9 = 2 by decide), if_neg (show ¬ nI 9 = 3 by decide), if_neg (show ¬ nI 9 = 4 by decide), if_neg (show ¬ nI 9 = 5 by decide), if_neg (show ¬ nI 9 = 6 by decide), if_neg (show ¬ nI 9 = 7 by decide), if_neg (show ¬ nI 9 = 8 by decide), if_pos (show nI 9 = 9 by decide), g_X12_fact_83]; rfl
  | 10, _ => rw [if_neg (show ¬ nI 10 = 0 by decide), if_neg (show ¬ nI 10 = 1 by decide), if_neg (show ¬ nI 10 = 2 by decide), if_neg (show ¬ nI 10 = 3 by decide), if_neg (show ¬ nI 10 = 4 by decide), if_neg (show ¬ nI 10 = 5 by decide), if_neg (show ¬ nI 10 = 6 by decide), if_neg (show ¬ nI 10 = 7 by decide), if_neg (show ¬ nI 10 = 8 by decide), if_neg (show ¬ nI 10 = 9 by decide), g_X12_fact_86]; rfl
def rSim (S : sT) (d : Nat) (k : Value) (E : List dsc) (L : fL) (T : fT) (t : Nat → Int32) (n m : Nat) (x : Int32) (f : Nat → Cs → PR) : Prop := ∀ A s cs, RSt t n A s cs → cs.length ≤ s → A 39 9 = x → ∃ B b, ex S d m [.ref 39] (Hh k E A L T) = some (.inl (some (.int b)), Hh k E B L T) ∧ RFr A B ∧ ((∃ s' cs', f s cs = .inl (s', cs') ∧ b = 1 ∧ RSt t n B s' cs' ∧ B 39 9 = x) ∨ ∃ e, f s cs = .inr e ∧ b = 0 ∧ B 39 8 = nI e)
theorem r_part' {x : Int32} {s : Nat} {cs : Cs} (h : RSt t n A s cs) (hl : cs.length ≤ s) (h9 : A 39 9 = x) : ∃ B b, ex S (d + 5) 130 [.ref 39] (Hh k E A L T) = some (.inl (some (.int b)), Hh k E B L T) ∧ RFr A B ∧ ((∃ s' cs', pPart t n s cs = .inl (s', cs') ∧ b = 1 ∧ RSt t n B s' cs' ∧ B 39 9 = x) ∨ ∃ e, pPart t n s cs = .inr e ∧ b = 0 ∧ B 39 8 = nI e) := by
  obtain ⟨B, p, hp, hs, b1, b2, b3, b4⟩ := r_wd (S := S) (d := d + 1) (k := k) (E := E) (L := L) (T := T) h
  have hn := h.2.1
  have h400 := h.1.2.2
  have hsn := hn.1
  obtain ⟨w1, w2⟩ := wE_c (t := t) (n := n) (p := p) hp
  have hB := Rp_R h.1 b4
  have e2 := (tE_c (t := t) (n := n) (p := s) hn.1).2.1
  have b9 : B 39 9 = x := by rw [b4.2 9 (by decide) (by decide)]; exact h9
  rw [x_X12_readPart, g_X12_readPart_0]
  simp -implicitDefEqProofs only [hc_39, b1, q_U, hg_39_6, b2, hg_39_8, b3]
  by_cases q1 : tK t n s = 1
  · obtain ⟨a1, a2, a3⟩ := (wE_k hs hn).1 q1
    have hlt := K_lt hn (by rw [q1]; decide)
    rw [if_neg (show ¬ nI (wE t n p) ≤ nI s from nI_ge (by omega) (by omega))]
    have iw := fun f (hf : f < 11) => r_isWd (S := S) (d := d) (k := k) (E := E) (L := L) (T := T) (j := f) (fcS_ok ⟨f, hf⟩).1 (show f < 37 by omega) (fcS_ok ⟨f, hf⟩).2 hB hp hs b2 b3
    rw [a1] at b2
    have stB : RSt t n B (nx t n s) cs := RSt_R h b4 e2 b2 rfl
    have ew : ∀ f, wdP t n s f = decide (tV t n s = nI f) := fun f => by unfold wdP; simp [q1]
    refine loop_Q (α := Unit) (F := fun g f _ => bd S (ex S (d + 4)) dflT E_X12_readPart g 17 [some (.ref 39), some (.int (nI f))] [] (Hh k E B L T)) (N := 11) (P := fun f _ => ∀ i, i < f → ¬ tV t n s = nI i) (Q := fun r => ∃ B b, r = some (.inl (some (.int b)), Hh k E B L T) ∧ RFr A B ∧ ((∃ s' cs', pPart t n s cs = .inl (s', cs') ∧ b = 1 ∧ RSt t n B s' cs' ∧ B 39 9 = x) ∨ ∃ e, pPart t n s cs = .inr e ∧ b = 0 ∧ B 39 8 = nI e)) ?_ ?_ (s := ()) (fun i hi => by omega) (by decide)
    · rintro g f - hf hP
      rw [g_X12_readPart_17, if_neg (show ¬ (11 : Int32) ≤ nI f from nI_ge (b := 11) hf (by decide)), r_fact hf]
      simp -implicitDefEqProofs only [q_S, hc_39, iw f hf, q_I, ew f, decide_eq_true_eq]
      by_cases qv : tV t n s = nI f
      · left
        have fc : isFc t n s = true := by
          unfold isFc
          rw [qv]
          simp [q1, nI_pos (show f < 2 ^ 31 by omega), show ¬ (10 : Int32) < nI f from nI_nlt (a := 10) (by omega) (by decide)]
        obtain ⟨C, c1, c2, c3, c4, c5⟩ := r_adds (S := S) (d := d + 2) (k := k) (E := E) (L := L) (T := T) (a := nI f) (b := 0) stB (by omega)
        rw [if_pos qv, if_neg (by decide), if_neg (show ¬ nI f = 11 from fun z => by have := (nI_eq (b := 11) (by omega) (by decide)).mp z; omega)]
        simp -implicitDefEqProofs only [hc_39, c1, q_U, q_z1]
        refine ⟨C, 1, rfl, RFr_tr (RFr_R b4) c3, Or.inl ⟨nx t n s, cs ++ [(nI f, 0)], ?_, rfl, c2, by rw [c4]; exact b9⟩⟩
        unfold pPart
        rw [if_pos fc, qv]
      · right
        rw [if_neg qv, if_pos rfl, nI_p1]
        refine ⟨(), rfl, fun i hi => ?_⟩
        by_cases e : i = f
        · subst e; exact qv
        · exact hP i (by omega)
    · rintro g - hP
      rw [g_X12_readPart_17, if_pos (by decide), if_pos (by decide), q_z0]
      refine ⟨B, 0, rfl, RFr_R b4, Or.inr ⟨s, ?_, rfl, b3⟩⟩
      have nf : ¬ isFc t n s = true := by
        unfold isFc
        intro z
        simp -implicitDefEqProofs only [Bool.and_eq_true, decide_eq_true_eq, Bool.not_eq_true', decide_eq_false_iff_not] at z
        obtain ⟨m, hm, em⟩ := wi_n (M := 10) (by decide) ⟨z.2.1, z.2.2⟩
        exact hP m (by omega) em
      have nn : ¬ isNm t n s 999999 = true := by unfold isNm; simp [q1]
      unfold pPart
      rw [if_neg nf, if_neg nn]
  · have e1 := (wE_k hs hn).2 q1
    rw [e1] at b2 ⊢
    have nf : ¬ isFc t n s = true := by unfold isFc; simp [q1]
    obtain ⟨C, c1, c2, c3, c4⟩ := r_number (S := S) (d := d + 1) (k := k) (E := E) (L := L) (T := T) (hi := 999999) hB hn.1 b2
    rw [hn.2] at c1 c3
    obtain ⟨k1, k2⟩ := num_k (t := t) (n := n) (s := s) (p := s) (hi := 999999) hn.2 hn (by decide)
    rw [if_pos (Int32.le_refl (nI s))]
    simp -implicitDefEqProofs only [hc_39, c1, q_I]
    have ry := Ry_tr b4 c4
    by_cases qn : isNm t n s 999999 = true
    · obtain ⟨v1, v2, v3⟩ := k1 qn
      rw [v2] at c2
      have stC : RSt t n C (nx t n s) cs := RSt_R h ry e2 c2 rfl
      obtain ⟨D, d1, d2, d3, d4, d5⟩ := r_adds (S := S) (d := d + 2) (k := k) (E := E) (L := L) (T := T) (a := 100) (b := tV t n s) stC (by have := K_lt hn (fun z => by unfold isNm at qn; simp [z] at qn); omega)
      rw [v1, if_pos v3]
      simp -implicitDefEqProofs only [hc_39, d1, q_U, q_z1]
      refine ⟨D, 1, rfl, RFr_tr (RFr_R ry) d3, Or.inl ⟨nx t n s, _, ?_, rfl, d2, by rw [d4, ry.2 9 (by decide) (by decide)]; exact h9⟩⟩
      unfold pPart
      rw [if_neg nf, if_pos qn]
    · rw [k2 qn, if_neg (by decide), q_z0]
      refine ⟨C, 0, rfl, RFr_R ry, Or.inr ⟨s, ?_, rfl, c3⟩⟩
      unfold pPart
      rw [if_neg nf, if_neg qn]
theorem r_sumL {x : Int32} (m : Nat) : ∀ (i s g : Nat) (cs : Cs) (A : fA), RSt t n A s cs → i + m = 401 → i ≤ s → cs.length ≤ s → A 39 9 = x → m + 1 ≤ g → ∃ B b, bd S (ex S (d + 5)) dflT E_X12_readSum g 9 [some (.ref 39)] [] (Hh k E A L T) = some (.inl (some (.int b)), Hh k E B L T) ∧ RFr A B ∧ ((∃ s' cs', pSumT t n m s cs = .inl (s', cs') ∧ b = 1 ∧ RSt t n B s' cs' ∧ B 39 9 = x) ∨ ∃ e, pSumT t n m s cs = .inr e ∧ b = 0 ∧ B 39 8 = nI e) := by
  induction m with
  | zero =>
    intro i s g cs A h hm hi _ _ _
    have := h.2.1.1
    have := h.1.2.2
    omega
  | succ m ih =>
    intro i s g cs A h hm hi hl h9 hg
    have hn := h.2.1
    have h400 := h.1.2.2
    have hsn := hn.1
    obtain ⟨g, rfl⟩ : ∃ g', g = g' + 1 := ⟨g - 1, by omega⟩
    obtain ⟨B, b1, b2, b3, b4⟩ := r_sg (S := S) (d := d + 2) (k := k) (E := E) (L := L) (T := T) (x := 43) h (by decide) (by decide)
    have ep : pSumT t n (m + 1) s cs = if sgP t n s 43 = true then bnd (pPart t n (nx t n s) cs) (fun s' cs' => pSumT t n m s' (cs' ++ [(101, 0)])) else .inl (s, cs) := rfl
    have b9 : B 39 9 = x := by rw [b4.2 9 (by decide) (by decide)]; exact h9
    rw [ep, g_X12_readSum_9]
    simp -implicitDefEqProofs only [hc_39, b1, q_I]
    by_cases q : sgP t n s 43 = true
    · have hlt := K_lt hn (by rw [(sg_k q).1]; decide)
      obtain ⟨n1, n2, n3⟩ := nx_c hn
      obtain ⟨n4, -⟩ := n3 hlt
      rw [if_pos q] at b2
      rw [if_pos q, if_neg (by decide), if_pos q]
      obtain ⟨C, b5, c1, c2, c3⟩ := r_part' (S := S) (d := d) (k := k) (E := E) (L := L) (T := T) (x := x) b2 (by omega) b9
      simp -implicitDefEqProofs only [hc_39, c1, q_I]
      rcases c3 with ⟨s', cs', r1, r2, r3, r4⟩ | ⟨e, r1, r2, r3⟩
      · subst r2
        obtain ⟨a1, a2, a3, a4, -⟩ := (Gd_part (t := t) (n := n) (nx t n s) cs n1).1 s' cs' r1
        have a5 := a1.1
        obtain ⟨D, d1, d2, d3, d4, d5⟩ := r_adds (S := S) (d := d + 3) (k := k) (E := E) (L := L) (T := T) (a := 101) (b := 0) r3 (by omega)
        rw [if_neg (by decide), r1]
        simp -implicitDefEqProofs only [hc_39, d1, q_U]
        obtain ⟨F, b6, f1, f2, f3⟩ := ih (i + 1) s' g (cs' ++ [(101, 0)]) D d2 (by omega) (by omega) (by rw [ln_a]; omega) (by rw [d4]; exact r4) (by omega)
        exact ⟨F, b6, f1, RFr_tr (RFr_R b4) (RFr_tr c2 (RFr_tr d3 f2)), f3⟩
      · subst r2
        rw [if_pos rfl, q_z0, r1]
        exact ⟨C, 0, rfl, RFr_tr (RFr_R b4) c2, Or.inr ⟨e, rfl, rfl, r3⟩⟩
    · rw [if_neg q] at b2
      rw [if_neg q, if_pos rfl, q_z1, if_neg q]
      exact ⟨B, 1, rfl, RFr_R b4, Or.inl ⟨s, cs, rfl, rfl, b2, b9⟩⟩
theorem r_sum {x : Int32} : rSim S (d + 6) k E L T t n 131 x (pSum t n) := by
  intro A s cs h hl h9
  have hn := h.2.1
  have h400 := h.1.2.2
  have hsn := hn.1
  rw [x_X12_readSum, g_X12_readSum_0]
  obtain ⟨B, b, c1, c2, c3⟩ := r_part' (S := S) (d := d) (k := k) (E := E) (L := L) (T := T) (x := x) h (by omega) h9
  simp -implicitDefEqProofs only [hc_39, c1, q_I]
  rcases c3 with ⟨s', cs', r1, r2, r3, r4⟩ | ⟨e, r1, r2, r3⟩
  · subst r2
    obtain ⟨a1, a2, a3, a4, -⟩ := (Gd_part (t := t) (n := n) s cs hn).1 s' cs' r1
    rw [if_neg (by decide)]
    obtain ⟨F, b6, f1, f2, f3⟩ := r_sumL (S := S) (d := d) (k := k) (E := E) (L := L) (T := T) (x := x) 401 0 s' 99999 cs' B r3 rfl (by omega) (by omega) r4 (by decide)
    refine ⟨F, b6, f1, RFr_tr c2 f2, ?_⟩
    have ea : pSum t n s cs = pSumT t n 401 s' cs' := by unfold pSum; rw [r1]; rfl
    rw [ea]; exact f3
  · subst r2
    rw [if_pos rfl, q_z0]
    refine ⟨B, 0, rfl, c2, Or.inr ⟨e, ?_, rfl, r3⟩⟩
    unfold pSum
    rw [r1]; rfl
end RParC
