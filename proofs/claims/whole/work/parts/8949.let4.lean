/-! let: the call, whole -/
section LetE
variable {S : sT} {d c : Nat} {k : Value} {E F : List dsc} {A A0 A1 A2 B : fA} {L : fL} {T : fT} {W U D V : fW}
theorem err_cg {X : fW} (h0 : X 0 = W 0) (h5 : X 5 = W 5) (h6 : X 6 = W 6) {i : Nat} (hi : X i = W i) {kd x : Int32} : errW X kd x i = errW W kd x i := by
  unfold errW
  rw [h6]
  by_cases q : W 6 < 60
  · rw [if_pos q, if_pos q]; simp -implicitDefEqProofs only [upd, h0, h5, hi]
  · rw [if_neg q, if_neg q]; simp -implicitDefEqProofs only [upd, hi]
/-- a call of let that ends as the class's first tests do -/
theorem let_thr {e : Nat} {av : List Value} (hR : Rel c k E A T) (hcl : ∀ L, ex S (d + 36) 110 (.ref 0 :: av) (Hh k E A L T) = some (.inr (xnm e), Hh k E (uC A) L T)) (hrf : ∀ M, ex S (d + 36) 155 (.ref 39 :: av) (Hh k E (uC A) M T) = some (.inl (some (.int 0)), Hh k E (up (uR (uC A)) 39 0 (cdD e)) M T)) (he : cdD e ≠ 0 := by decide) : PK c S (d + 36) k E A T 110 155 av cdD := by
  have fe := hR.2.2.2.2.1
  intro L
  refine ⟨k, E, uC A, L, T, Or.inr ⟨e, he, hcl L, fun M => ⟨up (uR (uC A)) 39 0 (cdD e), M, some (.int 0), rfl, hrf M, rfl, up_ii, ?_⟩⟩⟩
  refine M_Rel (M_c (M_rd2 (B := uC A) hR (fun r r1 _ => uC_r r1) (fun r r9 r4 => ?_) (fun i hi => ?_) ?_)) ⟨0, by decide, ?_, ?_⟩ ?_
  · rw [up_ne r9, uR_r r9]
  · rw [up_ne (by decide), uR_r (by decide), uC_r (by decide)]
  · rw [up_rr (by decide), uR_j (by decide) (by decide) (by decide), uC_r (by decide)]
  · rw [up_ne (by decide), uR_r (by decide), uC_1]; rfl
  · rw [up_rr (by decide), uR_5]; rfl
  · rw [up_ne (by decide), uR_r (by decide), uC_j (by decide) (by decide), up_rr (by decide), uR_j (by decide) (by decide) (by decide), uC_r (by decide)]; exact fe
theorem p_let (hc : c < 1000000) (hR : Rel c k E A T) (x1 x2 y x b : Int32) : PK c S (d + 36) k E A T 110 155 [.int x1, .int x2, .int y, .int x, .int b] cdD := by
  have hI := Rel_w hR
  obtain ⟨n, hn4, fd1, fd2⟩ := hR.2.2.1
  have tp := hR.2.2.2.1
  have fe := hR.2.2.2.2.1
  have h1683 := hI.2.2.2.2.1.1
  have h24' := hI.2.2.2.2.1.2.1
  have cu : ∀ L, ex S (d + 35) 55 [.ref 1] (Hh k E A L T) = some (.inl none, Hh k E (uC A) L T) := fun L => c_use
  have ru : ∀ (E' : List dsc) (B : fA) (T' : fT) (M : fL), ex S (d + 35) 112 [.ref 39] (Hh k E' B M T') = some (.inl none, Hh k E' (uR B) M T') := fun E' B T' M => r_use
  have TpC : Tp (uC A) (A 2) n := ⟨fun i hi => by rw [uC_r (by decide)], by rw [uC_3]; exact fd1, hn4⟩
  have RpR : ∀ B : fA, (∀ r, 39 ≤ r → r < 49 → B r = A r) → Rp (uR B) (A 2) n := fun B hB => ⟨fun i hi => by rw [uR_r (by decide), hB 42 (by decide) (by decide)]; exact (tp i hi).symm, by rw [uR_7, hB 39 (by decide) (by decide)]; exact fd2, hn4⟩
  rcases fld_c x1 with hx1 | ⟨f1, hf1, rfl⟩
  · refine let_thr (e := 0) hR (fun L => ?_) (fun M => ?_)
    · simp -implicitDefEqProofs only [x_X11_let, g_X11_let_0, hv_0_0, hc_1, cu, q_U, c_f0 hx1, q_Ue]
    · simp -implicitDefEqProofs only [x_X12_let, g_X12_let_0, g_X12_let_24, hc_39, ru, q_U, r_f0 hx1, q_I, i1_0, i0_0, if_true, if_false, r_thr1]
      rfl
  rcases fld_c x2 with hx2 | ⟨f2, hf2, rfl⟩
  · refine let_thr (e := 0) hR (fun L => ?_) (fun M => ?_)
    · simp -implicitDefEqProofs only [x_X11_let, g_X11_let_0, hv_0_0, hc_1, cu, q_U, c_f1 hf1, c_f0 hx2, q_Ue]
    · simp -implicitDefEqProofs only [x_X12_let, g_X12_let_0, g_X12_let_24, hc_39, ru, q_U, r_f1 hf1, r_f0 hx2, q_I, i1_0, i0_0, if_true, if_false, r_thr1]
      rfl
  by_cases qy : wi y 0 99
  case neg =>
    refine let_thr (e := 1) hR (fun L => ?_) (fun M => ?_)
    · simp -implicitDefEqProofs only [x_X11_let, g_X11_let_0, hv_0_0, hc_1, cu, q_U, c_f1 hf1, c_f1 hf2, c_in0 qy, q_Ue]
    · simp -implicitDefEqProofs only [x_X12_let, g_X12_let_0, g_X12_let_24, g_X12_let_59, hc_39, ru, q_U, r_f1 hf1, r_f1 hf2, q_I, i1_0, i0_0, if_true, if_false, r_thr0, r_in0 qy, r_thr1]
      rfl
  by_cases qx : wi x 0 100000
  case neg =>
    refine let_thr (e := 1) hR (fun L => ?_) (fun M => ?_)
    · simp -implicitDefEqProofs only [x_X11_let, g_X11_let_0, hv_0_0, hc_1, cu, q_U, c_f1 hf1, c_f1 hf2, c_in1 qy, c_in0 qx, q_Ue]
    · simp -implicitDefEqProofs only [x_X12_let, g_X12_let_0, g_X12_let_24, g_X12_let_59, hc_39, ru, q_U, r_f1 hf1, r_f1 hf2, q_I, i1_0, i0_0, if_true, if_false, r_thr0, r_in1 qy, r_in0 qx, r_thr1]
      rfl
  intro L
  obtain ⟨B, b', b1, b2, b3, b4⟩ := c_read (S := S) (d := d + 4) (k := k) (E := E) (L := L) (T := T) true TpC
  have b1' : ex S (d + 35) 84 [.ref 1, .int 1] (Hh k E (uC A) L T) = _ := b1
  have bA : ∀ r, r ≠ 1 → r ≠ 3 → B r = A r := fun r r1 r3 => (b2 r r1 r3).trans (uC_r r1)
  have B11 : B 1 1 = nI 0 := by rw [b3 1 (by omega), uC_1]; rfl
  have Blo : ∀ r, 39 ≤ r → r < 49 → B r = A r := fun r r1 r2 => bA r (by omega) (by omega)
  rcases b4 with ⟨acc, cs, p1, rfl, p3, p4, p5, p6, p7⟩ | ⟨e, p1, rfl, p3⟩
  case inr =>
    refine ⟨k, E, B, L, T, Or.inr ⟨1, by decide, ?_, fun M => ?_⟩⟩
    · simp -implicitDefEqProofs only [x_X11_let, g_X11_let_0, hv_0_0, hc_1, cu, q_U, c_f1 hf1, c_f1 hf2, c_in1 qy, c_in1 qx, b1', q_I, c_nt0, q_Ue]
    · obtain ⟨C, z, c1, c2, c3, c4, c5⟩ := r_read (S := S) (d := d + 3) (k := k) (E := E) (L := M) (T := T) true (RpR B Blo)
      have c1' : ex S (d + 35) 139 [.ref 39, .int 1] (Hh k E (uR B) M T) = _ := c1
      have w40 : ∀ i, i < 34979 → C 40 i = A 40 i := fun i hi => by rw [c4 i hi, uR_r (by decide), Blo 40 (by decide) (by decide)]
      rcases c5 with ⟨acc', cs', v1, -, -⟩ | ⟨e', v1, rfl, v3⟩
      · rw [p1] at v1; cases v1
      · rw [p1] at v1; cases v1
        refine ⟨up C 39 0 2, M, some (.int 0), rfl, ?_, rfl, up_ii, ?_⟩
        · simp -implicitDefEqProofs only [x_X12_let, g_X12_let_0, g_X12_let_24, g_X12_let_59, g_X12_let_86, hc_39, ru, q_U, r_f1 hf1, r_f1 hf2, q_I, i1_0, i0_0, if_true, if_false, r_thr0, r_in1 qy, r_in1 qx, c1', if_neg (show ¬ (0 : Int32) ≤ -1 by decide), r_thr1]
        · refine M_Rel (M_c (M_rd2 hR bA (fun r r9 r4 => ?_) (fun i hi => ?_) ?_)) ⟨0, by decide, ?_, ?_⟩ ?_
          · rw [up_ne r9, c2 r r9 r4, uR_r r9]
          · rw [up_ne (by decide)]; exact w40 i hi
          · rw [up_rr (by decide), c3 3 (by decide) (by decide) (by decide) (by decide) (by decide), uR_j (by decide) (by decide) (by decide), Blo 39 (by decide) (by decide)]
          · rw [up_ne (by decide), c2 1 (by decide) (by decide), uR_r (by decide)]; exact B11
          · rw [up_rr (by decide), c3 5 (by decide) (by decide) (by decide) (by decide) (by decide), uR_5]; rfl
          · rw [up_ne (by decide), c2 1 (by decide) (by decide), uR_r (by decide), p3, up_rr (by decide), v3]
  obtain ⟨o1, o2, o3⟩ := pTx_ok p1
  have hLB : LkA 4 k E B T (A 40) := LkA_A hR.2.1 (fun i hi => bA _ (by omega) (by omega)) (fun r hr => bA r (by have := hr.1; omega) (by have := hr.1; omega))
  have cy := c_years (S := S) (d := d + 30) (k := k) (E := E) (L := L) (T := T) hI hLB
  have lB : B 11 0 = nI (hn (A 40)) := hLB.2.2.2.2.2.2.1.1.trans h1683
  have cf := c_free (S := S) (d := d + 31) (k := k) (E := E) (L := L) (T := T) (a := nI f1) (b := nI f2) hLB.2.1 lB h24' hI.2.1
  -- what the reference does up to the test of the fields
  have rhead : ∀ (E' : List dsc) (T' : fT) (N : fA) (M : fL), (∀ r, 39 ≤ r → r < 49 → N r = A r) → ∃ C z, ex S (d + 36) 155 [.ref 39, .int (nI f1), .int (nI f2), .int y, .int x, .int b] (Hh k E' N M T') = bd S (ex S (d + 35)) dflT E_X12_let 99996 128 [some (.ref 39), some (.int (nI f1)), some (.int (nI f2)), some (.int y), some (.int x), some (.int b), some (.int (nI acc.length)), some (.int z), none, none] [.int (if mostW (A 40) 10 < y then 0 else 1)] (Hh k E' C M T') ∧ (∀ r, r ≠ 39 → r ≠ 40 → r ≠ 46 → C r = N r) ∧ C 39 0 = 0 ∧ C 39 3 = A 39 3 ∧ C 39 5 = 0 ∧ C 39 10 = -1 ∧ (∀ i, i < 34979 → C 40 i = A 40 i) ∧ WL (C 40) 34979 acc cs := by
    intro E' T' N M hN
    obtain ⟨C, z, c1, c2, c3, c4, c5⟩ := r_read (S := S) (d := d + 3) (k := k) (E := E') (L := M) (T := T') true (RpR N hN)
    have c1' : ex S (d + 35) 139 [.ref 39, .int 1] (Hh k E' (uR N) M T') = _ := c1
    have w40 : ∀ i, i < 34979 → C 40 i = A 40 i := fun i hi => by rw [c4 i hi, uR_r (by decide), hN 40 (by decide) (by decide)]
    rcases c5 with ⟨acc', cs', v1, rfl, v3, v4, v5, v6, v7⟩ | ⟨e', v1, -, -⟩
    case inr => rw [p1] at v1; cases v1
    rw [p1] at v1; cases v1
    have hIC : Iv c (C 40) := Iv_lo w40 hI
    obtain ⟨G, z, g1, g2⟩ := r_may2 (S := S) (d := d + 27) (k := k) (E := E') (L := M) (T := T') (A := C) (g := 99996) (x1 := nI f1) (x2 := nI f2) (y := y) (x4 := x) (x5 := b) (x6 := nI acc.length) (o7 := none) (o8 := none) (o9 := none) hIC qy.1
    have em : mostW (C 40) 10 = mostW (A 40) 10 := by
      have e2 := c_years (S := S) (d := d + 30) (k := k) (E := E) (L := L) (T := T) hIC (LkA_lo w40 hI hLB)
      rw [cy] at e2
      simp -implicitDefEqProofs only [Option.some.injEq, Prod.mk.injEq, Sum.inl.injEq, Value.int.injEq] at e2
      exact e2.1.symm
    rw [em] at g1
    refine ⟨G, z, ?_, fun r r9 r4 r6 => by rw [g2.1 r r9 r6, c2 r r9 r4, uR_r r9], ?_, ?_, ?_, ?_, fun i hi => by rw [g2.1 40 (by decide) (by decide)]; exact w40 i hi, ?_⟩
    · simp -implicitDefEqProofs only [x_X12_let, g_X12_let_0, g_X12_let_24, g_X12_let_59, hc_39, ru, q_U, r_f1 hf1, r_f1 hf2, q_I, i1_0, i0_0, if_true, if_false, r_thr0, r_in1 qy, r_in1 qx, c1', if_pos (nI_pos' (show acc.length < 2 ^ 31 by omega)), g1]
    · rw [g2.2 0 (by decide), c3 0 (by decide) (by decide) (by decide) (by decide) (by decide)]; exact uR_0
    · rw [g2.2 3 (by decide), c3 3 (by decide) (by decide) (by decide) (by decide) (by decide), uR_j (by decide) (by decide) (by decide), hN 39 (by decide) (by decide)]
    · rw [g2.2 5 (by decide), c3 5 (by decide) (by decide) (by decide) (by decide) (by decide), uR_5]
    · rw [g2.2 10 (by decide), v3]
    · rw [g2.1 40 (by decide) (by decide)]
      refine ⟨v4, fun i hi => ?_, v7⟩
      obtain ⟨q', ⟨y0, y1, y2, y3, y4, y5⟩, y6⟩ := v6 i hi
      exact ⟨q', y0, y1, y2, y3, y4, y5, y6⟩
  -- the test of the fields in the reference
  have rfree : ∀ (E' : List dsc) (T' : fT) (C : fA) (M : fL), (∀ i, i < 34979 → C 40 i = A 40 i) → ex S (d + 35) 147 [.ref 39, .int (nI f1), .int (nI f2)] (Hh k E' C M T') = some (.inl (some (.int (frW (A 40) (nI f1) (nI f2)))), Hh k E' C M T') := by
    intro E' T' C M w40
    have hIC : Iv c (C 40) := Iv_lo w40 hI
    have rf := r_free (S := S) (d := d + 32) (k := k) (E := E') (L := M) (T := T') (a := nI f1) (b := nI f2) (A := C) hIC.2.2.2.2.1.1 hIC.2.2.2.2.1.2.1
    have hLC := LkA_lo w40 hI hLB
    have e2 := c_free (S := S) (d := d + 31) (k := k) (E := E) (L := L) (T := T) (a := nI f1) (b := nI f2) hLC.2.1 (hLC.2.2.2.2.2.2.1.1.trans hIC.2.2.2.2.1.1) hIC.2.2.2.2.1.2.1 hIC.2.1
    rw [cf] at e2
    simp -implicitDefEqProofs only [Option.some.injEq, Prod.mk.injEq, Sum.inl.injEq, Value.int.injEq] at e2
    rw [rf, e2.1]
  have chead : ex S (d + 36) 110 [.ref 0, .int (nI f1), .int (nI f2), .int y, .int x, .int b] (Hh k E A L T) = (if mostW (A 40) 10 < y then bd S (ex S (d + 35)) dflT E_X11_let 99999 57 [some (.ref 0), some (.int (nI f1)), some (.int (nI f2)), some (.int y), some (.int x), some (.int b), none, none] [.int 0] (Hh k E B L T) else bd S (ex S (d + 35)) dflT E_X11_let 99999 57 [some (.ref 0), some (.int (nI f1)), some (.int (nI f2)), some (.int y), some (.int x), some (.int b), none, none] [.int 1] (Hh k E B L T)) := by
    simp -implicitDefEqProofs only [x_X11_let, g_X11_let_0, hv_0_0, hc_1, cu, q_U, c_f1 hf1, c_f1 hf2, c_in1 qy, c_in1 qx, b1', q_I, c_nt1, hv_0_1, hc_4, cy]
  -- nothing is done
  have none_ : ex S (d + 36) 110 [.ref 0, .int (nI f1), .int (nI f2), .int y, .int x, .int b] (Hh k E A L T) = some (.inl (some (.int (-1))), Hh k E B L T) → (∀ C M z, (∀ i, i < 34979 → C 40 i = A 40 i) → bd S (ex S (d + 35)) dflT E_X12_let 99996 128 [some (.ref 39), some (.int (nI f1)), some (.int (nI f2)), some (.int y), some (.int x), some (.int b), some (.int (nI acc.length)), some (.int z), none, none] [.int (if mostW (A 40) 10 < y then 0 else 1)] (Hh k E C M T) = some (.inl (some (.int (-1))), Hh k E C M T)) → ∃ k' E' A1 L1 T', (∃ v, okI 110 v = true ∧ ex S (d + 36) 110 (.ref 0 :: [.int (nI f1), .int (nI f2), .int y, .int x, .int b]) (Hh k E A L T) = some (.inl v, Hh k' E' A1 L1 T') ∧ ∀ M : fL, ∃ A2 L2, ex S (d + 36) 155 (.ref 39 :: [.int (nI f1), .int (nI f2), .int y, .int x, .int b]) (Hh k' E' A1 M T') = some (.inl v, Hh k' E' A2 L2 T') ∧ L2 48 = M 48 ∧ A2 39 0 = 0 ∧ Rel (c + 1) k' E' A2 T') ∨ ∃ e, cdD e ≠ 0 ∧ ex S (d + 36) 110 (.ref 0 :: [.int (nI f1), .int (nI f2), .int y, .int x, .int b]) (Hh k E A L T) = some (.inr (xnm e), Hh k' E' A1 L1 T') ∧ ∀ M : fL, ∃ A2 L2 v, okI 110 v = true ∧ ex S (d + 36) 155 (.ref 39 :: [.int (nI f1), .int (nI f2), .int y, .int x, .int b]) (Hh k' E' A1 M T') = some (.inl v, Hh k' E' A2 L2 T') ∧ L2 48 = M 48 ∧ A2 39 0 = cdD e ∧ Rel (c + 1) k' E' A2 T' := by
    intro hcl hrf
    refine ⟨k, E, B, L, T, Or.inl ⟨some (.int (-1)), rfl, hcl, fun M => ?_⟩⟩
    obtain ⟨C, z, c1, c2, c0, c3, c5, c10, w40, -⟩ := rhead E T B M Blo
    refine ⟨C, M, by rw [c1]; exact hrf C M z w40, rfl, c0, M_Rel (M_c ⟨Iv_lo w40 hI, ?_, ?_, ?_, ?_, hR.2.2.2.2.2.2.2.1, hR.2.2.2.2.2.2.2.2⟩) ⟨0, by decide, ?_, ?_⟩ ?_⟩
    · exact LkA_A (LkA_lo w40 hI hLB) (fun i hi => c2 _ (by omega) (by omega) (by omega)) (fun r hr => c2 r (by have := hr.1; omega) (by have := hr.1; omega) (by have := hr.1; omega))
    · rw [c2 2 (by decide) (by decide) (by decide), c2 42 (by decide) (by decide) (by decide), bA 2 (by decide) (by decide), bA 42 (by decide) (by decide)]; exact tp
    · rw [c2 36 (by decide) (by decide) (by decide), bA 36 (by decide) (by decide)]; exact hR.2.2.2.2.2.1
    · exact KP_A hR.2.2.2.2.2.2.1 c3 (by rw [c2 41 (by decide) (by decide) (by decide), bA 41 (by decide) (by decide)]) (fun r hr => by rw [c2 r (by omega) (by omega) (by omega)]; exact bA r (by omega) (by omega))
    · rw [c2 1 (by decide) (by decide) (by decide)]; exact B11
    · rw [c5]; rfl
    · rw [c2 1 (by decide) (by decide) (by decide), p3, c10]
  by_cases hfr : hn (A 40) < 24 ∧ frN (A 40) (nI f1) (nI f2) 48 = true
  case neg =>
    have e1 : frW (A 40) (nI f1) (nI f2) = 0 := by
      unfold frW
      by_cases q : hn (A 40) < 24
      · rw [if_pos q, if_neg (fun r => hfr ⟨q, r⟩)]
      · rw [if_neg q]
    refine none_ ?_ (fun C M z w40 => ?_)
    · rw [chead]
      split <;> simp -implicitDefEqProofs only [g_X11_let_57, hv_0_1, hc_4, cf, e1, q_I, if_true]
    · simp -implicitDefEqProofs only [g_X12_let_128, hc_39, rfree E T C M w40, e1, q_I, if_true]
  obtain ⟨h24, hfr⟩ := hfr
  have e1 : frW (A 40) (nI f1) (nI f2) = 1 := by unfold frW; rw [if_pos h24, if_pos hfr]
  -- what is done
  have go : ∀ (eW : fW → fW) (A0 : fA) (m8 : Int32), m8 = (if mostW (A 40) 10 < y then 0 else 1) → (m8 = 0 → ¬ b = 0) → ex S (d + 36) 110 [.ref 0, .int (nI f1), .int (nI f2), .int y, .int x, .int b] (Hh k E A L T) = bd S (ex S (d + 35)) dflT E_X11_let 99998 97 [some (.ref 0), some (.int (nI f1)), some (.int (nI f2)), some (.int y), some (.int x), some (.int b), some (.int m8), none] [] (Hh k E A0 L T) → Fr B A0 → LkA 4 k E A0 T (eW (A 40)) → Iv (c + 1) (eW (A 40)) → (∀ X : fW, X 6 = A 40 6 → ∀ i, i ≠ 6 → (i < 1997 ∨ 2237 ≤ i) → eW X i = X i) → (∀ X : fW, X 0 = A 40 0 → X 5 = A 40 5 → X 6 = A 40 6 → ∀ i, X i = A 40 i → eW X i = eW (A 40) i) → ((m8 = 0 ∧ ∀ X, eW X = errW X 0 0) ∨ (¬ m8 = 0 ∧ ∀ X, eW X = X)) → ∃ k' E' A1 L1 T', (∃ v, okI 110 v = true ∧ ex S (d + 36) 110 (.ref 0 :: [.int (nI f1), .int (nI f2), .int y, .int x, .int b]) (Hh k E A L T) = some (.inl v, Hh k' E' A1 L1 T') ∧ ∀ M : fL, ∃ A2 L2, ex S (d + 36) 155 (.ref 39 :: [.int (nI f1), .int (nI f2), .int y, .int x, .int b]) (Hh k' E' A1 M T') = some (.inl v, Hh k' E' A2 L2 T') ∧ L2 48 = M 48 ∧ A2 39 0 = 0 ∧ Rel (c + 1) k' E' A2 T') ∨ ∃ e, cdD e ≠ 0 ∧ ex S (d + 36) 110 (.ref 0 :: [.int (nI f1), .int (nI f2), .int y, .int x, .int b]) (Hh k E A L T) = some (.inr (xnm e), Hh k' E' A1 L1 T') ∧ ∀ M : fL, ∃ A2 L2 v, okI 110 v = true ∧ ex S (d + 36) 155 (.ref 39 :: [.int (nI f1), .int (nI f2), .int y, .int x, .int b]) (Hh k' E' A1 M T') = some (.inl v, Hh k' E' A2 L2 T') ∧ L2 48 = M 48 ∧ A2 39 0 = cdD e ∧ Rel (c + 1) k' E' A2 T' := by
    intro eW A0 m8 hm8 hb0 hcl hF0 hL0 hU P1 P2 h8
    obtain ⟨N1, a, F, n1, n2, n3⟩ := let_fin (S := S) (d := d) (eW := eW) (m8 := m8) hc hR bA B11 p3 p4 p5 p6 p7 p1 hn4 hF0 hL0 hU P1 P2 h24 hfr hf1 qy qx h8 L
    refine ⟨k, E ++ F, N1, L, upT T 13 (hn (A 40)) (some a), Or.inl ⟨some (.int (nI (hn (A 40)))), rfl, ?_, fun M => ?_⟩⟩
    · rw [hcl]; exact n1 99997 b m8
    · obtain ⟨C, z, c1, c2, c0, c3, c5, c10, w40, cw⟩ := rhead (E ++ F) (upT T 13 (hn (A 40)) (some a)) N1 M n2
      obtain ⟨G, g1, g2, g3⟩ := n3 C M 99993 b (nI acc.length) z none c2 c3 c5 c10 w40 cw
      refine ⟨G, M, ?_, rfl, g2.trans c0, g3⟩
      rw [c1, ← hm8, g_X12_let_128]
      simp -implicitDefEqProofs only [hc_39, rfree (E ++ F) (upT T 13 (hn (A 40)) (some a)) C M w40, e1, q_I, i1_0, if_false]
      unfold kdV at g1
      by_cases qm : m8 = 0
      · rw [if_pos qm, if_neg (hb0 qm)]
        by_cases qz : y ≤ 0
        · rw [if_pos qz] at g1 ⊢; exact g1
        · rw [if_neg qz] at g1 ⊢; exact g1
      · rw [if_neg qm]
        by_cases qz : y ≤ 0
        · rw [if_pos qz] at g1 ⊢; exact g1
        · rw [if_neg qz] at g1 ⊢; exact g1
  by_cases may : mostW (A 40) 10 < y
  · by_cases hb : b = 0
    · refine none_ ?_ (fun C M z w40 => ?_)
      · rw [chead, if_pos may]
        simp -implicitDefEqProofs only [g_X11_let_57, hv_0_1, hc_4, cf, e1, q_I, i1_0, if_false, if_true, if_pos hb]
      · simp -implicitDefEqProofs only [g_X12_let_128, hc_39, rfree E T C M w40, e1, q_I, i1_0, if_false, if_pos may, if_true, if_pos hb]
    · obtain ⟨m, hm, em⟩ := hI.2.2.2.2.2.1.2.2.2.2.2
      obtain ⟨A0, run0, hL0, hF0⟩ := c_noteW (S := S) (d := d + 32) (L := L) (kd := 0) (x := 0) hI em (by omega) hLB
      refine go (fun X => errW X 0 0) A0 0 (by rw [if_pos may]) (fun _ => hb) ?_ hF0 hL0 (jErr hI hc) (fun X hX i i1 i2 => err_o (m := m) (by rw [hX]; exact em) (by omega) i1 i2) (fun X h0 h5 h6 i hi => err_cg h0 h5 h6 hi) (Or.inl ⟨rfl, fun _ => rfl⟩)
      rw [chead, if_pos may]
      simp -implicitDefEqProofs only [g_X11_let_57, hv_0_1, hc_4, cf, e1, q_I, i1_0, if_false, if_true, if_neg hb, run0, q_U]
  · refine go (fun X => X) B 1 (by rw [if_neg may]) (fun h => absurd h (by decide)) ?_ Fr_refl hLB (Iv_c (Nat.le_succ c) hI) (fun _ _ _ _ _ => rfl) (fun X _ _ _ i hi => hi) (Or.inr ⟨by decide, fun _ => rfl⟩)
    rw [chead, if_neg may]
    simp -implicitDefEqProofs only [g_X11_let_57, hv_0_1, hc_4, cf, e1, q_I, i1_0, if_false]
end LetE
