/-! words: the call -/
section WordsD
variable {S : sT} {d c : Nat} {k : Value} {E F : List dsc} {A A2 : fA} {L : fL} {T : fT} {W : fW}
theorem c_use : ex S (d + 1) 55 [.ref 1] (Hh k E A L T) = some (.inl none, Hh k E (up (up A 1 3 (A 1 1)) 1 1 0) L T) := by
  rw [x_X6_useTape, g_X6_useTape_0]
  simp -implicitDefEqProofs only [hg_1_1, hp_1_3, hp_1_1]
theorem r_use : ex S (d + 1) 112 [.ref 39] (Hh k E A L T) = some (.inl none, Hh k E (up (up (up A 39 0 0) 39 7 (A 39 5)) 39 5 0) L T) := by
  rw [x_X12_uses, g_X12_uses_0]
  simp -implicitDefEqProofs only [hp_39_0, hg_39_5, hp_39_7, hp_39_5]
  rw [up_rr (A := A) (a := 39) (i := 0) (j := 5) (by decide)]
theorem c_nt0 {h : pH} : ex S (d + 1) 85 [.int 0] h = some (.inr (xnm 1), h) := by rw [x_X11_needText, g_X11_needText_0, if_pos rfl]
theorem c_nt1 {h : pH} : ex S (d + 1) 85 [.int 1] h = some (.inl none, h) := by rw [x_X11_needText, g_X11_needText_0, if_neg (by decide)]
theorem c_rm0' {h : pH} : ex S (d + 1) 277 [.int 0] h = some (.inr (xnm 4), h) := by rw [x_X11_needRoom, g_X11_needRoom_0, if_pos rfl]
theorem c_rm1' {h : pH} : ex S (d + 1) 277 [.int 1] h = some (.inl none, h) := by rw [x_X11_needRoom, g_X11_needRoom_0, if_neg (by decide)]
/-- the class has used its tape; the reference has -/
def uC (A : fA) : fA := up (up A 1 3 (A 1 1)) 1 1 0
def uR (A : fA) : fA := up (up (up A 39 0 0) 39 7 (A 39 5)) 39 5 0
theorem uC_r {r : Nat} (h : r ≠ 1) : uC A r = A r := by unfold uC; rw [up_ne h, up_ne h]
theorem uR_r {r : Nat} (h : r ≠ 39) : uR A r = A r := by unfold uR; rw [up_ne h, up_ne h, up_ne h]
theorem uC_1 : uC A 1 1 = 0 := up_ii
theorem uC_3 : uC A 1 3 = A 1 1 := by unfold uC; rw [up_rr (by decide), up_ii]
theorem uC_j {j : Nat} (h : j ≠ 1) (h3 : j ≠ 3) : uC A 1 j = A 1 j := by unfold uC; rw [up_rr h, up_rr h3]
theorem uR_5 : uR A 39 5 = 0 := up_ii
theorem uR_7 : uR A 39 7 = A 39 5 := by unfold uR; rw [up_rr (by decide), up_ii]
theorem uR_0 : uR A 39 0 = 0 := by unfold uR; rw [up_rr (by decide), up_rr (by decide), up_ii]
theorem uR_j {j : Nat} (h0 : j ≠ 0) (h : j ≠ 5) (h7 : j ≠ 7) : uR A 39 j = A 39 j := by unfold uR; rw [up_rr h, up_rr h7, up_rr h0]
/-- what both have read ties them again, but for the reader's numbers -/
theorem M_rd2 {B C : fA} (hR : Rel c k E A T) (b1 : ∀ r, r ≠ 1 → r ≠ 3 → B r = A r) (c1 : ∀ r, r ≠ 39 → r ≠ 40 → C r = B r) (c2 : ∀ i, i < 34979 → C 40 i = A 40 i) (c3 : C 39 3 = A 39 3) : RelM c k E C T :=
  M_rd (Rel_M hR) (fun r r1 r3 r9 r4 => (c1 r r9 r4).trans (b1 r r1 r3)) c2 c3
theorem p_words (hR : Rel c k E A T) (x : Int32) : PK c S (d + 36) k E A T 279 281 [.int x] cdG := by
  have hI := Rel_w hR
  obtain ⟨n, hn, f1, f2⟩ := hR.2.2.1
  have tp := hR.2.2.2.1
  have fe := hR.2.2.2.2.1
  have hs4 := Rel_s hR
  obtain ⟨xp, x12, -⟩ := hI.2.2.2.2.2.2.2.2.2.2
  have u4 : uC A 4 7 = A 40 0 := by rw [uC_r (by decide)]; exact hs4
  -- the class uses its tape, the reference too
  have cu : ∀ L, ex S (d + 35) 55 [.ref 1] (Hh k E A L T) = some (.inl none, Hh k E (uC A) L T) := fun L => c_use
  have ru : ∀ (E' : List dsc) (B : fA) (T' : fT) (M : fL), ex S (d + 35) 112 [.ref 39] (Hh k E' B M T') = some (.inl none, Hh k E' (uR B) M T') := fun E' B T' M => r_use
  have rs : ∀ (E' : List dsc) (B : fA) (T' : fT) (M : fL), ex S (d + 35) 48 [.ref 39] (Hh k E' B M T') = some (.inl (some (.int (B 40 0))), Hh k E' B M T') := fun E' B T' M => r_season
  have TpC : Tp (uC A) (A 2) n := ⟨fun i hi => by rw [uC_r (by decide)], by rw [uC_3]; exact f1, hn⟩
  have RpR : ∀ B : fA, (∀ r, 39 ≤ r → r < 49 → B r = A r) → Rp (uR B) (A 2) n := fun B hB => ⟨fun i hi => by rw [uR_r (by decide), hB 42 (by decide) (by decide)]; exact (tp i hi).symm, by rw [uR_7, hB 39 (by decide) (by decide)]; exact f2, hn⟩
  by_cases q : wi x (A 40 0) 400
  · intro L
    obtain ⟨B, b', b1, b2, b3, b4⟩ := c_read (S := S) (d := d + 4) (k := k) (E := E) (L := L) (T := T) false TpC
    have b1' : ex S (d + 35) 84 [.ref 1, .int 0] (Hh k E (uC A) L T) = _ := b1
    have bA : ∀ r, r ≠ 1 → r ≠ 3 → B r = A r := fun r r1 r3 => (b2 r r1 r3).trans (uC_r r1)
    have B11 : B 1 1 = nI 0 := by rw [b3 1 (by omega), uC_1]; rfl
    have b5 : B 5 0 = nI (xn (A 40)) := by rw [bA 5 (by decide) (by decide), (Rel_x hR).1]; exact xp
    rcases b4 with ⟨acc, cs, p1, rfl, p3, p4, p5, p6, p7⟩ | ⟨e, p1, rfl, p3⟩
    · obtain ⟨o1, o2, o3⟩ := pTx_ok p1
      by_cases h12 : xn (A 40) < 12
      · obtain ⟨N1, a, b, F, s1, s2, s3, s4, s5, s6, s7, s8, s9, s10⟩ := c_newT (S := S) (d := d + 33) (k := k) (E := E) (L := L) (T := T) (A := B) p5 p6 o1 (by omega) (pTx_0 p1) p4 p7
        have hx4 := (Rel_x hR).2.2.2
        have hl := srt_len (W := A 40) (xn (A 40))
        have n5 : N1 5 0 = nI (xn (A 40)) := by rw [s10 5 (by omega)]; exact b5
        obtain ⟨p, A1, t0, t1, t2, t3, t4, t5, t6, t7, t8, t9⟩ := c_add (S := S) (d := d + 33) (k := k) (E := E ++ F) (L := L) (T := T) (A := N1) (s := x) h12 n5 hl (fun u hu => mem_srt.mp hu) (fun i u hiu => by
          have hi : i < xn (A 40) := by have := (List.getElem?_eq_some_iff.mp hiu).1; omega
          obtain ⟨t, y1, y2⟩ := hx4 i hi
          rw [hiu] at y1; cases y1
          rw [s10 8 (by omega), bA 8 (by decide) (by decide)]; exact y2) s6
        have a1a : A1 a 0 = nI acc.length := by rw [t9 a (by omega) (by omega) (by omega)]; exact s8
        have ga : ∀ κ : Int32 → rO, gI (Hh k (E ++ F) A1 L (upT T 6 (xn (A 40)) (some a))) (.ref a) 11 0 κ = κ (A1 a 0) := fun κ => gI_H s6 rfl
        refine ⟨k, E ++ F, A1, L, upT T 6 (xn (A 40)) (some a), Or.inl ⟨some (.int (nI acc.length)), rfl, ?_, fun M => ?_⟩⟩
        · simp -implicitDefEqProofs only [x_X11_words, g_X11_words_0, hv_0_0, hc_1, cu, q_U, hv_0_1, hg_4_7, u4, c_in1 q, b1', q_I, c_nt1, hv_4_0, hg_5_0, b5, if_neg (show ¬ (12 : Int32) ≤ nI (xn (A 40)) from nI_ge (b := 12) h12 (by decide)), c_rm1', s1, q_A, q_iR, hc_5, t1, ga, a1a]
        · have A1lo : ∀ r, 39 ≤ r → r < 49 → A1 r = A r := fun r r1 r2 => by rw [t9 r (by omega) (by omega) (by omega), s10 r (by omega)]; exact bA r (by omega) (by omega)
          obtain ⟨C, y, c1, c2, c3, c4, c5⟩ := r_read (S := S) (d := d + 3) (k := k) (E := E ++ F) (L := M) (T := upT T 6 (xn (A 40)) (some a)) false (RpR A1 A1lo)
          have c1' : ex S (d + 35) 139 [.ref 39, .int 0] (Hh k (E ++ F) (uR A1) M (upT T 6 (xn (A 40)) (some a))) = _ := c1
          rcases c5 with ⟨acc', cs', v1, rfl, v3, v4, v5, v6, v7⟩ | ⟨e, v1, -, -⟩
          · rw [p1] at v1; cases v1
            have w40 : ∀ i, i < 34979 → C 40 i = A 40 i := fun i hi => by rw [c4 i hi, uR_r (by decide), A1lo 40 (by decide) (by decide)]
            have wx : C 40 2650 = nI (xn (A 40)) := by rw [w40 _ (by decide)]; exact xp
            have ws : uR A1 40 0 = A 40 0 := by rw [uR_r (by decide), A1lo 40 (by decide) (by decide)]
            obtain ⟨G, g1, g2, g3⟩ := r_copies (S := S) (d := d + 33) (k := k) (E := E ++ F) (A := C) (L := M) (T := upT T 6 (xn (A 40)) (some a)) (t := xn (A 40)) (by omega)
            have htx : tx (xn (A 40)) + 898 ≤ 13427 := by unfold tx; omega
            have htx0 : 2651 ≤ tx (xn (A 40)) := by unfold tx; omega
            have ta : ∀ H : pH, ex S (d + 35) 116 [.int (nI (xn (A 40)))] H = some (.inl (some (.int (nI (tx (xn (A 40)))))), H) := fun H => r_tat
            have gx : up G 40 (tx (xn (A 40))) x 40 2650 = nI (xn (A 40)) := by rw [up_rr (by omega), g2]; unfold cpW; rw [if_neg (by omega)]; exact wx
            refine ⟨up (up G 40 (tx (xn (A 40))) x) 40 2650 (nI (xn (A 40) + 1)), M, ?_, rfl, ?_, ?_⟩
            · simp -implicitDefEqProofs only [x_X12_words, g_X12_words_0, g_X12_words_24, g_X12_words_49, g_X12_words_75, hc_39, ru, q_U, rs, q_I, ws, r_in1 q, i1_0, if_false, r_thr0, i0_0, if_true, c1', if_pos (nI_pos' (show acc.length < 2 ^ 31 by omega)), hv_39_1, aw_40_2650, wx, if_neg (show ¬ nI (xn (A 40)) = 12 from fun z => by have := (nI_eq (b := 12) (by omega) (by decide)).mp z; omega), g1, ta, sn_40 (show tx (xn (A 40)) < 35877 by omega), q_nr, gx, nI_p1, sw_40_2650]
            · rw [u4039, u4039, g3 39 (by decide), c3 0 (by decide) (by decide) (by decide) (by decide) (by decide)]; exact uR_0
            · obtain ⟨A2, hA2⟩ : ∃ B, B = up (up G 40 (tx (xn (A 40))) x) 40 2650 (nI (xn (A 40) + 1)) := ⟨_, rfl⟩
              rw [← hA2]
              have r2 : ∀ r, r ≠ 39 → r ≠ 40 → A2 r = A1 r := fun r r9 r4 => by rw [hA2, up_ne r4, up_ne r4, g3 r r4, c2 r r9 r4, uR_r r9]
              have q39 : ∀ j, A2 39 j = C 39 j := fun j => by rw [hA2, u4039, u4039, g3 39 (by decide)]
              have z40 : ∀ i, i ≠ 2650 → i ≠ tx (xn (A 40)) → A2 40 i = cpW (C 40) (xn (A 40)) i := fun i i1 i2 => by rw [hA2, up_rr i1, up_rr i2, g2]
              refine M_Rel (M_words (A := A) (A2 := A2) (T := T) (F := F) (n := xn (A 40)) (a := a) (b := b) (p := p) (s := x) (acc := acc) (cs := cs) (Rel_M hR) rfl h12 ⟨?_, ?_⟩ s2 s3 ?_ ?_ ?_ ?_ t0 ?_ ?_ ?_ ?_ ?_ ?_ ?_ ?_ ?_ s4 s5 s6 s7 ?_ ?_ o1 (by omega) o3) ⟨0, by decide, ?_, ?_⟩ ?_
              · have := q.1; rw [Int32.lt_iff_toInt_lt] at this; have := hI.1.1; omega
              · have := q.2; rw [Int32.lt_iff_toInt_lt] at this; have : (400 : Int32).toInt = 400 := rfl; omega
              · intro r r0 r1 r3 r5 r7 r8 r9 r4
                rw [r2 r r9 r4, t9 r r5 r7 r8, s10 r (by omega)]; exact bA r r1 r3
              · rw [q39, c3 3 (by decide) (by decide) (by decide) (by decide) (by decide), uR_j (by decide) (by decide) (by decide), A1lo 39 (by decide) (by decide)]
              · rw [r2 5 (by decide) (by decide)]; exact t2
              · rw [r2 7 (by decide) (by decide), t3, s10 7 (by omega), bA 7 (by decide) (by decide)]
              · intro i hi; rw [r2 8 (by decide) (by decide), t4 i hi, s10 8 (by omega), bA 8 (by decide) (by decide)]
              · rw [r2 8 (by decide) (by decide)]; exact t5
              · intro i i1 i2; rw [r2 8 (by decide) (by decide), t6 i i1 i2, s10 8 (by omega), bA 8 (by decide) (by decide)]
              · intro i u i1 i2; have := t7 i u i1 i2; rw [s10 7 (by omega), bA 7 (by decide) (by decide)] at this; exact this
              · intro u i1 i2; have := t8 u i1 i2; rw [s10 7 (by omega), bA 7 (by decide) (by decide)] at this; exact this
              · intro i i1 i2 i3
                rw [z40 i i2 (by omega)]; unfold cpW; rw [if_neg (by omega)]; exact w40 i i1
              · rw [hA2]; exact up_ii
              · rw [hA2, up_rr (by omega)]; exact up_ii
              · refine WL_c (W := C 40) (P := 34979) (fun j j1 j2 => ?_) o1 (by omega) ⟨v4, fun i hi => ?_, v7⟩
                · rw [z40 _ (by omega) (by omega)]; unfold cpW; rw [if_pos (by omega)]; congr 1; omega
                · obtain ⟨q', ⟨y0, y1, y2, y3, y4, y5⟩, y6⟩ := v6 i hi
                  exact ⟨q', y0, y1, y2, y3, y4, y5, y6⟩
              · rw [r2 a (by omega) (by omega)]; exact a1a
              · rw [r2 b (by omega) (by omega), t9 b (by omega) (by omega) (by omega)]; exact s9
              · rw [r2 1 (by decide) (by decide), t9 1 (by decide) (by decide) (by decide), s10 1 (by omega)]; exact B11
              · rw [q39, c3 5 (by decide) (by decide) (by decide) (by decide) (by decide), uR_5]; rfl
              · rw [r2 1 (by decide) (by decide), t9 1 (by decide) (by decide) (by decide), s10 1 (by omega), p3, q39, v3]
          · rw [p1] at v1; cases v1
      · have e12 : xn (A 40) = 12 := by omega
        refine ⟨k, E, B, L, T, Or.inr ⟨4, by decide, ?_, fun M => ?_⟩⟩
        · simp -implicitDefEqProofs only [x_X11_words, g_X11_words_0, hv_0_0, hc_1, cu, q_U, hv_0_1, hg_4_7, u4, c_in1 q, b1', q_I, c_nt1, hv_4_0, hg_5_0, b5, if_pos (show (12 : Int32) ≤ nI (xn (A 40)) by rw [e12]; decide), c_rm0', q_Ue]
        · have Blo : ∀ r, 39 ≤ r → r < 49 → B r = A r := fun r r1 r2 => bA r (by omega) (by omega)
          obtain ⟨C, y, c1, c2, c3, c4, c5⟩ := r_read (S := S) (d := d + 3) (k := k) (E := E) (L := M) (T := T) false (RpR B Blo)
          have c1' : ex S (d + 35) 139 [.ref 39, .int 0] (Hh k E (uR B) M T) = _ := c1
          rcases c5 with ⟨acc', cs', v1, rfl, v3, v4, v5, v6, v7⟩ | ⟨e, v1, -, -⟩
          · rw [p1] at v1; cases v1
            have w40 : ∀ i, i < 34979 → C 40 i = A 40 i := fun i hi => by rw [c4 i hi, uR_r (by decide), Blo 40 (by decide) (by decide)]
            have wx : C 40 2650 = 12 := by rw [w40 _ (by decide), xp, e12]; rfl
            have ws : uR B 40 0 = A 40 0 := by rw [uR_r (by decide), Blo 40 (by decide) (by decide)]
            refine ⟨up C 39 0 2, M, some (.int 0), rfl, ?_, rfl, up_ii, ?_⟩
            · simp -implicitDefEqProofs only [x_X12_words, g_X12_words_0, g_X12_words_24, g_X12_words_49, g_X12_words_75, hc_39, ru, q_U, rs, q_I, ws, r_in1 q, i1_0, if_false, r_thr0, r_thr1, i0_0, if_true, c1', if_pos (nI_pos' (show acc.length < 2 ^ 31 by omega)), hv_39_1, aw_40_2650, wx]
            · refine M_Rel (M_c (M_rd2 hR bA (fun r r9 r4 => ?_) (fun i hi => ?_) ?_)) ⟨0, by decide, ?_, ?_⟩ ?_
              · rw [up_ne r9, c2 r r9 r4, uR_r r9]
              · rw [up_ne (by decide)]; exact w40 i hi
              · rw [up_rr (by decide), c3 3 (by decide) (by decide) (by decide) (by decide) (by decide), uR_j (by decide) (by decide) (by decide), Blo 39 (by decide) (by decide)]
              · rw [up_ne (by decide), c2 1 (by decide) (by decide), uR_r (by decide)]; exact B11
              · rw [up_rr (by decide), c3 5 (by decide) (by decide) (by decide) (by decide) (by decide), uR_5]; rfl
              · rw [up_ne (by decide), c2 1 (by decide) (by decide), uR_r (by decide), p3, up_rr (by decide), v3]
          · rw [p1] at v1; cases v1
    · refine ⟨k, E, B, L, T, Or.inr ⟨1, by decide, ?_, fun M => ?_⟩⟩
      · simp -implicitDefEqProofs only [x_X11_words, g_X11_words_0, hv_0_0, hc_1, cu, q_U, hv_0_1, hg_4_7, u4, c_in1 q, b1', q_I, c_nt0, q_Ue]
      · have Blo : ∀ r, 39 ≤ r → r < 49 → B r = A r := fun r r1 r2 => bA r (by omega) (by omega)
        obtain ⟨C, y, c1, c2, c3, c4, c5⟩ := r_read (S := S) (d := d + 3) (k := k) (E := E) (L := M) (T := T) false (RpR B Blo)
        have c1' : ex S (d + 35) 139 [.ref 39, .int 0] (Hh k E (uR B) M T) = _ := c1
        have w40 : ∀ i, i < 34979 → C 40 i = A 40 i := fun i hi => by rw [c4 i hi, uR_r (by decide), Blo 40 (by decide) (by decide)]
        have ws : uR B 40 0 = A 40 0 := by rw [uR_r (by decide), Blo 40 (by decide) (by decide)]
        rcases c5 with ⟨acc', cs', v1, -, -⟩ | ⟨e', v1, rfl, v3⟩
        · rw [p1] at v1; cases v1
        · rw [p1] at v1; cases v1
          refine ⟨up C 39 0 1, M, some (.int 0), rfl, ?_, rfl, up_ii, ?_⟩
          · simp -implicitDefEqProofs only [x_X12_words, g_X12_words_0, g_X12_words_24, g_X12_words_49, hc_39, ru, q_U, rs, q_I, ws, r_in1 q, i1_0, if_false, r_thr0, r_thr1, i0_0, if_true, c1', if_neg (show ¬ (0 : Int32) ≤ -1 by decide)]
          · refine M_Rel (M_c (M_rd2 hR bA (fun r r9 r4 => ?_) (fun i hi => ?_) ?_)) ⟨0, by decide, ?_, ?_⟩ ?_
            · rw [up_ne r9, c2 r r9 r4, uR_r r9]
            · rw [up_ne (by decide)]; exact w40 i hi
            · rw [up_rr (by decide), c3 3 (by decide) (by decide) (by decide) (by decide) (by decide), uR_j (by decide) (by decide) (by decide), Blo 39 (by decide) (by decide)]
            · rw [up_ne (by decide), c2 1 (by decide) (by decide), uR_r (by decide)]; exact B11
            · rw [up_rr (by decide), c3 5 (by decide) (by decide) (by decide) (by decide) (by decide), uR_5]; rfl
            · rw [up_ne (by decide), c2 1 (by decide) (by decide), uR_r (by decide), p3, up_rr (by decide), v3]
  · have ws : uR (uC A) 40 0 = A 40 0 := by rw [uR_r (by decide), uC_r (by decide)]
    intro L
    refine ⟨k, E, uC A, L, T, Or.inr ⟨1, by decide, ?_, fun M => ⟨up (uR (uC A)) 39 0 1, M, some (.int 0), rfl, ?_, rfl, up_ii, ?_⟩⟩⟩
    · simp -implicitDefEqProofs only [x_X11_words, g_X11_words_0, hv_0_0, hc_1, cu, q_U, hv_0_1, hg_4_7, u4, c_in0 q, q_Ue]
    · simp -implicitDefEqProofs only [x_X12_words, g_X12_words_0, g_X12_words_24, hc_39, ru, q_U, rs, q_I, ws, r_in0 q, i0_0, if_true, r_thr1, i1_0, if_false]
    · refine M_Rel (M_c (M_rd2 (B := uC A) hR (fun r r1 _ => uC_r r1) (fun r r9 r4 => ?_) (fun i hi => ?_) ?_)) ⟨0, by decide, ?_, ?_⟩ ?_
      · rw [up_ne r9, uR_r r9]
      · rw [up_ne (by decide), uR_r (by decide), uC_r (by decide)]
      · rw [up_rr (by decide), uR_j (by decide) (by decide) (by decide), uC_r (by decide)]
      · rw [up_ne (by decide), uR_r (by decide), uC_1]; rfl
      · rw [up_rr (by decide), uR_5]; rfl
      · rw [up_ne (by decide), uR_r (by decide), uC_j (by decide) (by decide), up_rr (by decide), uR_j (by decide) (by decide) (by decide), uC_r (by decide)]; exact fe
end WordsD
