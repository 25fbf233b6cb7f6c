/-! let: the call -/
section LetD
variable {S : sT} {d c : Nat} {k : Value} {E F : List dsc} {A A0 A1 A2 B : fA} {L : fL} {T : fT} {W U D V : fW}
theorem let_fin {eW : fW → fW} {n f1 f2 : Nat} {y x m8 : Int32} {acc : List LN} {cs : Cs} (hc : c < 1000000) (hR : Rel c k E A T) (bA : ∀ r, r ≠ 1 → r ≠ 3 → B r = A r) (B11 : B 1 1 = nI 0) (p3 : B 1 2 = -1) (p4 : CLs B acc) (p5 : B 1 9 = nI acc.length) (p6 : B 1 10 = nI cs.length) (p7 : ∀ i, i < cs.length → B 3 (96 + i) = tr (cs.getD i (0, 0)).1 (cs.getD i (0, 0)).2) (p1 : pTx (A 2) n true = .inl (acc, cs)) (hn4 : n ≤ 400)
    (hF0 : Fr B A0) (hL0 : LkA 4 k E A0 T (eW (A 40))) (hU : Iv (c + 1) (eW (A 40))) (P1 : ∀ X : fW, X 6 = A 40 6 → ∀ i, i ≠ 6 → (i < 1997 ∨ 2237 ≤ i) → eW X i = X i) (P2 : ∀ X : fW, X 0 = A 40 0 → X 5 = A 40 5 → X 6 = A 40 6 → ∀ i, X i = A 40 i → eW X i = eW (A 40) i) (h24 : hn (A 40) < 24) (hfr : frN (A 40) (nI f1) (nI f2) 48 = true) (hf1 : f1 < 48) (hy : wi y 0 99) (hx : wi x 0 100000) (h8 : (m8 = 0 ∧ ∀ X, eW X = errW X 0 0) ∨ (¬ m8 = 0 ∧ ∀ X, eW X = X)) (L : fL) :
    ∃ N1 a F, (∀ (g : Nat) (x5 x6 : Int32), bd S (ex S (d + 35)) dflT E_X11_let (g + 1) 97 [some (.ref 0), some (.int (nI f1)), some (.int (nI f2)), some (.int y), some (.int x), some (.int x5), some (.int x6), none] [] (Hh k E A0 L T) = some (.inl (some (.int (nI (hn (A 40))))), Hh k (E ++ F) N1 L (upT T 13 (hn (A 40)) (some a)))) ∧ (∀ r, 39 ≤ r → r < 49 → N1 r = A r) ∧
    ∀ (C : fA) (M : fL) (g : Nat) (x5 x6 x7 : Int32) (o9 : Option Value), (∀ r, r ≠ 39 → r ≠ 40 → r ≠ 46 → C r = N1 r) → C 39 3 = A 39 3 → C 39 5 = 0 → C 39 10 = -1 → (∀ i, i < 34979 → C 40 i = A 40 i) → WL (C 40) 34979 acc cs → ∃ G, bd S (ex S (d + 35)) dflT E_X12_let (g + 2) 163 [some (.ref 39), some (.int (nI f1)), some (.int (nI f2)), some (.int y), some (.int x), some (.int x5), some (.int x6), some (.int x7), some (.int m8), o9] [.int (kdV y), .int (nI f2), .int (nI f1), .ref 39] (Hh k (E ++ F) C M (upT T 13 (hn (A 40)) (some a))) = some (.inl (some (.int (nI (hn (A 40))))), Hh k (E ++ F) G M (upT T 13 (hn (A 40)) (some a))) ∧ G 39 0 = C 39 0 ∧ Rel (c + 1) k (E ++ F) G (upT T 13 (hn (A 40)) (some a)) := by
  have hI := Rel_w hR
  have hK := hR.2.2.2.2.2.2.1
  obtain ⟨o1, o2, o3⟩ := pTx_ok p1
  have hnU : hn (eW (A 40)) = hn (A 40) := hn_c (P1 _ rfl 1683 (by decide) (by decide))
  have eU0 : eW (A 40) 0 = A 40 0 := P1 _ rfl 0 (by decide) (by decide)
  have hfrU : frN (eW (A 40)) (nI f1) (nI f2) 48 = true := frN_c (fun f hf => ⟨P1 _ rfl _ (by omega) (by omega), P1 _ rfl _ (by omega) (by omega)⟩) hfr
  have l1 : A0 11 0 = nI (hn (eW (A 40))) := hL0.2.2.2.2.2.2.1.1.trans hU.2.2.2.2.1.1
  obtain ⟨A1, u1, u2, u3, u4, u5⟩ := c_openL (S := S) (d := d + 29) (k := k) (E := E) (L := L) (T := T) (f1 := f1) (f2 := f2) (y := y) (x := x) hL0.2.1 l1 (by rw [hnU]; exact h24) hL0.1
  have r1 : A1 1 = B 1 := (u5 1 (by decide) (by decide) (by decide)).trans (hF0.1 1 (by decide))
  have r3 : A1 3 = B 3 := (u5 3 (by decide) (by decide) (by decide)).trans (hF0.1 3 (by decide))
  obtain ⟨N1, a, b, F, s1, s2, s3, s4, s5, s6, s7, s8, s9, s10⟩ := c_newT (S := S) (d := d + 33) (k := k) (E := E) (L := L) (T := T) (A := A1) (acc := acc) (cs := cs) (by rw [r1]; exact p5) (by rw [r1]; exact p6) o1 (by omega) (pTx_0 p1) (CLs_f (fun i _ => by rw [r3]) p4) (fun i hi => by rw [r3]; exact p7 i hi)
  rw [hnU] at u1 u2 u3 u4
  have Nr : ∀ r, r < 49 + E.length → r ≠ 10 → r ≠ 11 → r ≠ 12 → N1 r = A0 r := fun r h0 a1 a2 a3 => (s10 r h0).trans (u5 r a1 a2 a3)
  have Nlo : ∀ r, 37 ≤ r → r < 49 + E.length → N1 r = A r := fun r h0 h1 => by rw [Nr r h1 (by omega) (by omega) (by omega), hF0.1 r (by omega)]; exact bA r (by omega) (by omega)
  have d13 : (D0 k ++ (E ++ F))[13]? = some (.inl (4, 24)) := rfl
  have sl : ex S (d + 35) 109 [.ref 11, .int (nI (hn (A 40))), .ref a] (Hh k (E ++ F) N1 L T) = some (.inl none, Hh k (E ++ F) N1 L (upT T 13 (hn (A 40)) (some a))) := by
    rw [x_X1_setLease, g_X1_setLease_0, if_neg (nI_pos (show hn (A 40) < 2 ^ 31 by omega)), if_neg (show ¬ (24 : Int32) ≤ nI (hn (A 40)) from nI_ge (b := 24) h24 (by decide)), hv_11_2, q_iR]
    unfold Hh
    rw [sTx_H d13 s6 (nI_pos (by omega)) (by rw [nI_clamp (by omega)]; exact h24), nI_clamp (by omega)]
  refine ⟨N1, a, F, fun g x5 x6 => ?_, fun r h0 h1 => Nlo r (by omega) (by omega), fun C M g x5 x6 x7 o9 c1 c3 c5 c10 c40 cw => ?_⟩
  · rw [g_X11_let_97]
    simp -implicitDefEqProofs only [hv_0_1, hc_4, u1, q_I, hv_4_2, hv_0_0, hc_1, s1, q_A, hc_11, sl, q_U]
  · have hC : Iv c (C 40) := Iv_lo c40 hI
    have hnC : hn (C 40) = hn (A 40) := hn_c (c40 1683 (by decide))
    have lC : lastV (C 40) y = lastV (A 40) y := by unfold lastV; rw [c40 0 (by decide)]
    have lU : lastV (eW (A 40)) y = lastV (A 40) y := by unfold lastV; rw [eU0]
    obtain ⟨G, g1, g2, g3⟩ := r_mkL (S := S) (d := d + 27) (k := k) (E := E ++ F) (L := M) (T := upT T 13 (hn (A 40)) (some a)) (g := g) (a := nI f1) (b := nI f2) (y := y) (x := x) (x5 := x5) (x6 := x6) (x7 := x7) (x8 := m8) (o9 := o9) (A := C) hc hC (by rw [hnC]; exact h24) (rg_wi hx) hy
    rw [hnC] at g1 g2
    rw [lC] at g2
    have gE : G 40 = eW (cpW (upd (upd (begW (C 40) (nI f1) (nI f2) (kdV y)) (1684 + 11 * hn (A 40) + 1) x) (1684 + 11 * hn (A 40) + 4) (lastV (A 40) y)) (12 + hn (A 40))) := by
      rcases h8 with ⟨e1, e2⟩ | ⟨e1, e2⟩
      · rw [g2, if_pos e1, e2]
      · rw [g2, if_neg e1, e2]
    have pt := let_pt (eW := eW) (a := nI f1) (b := nI f2) (kd := kdV y) (x := x) (l := lastV (A 40) y) c40 h24 P1 P2
    rw [← gE] at pt
    have x2 : rg x 0 2000000000 := ⟨(rg_wi hx).1, Int.le_trans (rg_wi hx).2 (by decide)⟩
    have hLs := jLs (D := C 40) (b := nI f2) (f1 := f1) (kd := kdV y) (x := x) (l := lastV (A 40) y) hU (by rw [hnU]; exact h24) hfrU hf1 (kdV_c y) x2 o1 (show cs.length ≤ 400 by omega) o3 cw
    have hkl := k_let (E := E) (F := F) (A0 := A0) (A1 := N1) (T := T) (D := C 40) (f1 := f1) (f2 := f2) (a := a) (b := b) (kd := kdV y) (x := x) (l := lastV (A 40) y) hU hL0 (by rw [hnU]; exact h24) hfrU hf1 (kdV_c y) (by rw [hnU, s10 10 (by omega)]; exact u2) (by rw [hnU, s10 11 (by omega)]; exact u3) (by rw [hnU, s10 12 (by omega), u4, lU]) Nr (out_new hK s4) (out_new hK s5) s6 s7 s8 s9 o1 (show cs.length ≤ 400 by omega) o3 cw
    rw [hnU] at hLs hkl
    have Gr : ∀ r, (r < 39 ∨ r = 41 ∨ r = 42 ∨ 48 ≤ r) → G r = N1 r := fun r hr => (g3.1 r hr).trans (c1 r (by omega) (by omega) (by omega))
    have G36 : G 36 = A0 36 := by rw [Gr 36 (by omega)]; exact Nr 36 (by omega) (by decide) (by decide) (by decide)
    have N1' : N1 1 = B 1 := (s10 1 (by omega)).trans r1
    refine ⟨G, g1, g3.2.1, M_Rel ⟨Iv_lo pt hLs, LkA_A (LkA_lo pt hLs hkl) (fun i hi => Gr _ (by omega)) (fun r hr => Gr r (by have := hr.1; omega)), ?_, ?_, ?_, ?_, ?_⟩ ⟨0, by decide, ?_, ?_⟩ ?_⟩
    · rw [Gr 2 (by omega), Gr 42 (by omega), Nr 2 (by omega) (by decide) (by decide) (by decide), hF0.1 2 (by omega), bA 2 (by decide) (by decide), Nlo 42 (by omega) (by omega)]; exact hR.2.2.2.1
    · rw [G36, hF0.2.1, hF0.2.2, bA 36 (by decide) (by decide)]; exact hR.2.2.2.2.2.1
    · exact KP_g (KP_c (Nat.le_succ c) hK) (g3.2.2.1.trans c3) (by rw [Gr 41 (by omega)]; exact Nlo 41 (by omega) (by omega)) (fun r h0 h1 => by rw [Gr r (by omega)]; exact Nlo r (by omega) h1) (fun r h0 => upT_ne (by omega))
    · rw [List.length_append]; have := hR.2.2.2.2.2.2.2.1; omega
    · rw [esz_app]; have := hR.2.2.2.2.2.2.2.2; omega
    · rw [Gr 1 (by omega), N1']; exact B11
    · rw [g3.2.2.2.1, c5]; rfl
    · rw [Gr 1 (by omega), N1', p3, g3.2.2.2.2, c10]
/-- whether it is rightful: the reference -/
theorem r_may2 {g : Nat} {x1 x2 y x4 x5 x6 : Int32} {o7 o8 o9 : Option Value} (hI : Iv c (A 40)) (hy : ¬ y < 0) : ∃ B z, bd S (ex S (d + 8)) dflT E_X12_let (g + 1) 86 [some (.ref 39), some (.int x1), some (.int x2), some (.int y), some (.int x4), some (.int x5), some (.int x6), o7, o8, o9] [.int 0, .ref 39] (Hh k E A L T) = bd S (ex S (d + 8)) dflT E_X12_let g 128 [some (.ref 39), some (.int x1), some (.int x2), some (.int y), some (.int x4), some (.int x5), some (.int x6), some (.int z), o8, o9] [.int (if mostW (A 40) 10 < y then 0 else 1)] (Hh k E B L T) ∧ Fo A B := by
  obtain ⟨xp, x12⟩ := hp_of hI
  have hX := Xw_of hI
  obtain ⟨B, b1, b2⟩ := r_lastLine (S := S) (d := d + 3) (k := k) (E := E) (L := L) (T := T) (A := A) (s := 10) (th := 0) xp hX
  have e40 : B 40 = A 40 := b2.1 40 (by decide) (by decide)
  have rn := r_num (S := S) (d := d + 5) (k := k) (E := E) (L := L) (T := T) (A := B) (s := 10) (th := 0) (by rw [e40]; exact hX)
  rw [e40] at rn
  have nr := (num_rg (s := 10) (th := 0) hI (by unfold rg; decide)).1
  refine ⟨B, llW (A 40) 10 0, ?_, b2⟩
  rw [g_X12_let_86]
  simp -implicitDefEqProofs only [hc_39, r_thr0, q_I, b1, i0_0, if_true]
  unfold mostW
  by_cases q0 : y = 0
  · rw [if_pos q0, if_neg]
    rw [q0, Int32.lt_iff_toInt_lt]
    have := nr.1
    simp
    omega
  · rw [if_neg q0]
    by_cases ql : llW (A 40) 10 0 < 0
    · rw [if_pos ql, if_pos]
      have e0 : numW (A 40) (llW (A 40) 10 0) = 0 := by unfold numW; rw [if_neg (Int32.not_le.mpr ql)]
      rw [e0]
      rcases Int32.lt_or_le 0 y with h | h
      · exact h
      · exact absurd (i32_ext (by rw [Int32.lt_iff_toInt_lt] at hy; rw [Int32.le_iff_toInt_le] at h; omega)) q0
    · rw [if_neg ql]
      simp -implicitDefEqProofs only [hc_39, rn, q_I]
      by_cases qn : numW (A 40) (llW (A 40) 10 0) < y
      · rw [if_pos qn, if_pos qn]
      · rw [if_neg qn, if_neg qn]
end LetD
