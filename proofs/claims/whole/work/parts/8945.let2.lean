/-! let: what both do once it is granted -/
section LetC
variable {S : sT} {d c : Nat} {k : Value} {E F : List dsc} {A A0 A1 A2 : fA} {L : fL} {T : fT} {W U D V : fW}
def lastV (W : fW) (y : Int32) : Int32 := if y ≤ 0 then -1 else (4 * ((W 0 / 4) + y)) - 1
def kdV (y : Int32) : Int32 := if y ≤ 0 then 1 else 0
theorem kdV_c (y : Int32) : kdV y = 0 ∨ kdV y = 1 := by unfold kdV; split; exact Or.inr rfl; exact Or.inl rfl
theorem la4 (z : Int32) : 4 * (z - 1) + 3 = 4 * z - 1 := by
  rw [Int32.mul_sub, Int32.sub_eq_add_neg, Int32.sub_eq_add_neg, Int32.add_assoc]; rfl
theorem beg_cg {a b kd : Int32} {i : Nat} (hh : hn V = hn U) (hi : V i = U i) : begW V a b kd i = begW U a b kd i := by
  simp -implicitDefEqProofs only [begW, ofN, upd, nwN, hh, hi]
theorem let_pt {eW : fW → fW} {a b kd x l : Int32} (hV : ∀ i, i < 34979 → V i = W i) (h24 : hn W < 24) (P1 : ∀ X : fW, X 6 = W 6 → ∀ i, i ≠ 6 → (i < 1997 ∨ 2237 ≤ i) → eW X i = X i) (P2 : ∀ X : fW, X 0 = W 0 → X 5 = W 5 → X 6 = W 6 → ∀ i, X i = W i → eW X i = eW W i) : ∀ i, i < 34979 → eW (cpW (upd (upd (begW V a b kd) (1684 + 11 * hn W + 1) x) (1684 + 11 * hn W + 4) l) (12 + hn W)) i = lsW (tiW (eW W) V (12 + hn W)) a b kd x l i := by
  have hnV : hn V = hn W := hn_c (hV 1683 (by decide))
  have hnE : hn (eW W) = hn W := hn_c (P1 W rfl 1683 (by decide) (by decide))
  have hnT : hn (tiW (eW W) V (12 + hn W)) = hn W := (ti_hn (by omega)).trans hnE
  have tx1 : 13427 ≤ tx (12 + hn W) := by unfold tx; omega
  have tx2 : tx (12 + hn W) + 898 ≤ 34979 := by unfold tx; omega
  have bo : ∀ X : fW, hn X = hn W → ∀ i, (i < 8 ∨ 680 ≤ i) → (i < 1683 ∨ 1948 ≤ i) → upd (upd (begW X a b kd) (1684 + 11 * hn W + 1) x) (1684 + 11 * hn W + 4) l i = X i := fun X hX i i1 i2 => by
    rw [upd_o (by omega), upd_o (by omega), beg_o i1 (by omega) (by rw [hX]; omega)]
  obtain ⟨X, hX⟩ : ∃ X, X = cpW (upd (upd (begW V a b kd) (1684 + 11 * hn W + 1) x) (1684 + 11 * hn W + 4) l) (12 + hn W) := ⟨_, rfl⟩
  have Xo : ∀ i, i < tx (12 + hn W) ∨ tx (12 + hn W) + 898 ≤ i → X i = upd (upd (begW V a b kd) (1684 + 11 * hn W + 1) x) (1684 + 11 * hn W + 4) l i := fun i hi => by rw [hX]; unfold cpW; rw [if_neg (by omega)]
  have Xw : ∀ i, i < 13427 → (i < 8 ∨ 680 ≤ i) → (i < 1683 ∨ 1948 ≤ i) → X i = W i := fun i i0 i1 i2 => by rw [Xo i (by omega), bo V hnV i i1 i2, hV i (by omega)]
  have X6 : X 6 = W 6 := Xw 6 (by omega) (by omega) (by omega)
  intro i hi
  rw [← hX]
  unfold lsW
  rw [hnT]
  by_cases q : tx (12 + hn W) ≤ i ∧ i < tx (12 + hn W) + 898
  · rw [P1 X X6 i (by omega) (by omega), bo _ hnT i (by omega) (by omega), hX]
    unfold cpW tiW
    rw [if_pos q, if_pos q, bo V hnV _ (by omega) (by omega)]
  · by_cases q2 : i = 6 ∨ (1997 ≤ i ∧ i < 2237)
    · rw [P2 X (Xw 0 (by omega) (by omega) (by omega)) (Xw 5 (by omega) (by omega) (by omega)) X6 i (Xw i (by omega) (by omega) (by omega)), bo _ hnT i (by omega) (by omega), ti_o (by omega)]
    · rw [P1 X X6 i (by omega) (by omega), Xo i (by omega)]
      have e : V i = tiW (eW W) V (12 + hn W) i := by rw [ti_o (by omega), P1 W rfl i (by omega) (by omega)]; exact hV i hi
      simp -implicitDefEqProofs only [upd]
      rw [beg_cg (hnV.trans hnT.symm) e]
theorem c_openL {f1 f2 : Nat} {y x : Int32} (hL : LkL (A 10) U) (l1 : A 11 0 = nI (hn U)) (h24 : hn U < 24) (h47 : A 4 7 = U 0) : ∃ A', ex S (d + 6) 106 [.ref 4, .int (nI f1), .int (nI f2), .int y, .int x] (Hh k E A L T) = some (.inl (some (.int (nI (hn U)))), Hh k E A' L T) ∧ LkL (A' 10) (ofN U (nI f1) (nI f2) (hn U) 48) ∧ A' 11 0 = nI (hn U + 1) ∧ A' 12 = upd (upd (upd (upd (upd (opN (A 12) (hn U) 13) (0 + hn U) (kdV y)) (120 + hn U) (-1)) (24 + hn U) (nI (cntF (fun f => decide (¬ inW (nI f) (nI f1) (nI f2) = 0)) 48))) (48 + hn U) x) (120 + hn U) (lastV U y) ∧ ∀ r, r ≠ 10 → r ≠ 11 → r ≠ 12 → A' r = A r := by
  obtain ⟨A1, run, b10, b11, b12, br⟩ := c_openOn (S := S) (d := d + 1) (k := k) (E := E) (L := L) (T := T) (a := nI f1) (b := nI f2) (kd := kdV y) hL l1 h24
  have m1 := nI_m1 (show hn U < 2 ^ 31 by omega)
  have z : up A1 12 (48 + hn U) x 4 7 = U 0 := by rw [up_ne (by decide), br 4 (by decide) (by decide) (by decide)]; exact h47
  refine ⟨up (up A1 12 (48 + hn U) x) 12 (120 + hn U) (lastV U y), ?_, ?_, ?_, ?_, ?_⟩
  · rw [x_X0_openLease, g_X0_openLease_0]
    unfold kdV at run
    by_cases q : y ≤ 0
    · rw [if_pos q] at run
      rw [if_pos q, g_X0_openLease_12]
      simp -implicitDefEqProofs only [hc_4, run, q_I, if_neg m1, hv_4_2, hc_11, ts_2 h24, q_U, if_pos q, ts_5 h24]
      unfold lastV; rw [if_pos q]
    · rw [if_neg q] at run
      rw [if_neg q, g_X0_openLease_12]
      simp -implicitDefEqProofs only [hc_4, run, q_I, if_neg m1, hv_4_2, hc_11, ts_2 h24, q_U, if_neg q, hg_4_7, z, dv_4, ts_5 h24]
      unfold lastV; rw [if_neg q]
  · rw [up_ne (by decide), up_ne (by decide)]; exact b10
  · rw [up_ne (by decide), up_ne (by decide), b11, upd_s]
  · rw [up_eq, up_eq, b12]
  · intro r r1 r2 r3; rw [up_ne r3, up_ne r3]; exact br r r1 r2 r3
theorem upR_u {a i : Nat} {f : Nat → Int32} {x : Int32} : up (upR A a f) a i x a = upd f i x := by rw [up_eq, upR_s]
/-- the reference begins it -/
theorem r_mkL {g : Nat} {a b y x x5 x6 x7 x8 : Int32} {o9 : Option Value} (hc : c < 1000000) (hI : Iv c (A 40)) (h24 : hn (A 40) < 24) (hx : rg x 0 100000) (hy : wi y 0 99) : ∃ G, bd S (ex S (d + 8)) dflT E_X12_let (g + 2) 163 [some (.ref 39), some (.int a), some (.int b), some (.int y), some (.int x), some (.int x5), some (.int x6), some (.int x7), some (.int x8), o9] [.int (kdV y), .int b, .int a, .ref 39] (Hh k E A L T) = some (.inl (some (.int (nI (hn (A 40))))), Hh k E G L T) ∧ G 40 = (if x8 = 0 then errW (cpW (upd (upd (begW (A 40) a b (kdV y)) (1684 + 11 * hn (A 40) + 1) x) (1684 + 11 * hn (A 40) + 4) (lastV (A 40) y)) (12 + hn (A 40))) 0 0 else cpW (upd (upd (begW (A 40) a b (kdV y)) (1684 + 11 * hn (A 40) + 1) x) (1684 + 11 * hn (A 40) + 4) (lastV (A 40) y)) (12 + hn (A 40))) ∧ Fg A G := by
  have rb := r_begins (S := S) (d := d + 5) (k := k) (E := E) (L := L) (T := T) (a := a) (b := b) (kd := kdV y) (A := A) hI.2.2.2.2.1.1 h24
  have kx : kp x.toInt64 = x := kp_w hx (by decide)
  obtain ⟨m, hm, em⟩ := hI.2.2.2.2.2.1.2.2.2.2.2
  -- behind the two sets
  have st : ∃ B, bd S (ex S (d + 8)) dflT E_X12_let (g + 2) 163 [some (.ref 39), some (.int a), some (.int b), some (.int y), some (.int x), some (.int x5), some (.int x6), some (.int x7), some (.int x8), o9] [.int (kdV y), .int b, .int a, .ref 39] (Hh k E A L T) = bd S (ex S (d + 8)) dflT E_X12_let (g + 1) 202 [some (.ref 39), some (.int a), some (.int b), some (.int y), some (.int x), some (.int x5), some (.int x6), some (.int x7), some (.int x8), some (.int (nI (hn (A 40))))] [] (Hh k E B L T) ∧ B 40 = upd (upd (begW (A 40) a b (kdV y)) (1684 + 11 * hn (A 40) + 1) x) (1684 + 11 * hn (A 40) + 4) (lastV (A 40) y) ∧ ∀ r, r ≠ 40 → B r = A r := by
    rw [show g + 2 = (g + 1) + 1 from rfl, g_X12_let_163]
    simp -implicitDefEqProofs only [hc_39, rb, q_I, rs_1 h24, kx, q_U]
    by_cases q : y ≤ 0
    · rw [if_pos q]
      refine ⟨_, rfl, ?_, fun r hr => by rw [up_ne hr, upR_o hr]⟩
      rw [upR_u]
      unfold lastV
      rw [if_pos q]
      have e4 : upd (begW (A 40) a b (kdV y)) (1684 + 11 * hn (A 40) + 1) x (1684 + 11 * hn (A 40) + 4) = -1 := by rw [upd_o (by omega)]; exact beg_h (w := 4) (by decide)
      rw [← e4, upd_id]
    · rw [if_neg q]
      have e0 : up (upR A 40 (begW (A 40) a b (kdV y))) 40 (1684 + 11 * hn (A 40) + 1) x 40 0 = A 40 0 := by rw [upR_u, upd_o (by omega), beg_o (by omega) (by omega) (by omega)]
      obtain ⟨y', hy', rfl⟩ := wi_n (M := 99) (by decide) hy
      obtain ⟨s, hs, es⟩ := ye_c hI
      have kl : kp (4 * (A 40 0 / 4 + nI y' - 1) + 3).toInt64 = lastV (A 40) (nI y') := by
        unfold lastV
        rw [if_neg q, la4]
        apply kp_id
        have e1 : (4 : Int32) * (A 40 0 / 4 + nI y') = nI (4 * (s + y')) := by rw [es, nI_add, show (4 : Int32) = nI 4 from rfl, nI_mul]
        rw [e1]
        have e2 : (nI (4 * (s + y')) - 1 : Int32).toInt = ((4 * (s + y') : Nat) : Int) - 1 := by rw [s32 (by rw [nI_toInt (by omega)]; show -2147483648 ≤ _ - (1 : Int); omega) (by rw [nI_toInt (by omega)]; show _ - (1 : Int) ≤ _; omega), nI_toInt (by omega)]; rfl
        unfold rg
        rw [e2]
        omega
      simp -implicitDefEqProofs only [r_year, q_I, e0, rs_4 h24, kl, q_U, hc_39]
      refine ⟨_, rfl, ?_, fun r hr => by rw [up_ne hr, up_ne hr, upR_o hr]⟩
      rw [up_eq, upR_u]
  obtain ⟨B, s1, s2, s3⟩ := st
  obtain ⟨C, c1, c2, c3⟩ := r_copies (S := S) (d := d + 6) (k := k) (E := E) (A := B) (L := L) (T := T) (t := 12 + hn (A 40)) (by omega)
  have c1' : ex S (d + 8) 153 [.ref 39, .int (12 + nI (hn (A 40)))] (Hh k E B L T) = some (.inl none, Hh k E C L T) := by
    rw [show (12 : Int32) + nI (hn (A 40)) = nI (12 + hn (A 40)) by rw [show (12 : Int32) = nI 12 from rfl, nI_add]]; exact c1
  have FC : Fg A C := by
    have z : ∀ r, r ≠ 40 → C r = A r := fun r hr => (c3 r hr).trans (s3 r hr)
    exact ⟨fun r hr => z r (by omega), by rw [z 39 (by decide)], by rw [z 39 (by decide)], by rw [z 39 (by decide)], by rw [z 39 (by decide)]⟩
  rw [s2] at c2
  rw [s1, g_X12_let_202]
  simp -implicitDefEqProofs only [hc_39, c1', q_U]
  by_cases q : x8 = 0
  · rw [if_pos q, if_pos q]
    have C6 : C 40 6 = A 40 6 := by
      rw [c2]; unfold cpW
      rw [if_neg (by unfold tx; omega), upd_o (by omega), upd_o (by omega), beg_o (by omega) (by omega) (by omega)]
    obtain ⟨G, g1, g2, g3⟩ := r_errs (S := S) (d := d + 6) (k := k) (E := E) (L := L) (T := T) (A := C) (kd := 0) (x := 0) (m := m) (by rw [C6]; exact em) (by omega)
    simp -implicitDefEqProofs only [hc_39, g1, q_U]
    exact ⟨G, rfl, by rw [g2, c2], Fg_tr FC g3⟩
  · rw [if_neg q, if_neg q]
    exact ⟨C, rfl, c2, FC⟩
end LetC
