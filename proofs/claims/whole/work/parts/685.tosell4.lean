/-! toSell -/
section ToSellD
variable {S : sT} {d c : Nat} {k : Value} {E : List dsc} {A : fA} {L : fL} {T : fT} {W : fW}
def elW (W : fW) (a : Nat) : Nat → Int32
  | 0 => 0
  | i + 1 => elW W a i ||| (if W (8 + 14 * (a + i) + 11) = 0 ∧ ¬ fF W 13 (a + i) = -1 then (1 : Int32) <<< (nI i &&& 31) else 0)
abbrev tk (b p w y4 y2 : Int32) : Prop := b = -1 ∨ y4 < p ∨ (y4 = p ∧ y2 < w)
def tsN (W : fW) (a m : Nat) (el x : Int32) : Nat → Int32 × Int32 × Int32
  | 0 => (-1, 0, 0)
  | z + 1 => if (nI z &&& (el ^^^ (-1))) = 0 ∧ ¬ wtS W a m z < x ∧ tk (tsN W a m el x z).1 (tsN W a m el x z).2.1 (tsN W a m el x z).2.2 (ptS W a m z) (wtS W a m z) then (nI z, ptS W a m z, wtS W a m z) else tsN W a m el x z
theorem ts_b {a m : Nat} {el x : Int32} {z : Nat} (hz : z < 2 ^ 31) : (tsN W a m el x z).1 < 0 ↔ (tsN W a m el x z).1 = -1 := by
  induction z with
  | zero => unfold tsN; decide
  | succ z ih =>
    unfold tsN
    split
    · constructor
      · intro q; exact absurd q (nI_pos (by omega))
      · intro q; exact absurd q (nI_m1 (by omega))
    · exact ih (by omega)
theorem c_elig {a m : Nat} {x : Int32} (hI : Iv c W) (h0 : LkA 4 k E A T W) (h36 : A 36 0 = 0 ∧ A 36 5 = 0) (hm : m ≤ 8) (ha : a + m ≤ 48) (n n0 : Nat) (hn : n + 1 + 2 * m ≤ n0) : ∃ A' L' n', n ≤ n' ∧ bd S (ex S (d + 6)) dflT E_X0_bestSale n0 6 [some (.ref 4), some (.int (nI a)), some (.int (nI m)), some (.int x), some (.int 0), some (.int 0), none, none, none, none, none] [] (Hh k E A L T) = bd S (ex S (d + 6)) dflT E_X0_bestSale n' 83 [some (.ref 4), some (.int (nI a)), some (.int (nI m)), some (.int x), some (.int (elW W a m)), some (.int (-1)), some (.int 0), some (.int 0), some (.int 0), none, none] [] (Hh k E A' L' T) ∧ Fr A A' ∧ LkA 4 k E A' T W := by
  obtain ⟨⟨A1, L1, o1⟩, n', hn', h1, h2, h3⟩ := loop_RK (K := 2) (α := fA × fL × Option Value) (F := fun g i s => bd S (ex S (d + 6)) dflT E_X0_bestSale g 6 [some (.ref 4), some (.int (nI a)), some (.int (nI m)), some (.int x), some (.int (elW W a i)), some (.int (nI i)), s.2.2, none, none, none, none] [] (Hh k E s.1 s.2.1 T)) (N := m) (P := fun _ s => Fr A s.1 ∧ LkA 4 k E s.1 T W) (s := (A, L, none)) (by
    rintro g i ⟨B, M, o⟩ hi ⟨p1, p2⟩
    simp only at p1 p2
    have g1 : ¬ nI m ≤ nI i := nI_ge hi (by omega)
    have hai : a + i < 48 := by omega
    have es : elW W a (i + 1) = elW W a i ||| (if W (8 + 14 * (a + i) + 11) = 0 ∧ ¬ fF W 13 (a + i) = -1 then (1 : Int32) <<< (nI i &&& 31) else 0) := rfl
    have hF := hI.2.1 (a + i) hai
    rw [show g + 2 = (g + 1) + 1 from rfl, g_X0_bestSale_6]
    simp -implicitDefEqProofs only [if_neg g1, nI_add, hv_4_1, hc_9, c_sold (S := S) (d := d + 3) p2.2.1 hF hai, q_I]
    by_cases s0 : W (8 + 14 * (a + i) + 11) = 0
    · obtain ⟨M', e⟩ := c_lets (S := S) (d := d + 1) (L := M) (s := 13) (f := a + i) hI p2 (by rw [p1.2.1, p1.2.2]; exact h36) (by unfold rg; decide) hai
      rw [show vb 13 = 20 by decide] at e
      simp -implicitDefEqProofs only [if_pos s0, hc_4, e, q_I]
      by_cases q : fF W 13 (a + i) = -1
      · refine ⟨(upR B 36 (prR W (B 36) (pn W)), M', some (.int 0)), g, Nat.le_refl _, ?_, Fr_tr p1 Fr_36, Lk_36 p2⟩
        rw [if_pos q, g_X0_bestSale_45, if_pos rfl, es, if_neg (fun r => r.2 q), nI_p1]
      · refine ⟨(upR B 36 (prR W (B 36) (pn W)), M', some (.int 1)), g, Nat.le_refl _, ?_, Fr_tr p1 Fr_36, Lk_36 p2⟩
        rw [if_neg q, g_X0_bestSale_45, if_neg (by decide), es, if_pos ⟨s0, q⟩, nI_p1]
    · refine ⟨(B, M, some (.int 0)), g, Nat.le_refl _, ?_, p1, p2⟩
      rw [if_neg s0, g_X0_bestSale_45, if_pos rfl, es, if_neg (fun r => s0 r.1), nI_p1]) ⟨Fr_refl, h0⟩ (n + 1) n0 (by omega)
  obtain ⟨n2, rfl⟩ : ∃ n2, n' = n2 + 1 := ⟨n' - 1, by omega⟩
  refine ⟨A1, L1, n2, by omega, ?_, h2, h3⟩
  have h1' : bd S (ex S (d + 6)) dflT E_X0_bestSale n0 6 [some (.ref 4), some (.int (nI a)), some (.int (nI m)), some (.int x), some (.int 0), some (.int 0), none, none, none, none, none] [] (Hh k E A L T) = _ := h1
  rw [h1', g_X0_bestSale_6, if_pos (Int32.le_refl (nI m))]
theorem c_bst {a m : Nat} {x el : Int32} (hI : Iv c W) (h0 : LkA 4 k E A T W) (hm : m ≤ 8) (hm1 : 1 ≤ m) (ha : a + m ≤ 48) {o9 o10 : Option Value} (n0 : Nat) (hn : 300 ≤ n0) : bd S (ex S (d + 6)) dflT E_X0_bestSale n0 83 [some (.ref 4), some (.int (nI a)), some (.int (nI m)), some (.int x), some (.int el), some (.int (-1)), some (.int 0), some (.int 0), some (.int 0), o9, o10] [] (Hh k E A L T) = some (.inl (some (.int (tsN W a m el x (2 ^ m)).1)), Hh k E A L T) := by
  have hz : 2 ^ m ≤ 256 := Nat.pow_le_pow_right (n := 2) (by decide) hm
  have sh := shl_eq ⟨m, by omega⟩
  simp only at sh
  refine loop_Q (α := Option Value × Option Value) (F := fun g z o => bd S (ex S (d + 6)) dflT E_X0_bestSale g 83 [some (.ref 4), some (.int (nI a)), some (.int (nI m)), some (.int x), some (.int el), some (.int (tsN W a m el x z).1), some (.int (tsN W a m el x z).2.1), some (.int (tsN W a m el x z).2.2), some (.int (nI z)), o.1, o.2] [] (Hh k E A L T)) (N := 2 ^ m) (P := fun _ _ => True) (Q := fun r => r = _) ?_ ?_ (s := (o9, o10)) trivial (by omega)
  · rintro g z ⟨o1, o2⟩ hzz -
    have g1 : ¬ nI (2 ^ m) ≤ nI z := nI_ge hzz (by omega)
    have es : tsN W a m el x (z + 1) = if (nI z &&& (el ^^^ (-1))) = 0 ∧ ¬ wtS W a m z < x ∧ tk (tsN W a m el x z).1 (tsN W a m el x z).2.1 (tsN W a m el x z).2.2 (ptS W a m z) (wtS W a m z) then (nI z, ptS W a m z, wtS W a m z) else tsN W a m el x z := rfl
    right
    rw [g_X0_bestSale_83, sh]
    simp -implicitDefEqProofs only [if_neg g1, hc_4, c_wTog (S := S) (d := d + 1) hm hzz ha hm1 h0.2.1, q_I, c_pairs (S := S) (d := d + 1) hm hzz ha hm1 h0.2.1 hI.2.1, nI_p1, es]
    generalize tsN W a m el x z = t
    obtain ⟨b, p, w⟩ := t
    generalize ptS W a m z = y4
    generalize wtS W a m z = y2
    simp only
    by_cases q1 : (nI z &&& (el ^^^ (-1))) = 0
    · rw [if_pos q1]
      by_cases q2 : y2 < x
      · rw [if_pos q2, if_neg (fun r => r.2.1 q2)]
        exact ⟨(some (.int y2), o2), rfl, trivial⟩
      · rw [if_neg q2]
        refine ⟨(some (.int y2), some (.int y4)), ?_, trivial⟩
        by_cases t1 : b = -1
        · rw [if_pos t1, if_pos ⟨q1, q2, Or.inl t1⟩]
        · rw [if_neg t1]
          by_cases t2 : y4 < p
          · rw [if_pos t2, if_pos ⟨q1, q2, Or.inr (Or.inl t2)⟩]
          · rw [if_neg t2]
            by_cases t3 : y4 = p
            · rw [if_pos t3]
              by_cases t4 : w ≤ y2
              · rw [if_pos t4, if_neg]
                rintro ⟨-, -, r | r | r⟩
                · exact t1 r
                · exact t2 r
                · exact absurd r.2 (Int32.not_lt.mpr t4)
              · rw [if_neg t4, if_pos ⟨q1, q2, Or.inr (Or.inr ⟨t3, Int32.not_le.mp t4⟩)⟩]
            · rw [if_neg t3, if_neg]
              rintro ⟨-, -, r | r | r⟩
              · exact t1 r
              · exact t2 r
              · exact t3 r.1
    · rw [if_neg q1, if_neg (fun r => q1 r.1)]
      exact ⟨(some (.int y2), o2), rfl, trivial⟩
  · rintro g ⟨o1, o2⟩ -
    rw [g_X0_bestSale_83, sh, if_pos (Int32.le_refl _)]
theorem r_elig {a m : Nat} {x : Int32} (hI : Iv c (A 40)) (hm : m ≤ 8) (ha : a + m ≤ 48) (n n0 : Nat) (hn : n + 1 + m ≤ n0) : ∃ A' L' n', n ≤ n' ∧ bd S (ex S (d + 6)) dflT E_X12_toSell n0 67 [some (.ref 39), some (.int (nI a)), some (.int (nI m)), some (.int x), some (.int 0), some (.int 0), none, none, none, none, none] [] (Hh k E A L T) = bd S (ex S (d + 6)) dflT E_X12_toSell n' 130 [some (.ref 39), some (.int (nI a)), some (.int (nI m)), some (.int x), some (.int (elW (A 40) a m)), some (.int (-1)), some (.int 0), some (.int 0), some (.int 0), none, none] [] (Hh k E A' L' T) ∧ Fg A A' ∧ A' 40 = A 40 ∧ L' 48 = L 48 := by
  obtain ⟨⟨A1, L1⟩, n', hn', h1, h2, h3, h4⟩ := loop_RK (K := 1) (α := fA × fL) (F := fun g i s => bd S (ex S (d + 6)) dflT E_X12_toSell g 67 [some (.ref 39), some (.int (nI a)), some (.int (nI m)), some (.int x), some (.int (elW (A 40) a i)), some (.int (nI i)), none, none, none, none, none] [] (Hh k E s.1 s.2 T)) (N := m) (P := fun _ s => Fg A s.1 ∧ s.1 40 = A 40 ∧ s.2 48 = L 48) (s := (A, L)) (by
    rintro g i ⟨B, M⟩ hi ⟨p1, p2, p3⟩
    simp only at p1 p2 p3
    have g1 : ¬ nI m ≤ nI i := nI_ge hi (by omega)
    have hai : a + i < 48 := by omega
    have es : elW (A 40) a (i + 1) = elW (A 40) a i ||| (if A 40 (8 + 14 * (a + i) + 11) = 0 ∧ ¬ fF (A 40) 13 (a + i) = -1 then (1 : Int32) <<< (nI i &&& 31) else 0) := rfl
    have hfl := fl_ne (s := 13) (Fc := fcF (A 40) (a + i) (fc0 (A 40) (A 40 1) 0)) (Xw_of hI)
    rw [show flW (A 40) 13 (fcF (A 40) (a + i) (fc0 (A 40) (A 40 1) 0)) = fF (A 40) 13 (a + i) from rfl] at hfl
    have o11 : ex S (d + 6) 31 [.ref 39, .int (nI (a + i)), .int 11] (Hh k E B M T) = some (.inl (some (.int (A 40 (8 + 14 * (a + i) + 11)))), Hh k E B M T) := by rw [← p2]; exact ro_11 hai
    rw [g_X12_toSell_67]
    simp -implicitDefEqProofs only [if_neg g1, nI_add, hc_39, o11, q_I]
    by_cases s0 : A 40 (8 + 14 * (a + i) + 11) = 0
    · obtain ⟨B1, M1, e1, e2, e3⟩ := r_firstF (S := S) (d := d + 1) (k := k) (E := E) (A := B) (L := M) (T := T) (s := 13) (f := a + i) (by rw [p2]; exact hI) hai
      rw [p2] at e1
      simp -implicitDefEqProofs only [if_pos s0, hc_39, e1, q_I, hfl]
      refine ⟨(B1, M1), g, Nat.le_refl _, ?_, Fg_tr p1 (Fo_g e2), (e2.1 40 (by decide) (by decide)).trans p2, (e3 48 (by decide) (by decide)).trans p3⟩
      by_cases q : fF (A 40) 13 (a + i) = -1
      · rw [if_pos q, es, if_neg (fun r => r.2 q), nI_p1]
      · rw [if_neg q, es, if_pos ⟨s0, q⟩, nI_p1]
    · refine ⟨(B, M), g, Nat.le_refl _, ?_, p1, p2, p3⟩
      rw [if_neg s0, es, if_neg (fun r => s0 r.1), nI_p1]) ⟨Fg_refl, rfl, rfl⟩ (n + 1) n0 (by omega)
  obtain ⟨n2, rfl⟩ : ∃ n2, n' = n2 + 1 := ⟨n' - 1, by omega⟩
  refine ⟨A1, L1, n2, by omega, ?_, h2, h3, h4⟩
  have h1' : bd S (ex S (d + 6)) dflT E_X12_toSell n0 67 [some (.ref 39), some (.int (nI a)), some (.int (nI m)), some (.int x), some (.int 0), some (.int 0), none, none, none, none, none] [] (Hh k E A L T) = _ := h1
  rw [h1', g_X12_toSell_67, if_pos (Int32.le_refl (nI m))]
theorem r_bst {a m : Nat} {x el : Int32} (hm : m ≤ 8) (hm1 : 1 ≤ m) (ha : a + m ≤ 48) {o9 o10 : Option Value} (n0 : Nat) (hn : 6000 ≤ n0) : bd S (ex S (d + 6)) dflT E_X12_toSell n0 130 [some (.ref 39), some (.int (nI a)), some (.int (nI m)), some (.int x), some (.int el), some (.int (-1)), some (.int 0), some (.int 0), some (.int 0), o9, o10] [] (Hh k E A L T) = some (.inl (some (.int (tsN (A 40) a m el x (2 ^ m)).1)), Hh k E A L T) := by
  have hz : 2 ^ m ≤ 256 := Nat.pow_le_pow_right (n := 2) (by decide) hm
  have sh := shl_eq ⟨m, by omega⟩
  simp only at sh
  refine loop_QK (K := 16) (α := Option Value × Option Value) (F := fun g z o => bd S (ex S (d + 6)) dflT E_X12_toSell g 130 [some (.ref 39), some (.int (nI a)), some (.int (nI m)), some (.int x), some (.int el), some (.int (tsN (A 40) a m el x z).1), some (.int (tsN (A 40) a m el x z).2.1), some (.int (tsN (A 40) a m el x z).2.2), some (.int (nI z)), o.1, o.2] [] (Hh k E A L T)) (N := 2 ^ m) (P := fun _ _ => True) (Q := fun r => r = _) ?_ ?_ (s := (o9, o10)) trivial (by omega)
  · rintro g z ⟨o1, o2⟩ hzz -
    have g1 : ¬ nI (2 ^ m) ≤ nI z := nI_ge hzz (by omega)
    have es : tsN (A 40) a m el x (z + 1) = if (nI z &&& (el ^^^ (-1))) = 0 ∧ ¬ wtS (A 40) a m z < x ∧ tk (tsN (A 40) a m el x z).1 (tsN (A 40) a m el x z).2.1 (tsN (A 40) a m el x z).2.2 (ptS (A 40) a m z) (wtS (A 40) a m z) then (nI z, ptS (A 40) a m z, wtS (A 40) a m z) else tsN (A 40) a m el x z := rfl
    have hb := ts_b (W := A 40) (a := a) (m := m) (el := el) (x := x) (z := z) (by omega)
    right
    rw [show g + 16 = (g + 15) + 1 from rfl, g_X12_toSell_130, sh]
    simp -implicitDefEqProofs only [if_neg g1, es]
    generalize tsN (A 40) a m el x z = t at *
    obtain ⟨b, p, w⟩ := t
    simp only at hb ⊢
    by_cases q1 : (nI z &&& (el ^^^ (-1))) = 0
    · rw [if_pos q1]
      obtain ⟨-, n', hn', h1, -⟩ := loop_RK (K := 1) (α := Unit) (F := fun g i _ => bd S (ex S (d + 6)) dflT E_X12_toSell g 157 [some (.ref 39), some (.int (nI a)), some (.int (nI m)), some (.int x), some (.int el), some (.int b), some (.int p), some (.int w), some (.int (nI z)), some (.int (sumI (fun i => if z.testBit i = true then worthW (A 40) (a + i) else 0) i)), some (.int (nI i))] [] (Hh k E A L T)) (N := m) (P := fun _ _ => True) (s := ()) (by
        intro g i _ hi _
        have g2 : ¬ nI m ≤ nI i := nI_ge hi (by omega)
        have e2 : sumI (fun i => if z.testBit i = true then worthW (A 40) (a + i) else 0) (i + 1) = sumI (fun i => if z.testBit i = true then worthW (A 40) (a + i) else 0) i + (if z.testBit i = true then worthW (A 40) (a + i) else 0) := rfl
        have be := bit_eq ⟨z, by omega⟩ ⟨i, by omega⟩
        simp only at be
        refine ⟨(), g, Nat.le_refl _, ?_, trivial⟩
        rw [g_X12_toSell_157, be]
        simp -implicitDefEqProofs only [if_neg g2, nI_add, nI_p1, hc_39, r_worth (S := S) (d := d + 3) (show a + i < 48 by omega), q_I, e2]
        by_cases t : z.testBit i = true
        · simp -implicitDefEqProofs only [if_pos t, if_true]
        · simp -implicitDefEqProofs only [if_neg t]
          rw [if_neg (by decide)]) trivial (g + 1) (g + 15) (by omega)
      obtain ⟨n2, rfl⟩ : ∃ n2, n' = n2 + 1 := ⟨n' - 1, by omega⟩
      have h1' : bd S (ex S (d + 6)) dflT E_X12_toSell (g + 15) 157 [some (.ref 39), some (.int (nI a)), some (.int (nI m)), some (.int x), some (.int el), some (.int b), some (.int p), some (.int w), some (.int (nI z)), some (.int 0), some (.int 0)] [] (Hh k E A L T) = _ := h1
      rw [h1', g_X12_toSell_157, if_pos (Int32.le_refl (nI m))]
      rw [show sumI (fun i => if z.testBit i = true then worthW (A 40) (a + i) else 0) m = wtS (A 40) a m z from rfl]
      simp -implicitDefEqProofs only [hc_39, r_parted (S := S) (d := d + 3) hm hzz ha hm1, q_I, nI_p1]
      generalize ptS (A 40) a m z = y4
      generalize wtS (A 40) a m z = y2
      by_cases q2 : y2 < x
      · rw [if_neg (Int32.not_le.mpr q2), if_neg (fun r => r.2.1 q2)]
        exact ⟨(some (.int y2), some (.int (nI m))), n2, by omega, rfl, trivial⟩
      · rw [if_pos (Int32.not_lt.mp q2)]
        refine ⟨(some (.int y2), some (.int y4)), n2, by omega, ?_, trivial⟩
        by_cases t1 : b = -1
        · rw [if_pos (hb.mpr t1), if_pos ⟨q1, q2, Or.inl t1⟩]
        · rw [if_neg (fun r => t1 (hb.mp r))]
          by_cases t2 : p < y4
          · rw [if_pos t2, if_neg]
            rintro ⟨-, -, r | r | r⟩
            · exact t1 r
            · exact absurd (Int32.lt_trans r t2) Int32.lt_irrefl
            · rw [r.1] at t2; exact absurd t2 Int32.lt_irrefl
          · rw [if_neg t2]
            by_cases t3 : y4 = p
            · rw [if_pos t3]
              by_cases t4 : y2 < w
              · rw [if_pos t4, if_pos ⟨q1, q2, Or.inr (Or.inr ⟨t3, t4⟩)⟩]
              · rw [if_neg t4, if_neg]
                rintro ⟨-, -, r | r | r⟩
                · exact t1 r
                · rw [t3] at r; exact absurd r Int32.lt_irrefl
                · exact t4 r.2
            · have t5 : y4 < p := by
                rw [Int32.lt_iff_toInt_lt] at t2 ⊢
                have : ¬ y4.toInt = p.toInt := fun r => t3 (i32_ext r)
                omega
              rw [if_neg t3, if_pos ⟨q1, q2, Or.inr (Or.inl t5)⟩]
    · rw [if_neg q1, if_neg (fun r => q1 r.1)]
      exact ⟨(o1, o2), g + 15, by omega, by rw [nI_p1], trivial⟩
  · rintro g ⟨o1, o2⟩ -
    rw [show g + 16 = (g + 15) + 1 from rfl, g_X12_toSell_130, sh, if_pos (Int32.le_refl _)]
theorem p_toSell (hR : Rel c k E A T) (x n y : Int32) : PK c S (d + 8) k E A T 350 354 [.int x, .int n, .int y] cdD := by
  have hI := Rel_w hR
  have h36 := Rel_36 hR
  rcases fld_c x with hx | ⟨a, ha, rfl⟩
  · refine PK_e (e := 0) (x := 1) hR rfl (fun L => ?_) (fun M => ⟨some (.int 0), rfl, ?_⟩)
    · simp -implicitDefEqProofs only [x_X11_toSell, g_X11_toSell_0, c_f0 hx, q_Ue]
    · simp -implicitDefEqProofs only [x_X12_toSell, g_X12_toSell_0, hp_39_0, r_f0 hx, q_I, hc_39, r_thr1, i1_0, if_false, q_z0, up_up]
  · by_cases q1 : wi n 1 8
    · obtain ⟨m, hm, rfl⟩ := wi_n (M := 8) (by decide) (show wi n 0 (nI 8) from ⟨fun q => q1.1 (Int32.lt_trans q (by decide)), q1.2⟩)
      have hm1 : 1 ≤ m := by
        rcases Nat.eq_zero_or_pos m with q | q
        · subst q; exact absurd (by decide) q1.1
        · exact q
      by_cases q2 : a + m ≤ 48
      · have w2 : wi (nI (a + m)) 1 48 := ⟨nI_nlt (a := a + m) (b := 1) (by omega) (by omega), nI_nlt (a := 48) (by omega) (by omega)⟩
        have g2 : ¬ (48 : Int32) < nI (a + m) := w2.2
        by_cases q3 : wi y 0 100000
        · refine PK_v (v := some (.int (tsN (A 40) a m (elW (A 40) a m) y (2 ^ m)).1)) (V := A 40) hR (Iv_c (Nat.le_succ c) hI) (fun L => ?_) (fun B M hB => ?_)
          · obtain ⟨A1, L1, n', hn', e1, e2, e3⟩ := c_elig (S := S) (d := d) (k := k) (E := E) (L := L) (T := T) (x := y) hI hR.2.1 h36 hm q2 99000 99999 (by omega)
            refine ⟨A1, L1, ?_, e2, e3⟩
            simp -implicitDefEqProofs only [x_X11_toSell, g_X11_toSell_0, c_f1 ha, c_in1 q1, q_U, nI_add, c_in1 w2, c_in1 q3, hv_0_1, hc_4]
            rw [x_X0_bestSale, g_X0_bestSale_0, e1, c_bst hI e3 hm hm1 q2 n' (by omega), q_I]
          · obtain ⟨A1, L1, n', hn', e1, e2, e3, e4⟩ := r_elig (S := S) (d := d + 1) (k := k) (E := E) (A := up B 39 0 0) (L := M) (T := T) (x := y) (c := c) (by rw [u40_39, hB]; exact hI) hm q2 90000 99999 (by omega)
            rw [u40_39, hB] at e1 e3
            refine ⟨A1, L1, ?_, e4, e2, e3⟩
            have rb := r_bst (S := S) (d := d + 1) (k := k) (E := E) (A := A1) (L := L1) (T := T) (x := y) (el := elW (A 40) a m) hm hm1 q2 (o9 := none) (o10 := none) n' (by omega)
            rw [e3] at rb
            simp -implicitDefEqProofs only [x_X12_toSell, g_X12_toSell_0, hp_39_0, r_f1 ha, q_I, hc_39, r_thr0, if_true, r_in1 q1, i1_0, if_false, nI_add, if_neg g2, r_in1 q3]
            rw [e1, rb]
        · refine PK_e (e := 1) (x := 2) hR rfl (fun L => ?_) (fun M => ⟨some (.int 0), rfl, ?_⟩)
          · simp -implicitDefEqProofs only [x_X11_toSell, g_X11_toSell_0, c_f1 ha, c_in1 q1, q_U, nI_add, c_in1 w2, c_in0 q3, q_Ue]
          · simp -implicitDefEqProofs only [x_X12_toSell, g_X12_toSell_0, hp_39_0, r_f1 ha, q_I, hc_39, r_thr0, if_true, r_in1 q1, i1_0, if_false, nI_add, if_neg g2, r_in0 q3, r_thr1, up_up]
      · have g2 : (48 : Int32) < nI (a + m) := nI_lt (a := 48) (by omega) (by omega)
        refine PK_e (e := 1) (x := 2) hR rfl (fun L => ?_) (fun M => ⟨some (.int 0), rfl, ?_⟩)
        · simp -implicitDefEqProofs only [x_X11_toSell, g_X11_toSell_0, c_f1 ha, c_in1 q1, q_U, nI_add, c_in0 (fun w : wi (nI (a + m)) 1 48 => w.2 g2), q_Ue]
        · simp -implicitDefEqProofs only [x_X12_toSell, g_X12_toSell_0, hp_39_0, r_f1 ha, q_I, hc_39, r_thr0, if_true, r_in1 q1, i1_0, if_false, nI_add, if_pos g2, r_thr1, up_up]
    · refine PK_e (e := 1) (x := 2) hR rfl (fun L => ?_) (fun M => ⟨some (.int 0), rfl, ?_⟩)
      · simp -implicitDefEqProofs only [x_X11_toSell, g_X11_toSell_0, c_f1 ha, c_in0 q1, q_U, q_Ue]
      · simp -implicitDefEqProofs only [x_X12_toSell, g_X12_toSell_0, hp_39_0, r_f1 ha, q_I, hc_39, r_thr0, if_true, r_in0 q1, i1_0, if_false, r_thr1, up_up]
end ToSellD
