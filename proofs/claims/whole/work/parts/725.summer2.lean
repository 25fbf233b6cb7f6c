/-! summer: the row is written -/
section YearC
variable {S : sT} {d c : Nat} {k : Value} {E : List dsc} {A : fA} {L : fL} {T : fT} {W : fW}
theorem Iv_row {V : fW} (hI : Iv c W) (e : ∀ i, (i < 2265 ∨ 2650 ≤ i) → V i = W i) (hr : IvRw V) : Iv c V := by
  obtain ⟨i0, i1, i2, i3, i4, i5, i6, i7, i8, i9, i10⟩ := hI
  exact ⟨Iv0_c (e 0 (by omega)) i0, IvF_c (fun i hi => e i (by omega)) i4.2.1 i1, IvRn_c (fun i h1 h2 => e i (by omega)) i2, IvPr_c (by rw [e 0 (by omega)]; exact Int32.lt_irrefl) (fun i h1 h2 => e i (by omega)) i3, IvHs_c (fun i hi => e i (by omega)) i4, IvG_0 (fun i h1 h2 => e i (by omega)) i5, IvLn_c (fun i h1 h2 => e i (by omega)) i6, IvJb_c (fun i h1 h2 => e i (by omega)) i7, IvTb_c (fun i h1 h2 => e i (by omega)) i8, hr, IvXs_c (fun i h1 h2 => e i (by omega)) i10⟩
theorem Lk_row {A' : fA} {V : fW} (hI : Iv c W) (h0 : LkA 4 k E A T W) (e : ∀ i, (i < 2265 ∨ 2650 ≤ i) → V i = W i) (hr : LkR (A' 33) (A' 34) (A' 35) V) (hA : ∀ r, r ≠ 33 → r ≠ 34 → r ≠ 35 → A' r = A r) : LkA 4 k E A' T V := by
  obtain ⟨l0, l1, l2, l3, l4, l5, l6, l7⟩ := h0
  obtain ⟨i0, i1, i2, i3, i4, i5, i6, i7, i8, i9, i10⟩ := hI
  have q : ∀ r, r < 33 → A' r = A r := fun r hr => hA r (by omega) (by omega) (by omega)
  refine ⟨?_, ?_, ?_, ?_, ?_, hr, ?_, ?_⟩
  · show A' 4 7 = V 0
    rw [q 4 (by decide), e 0 (by omega)]; exact l0
  · show LkL (A' 10) V
    rw [q 10 (by decide)]; exact LkL_c (fun i h1 h2 => e i (by omega)) l1
  · show LkM (A' 16) (A' 17) (A' 18) (A' 19) (A' 20) (A' 21) V
    rw [q 16 (by decide), q 17 (by decide), q 18 (by decide), q 19 (by decide), q 20 (by decide), q 21 (by decide)]; exact LkM_c i3.2.1 (fun i h1 h2 => e i (by omega)) l2
  · show LkG (A' 22) (A' 23) (A' 24) (A' 25) (A' 26) V
    rw [q 22 (by decide), q 23 (by decide), q 24 (by decide), q 25 (by decide), q 26 (by decide)]; exact LkG_c (fun i hi => e i (by omega)) l3
  · show LkP (A' 27) (A' 28) (A' 29) (A' 30) (A' 31) (A' 32) V
    rw [q 27 (by decide), q 28 (by decide), q 29 (by decide), q 30 (by decide), q 31 (by decide), q 32 (by decide)]; exact LkP_c (fun i h1 h2 => e i (by omega)) l4
  · show LkH k E A' (A' 11) (A' 12) (T 13) V
    rw [q 11 (by decide), q 12 (by decide)]; exact LkH_A (LkH_c i4.2.1 (fun i hi => e i (by omega)) l6) (fun r hr => hA r (by have := hr.1; omega) (by have := hr.1; omega) (by have := hr.1; omega))
  · show LkX k E A' (A' 5) (T 6) (A' 7) (A' 8) V
    rw [q 5 (by decide), q 7 (by decide), q 8 (by decide)]; exact LkX_A (LkX_c i10.2.1 (fun i h1 h2 => e i (by omega)) l7) (fun r hr => hA r (by have := hr.1; omega) (by have := hr.1; omega) (by have := hr.1; omega))
def roM (W : fW) : Nat := if rn W = 4 then 3 else rn W
/-- the rows move up by one -/
def shN (W : fW) (n : Nat) : fW := fun i => if 2266 ≤ i ∧ i < 2266 + n then W (i + 48) else if 2458 ≤ i ∧ i < 2458 + n then W (i + 48) else W i
def shR (W : fW) : fW := if rn W = 4 then upd (shN W 144) 2265 3 else W
/-- the harvests of the first fields are written -/
def wrN (W : fW) (m n : Nat) : fW := fun i => if 2266 + 48 * m ≤ i ∧ i < 2266 + 48 * m + n then W (8 + 14 * (i - (2266 + 48 * m)) + 9) else if 2458 + 48 * m ≤ i ∧ i < 2458 + 48 * m + n then W (8 + 14 * (i - (2458 + 48 * m)) + 9) else W i
def roW (W : fW) : fW := upd (wrN (shR W) (roM W) 48) 2265 (nI (roM W + 1))
theorem shN_s (n : Nat) (hn : n < 144) : shN W (n + 1) = upd (upd (shN W n) (2266 + n) (W (2314 + n))) (2458 + n) (W (2506 + n)) := by
  funext i
  unfold shN upd
  dsimp only
  by_cases h2 : i = 2458 + n
  · subst h2
    rw [if_neg (by omega), if_pos (by omega), if_pos rfl]
    congr 1
    omega
  · rw [if_neg h2]
    by_cases h1 : i = 2266 + n
    · subst h1
      rw [if_pos (by omega), if_pos rfl]
      congr 1
      omega
    · rw [if_neg h1]
      by_cases q1 : 2266 ≤ i ∧ i < 2266 + n
      · rw [if_pos q1, if_pos (by omega)]
      · rw [if_neg q1, if_neg (by omega)]
        by_cases q2 : 2458 ≤ i ∧ i < 2458 + n
        · rw [if_pos q2, if_pos (by omega)]
        · rw [if_neg q2, if_neg (by omega)]
theorem wrN_s (m n : Nat) (hm : m < 4) (hn : n < 48) : wrN W m (n + 1) = upd (upd (wrN W m n) (2266 + 48 * m + n) (W (8 + 14 * n + 9))) (2458 + 48 * m + n) (W (8 + 14 * n + 9)) := by
  funext i
  unfold wrN upd
  dsimp only
  by_cases h2 : i = 2458 + 48 * m + n
  · subst h2
    rw [if_neg (by omega), if_pos (by omega), if_pos rfl]
    congr 1
    omega
  · rw [if_neg h2]
    by_cases h1 : i = 2266 + 48 * m + n
    · subst h1
      rw [if_pos (by omega), if_pos rfl]
      congr 1
      omega
    · rw [if_neg h1]
      by_cases q1 : 2266 + 48 * m ≤ i ∧ i < 2266 + 48 * m + n
      · rw [if_pos q1, if_pos (by omega)]
      · rw [if_neg q1, if_neg (by omega)]
        by_cases q2 : 2458 + 48 * m ≤ i ∧ i < 2458 + 48 * m + n
        · rw [if_pos q2, if_pos (by omega)]
        · rw [if_neg q2, if_neg (by omega)]
theorem wrN_lo {m n i : Nat} (hm : m < 4) (hn : n ≤ 48) (hi : i < 2266 ∨ 2650 ≤ i) : wrN W m n i = W i := by
  unfold wrN
  rw [if_neg (by omega), if_neg (by omega)]
theorem sh_lo {i : Nat} (hi : i < 2265 ∨ 2650 ≤ i) : shR W i = W i := by
  unfold shR
  split
  · rw [upd_o (by omega)]; unfold shN; rw [if_neg (by omega), if_neg (by omega)]
  · rfl
theorem ro_lo {i : Nat} (h4 : rn W ≤ 4) (hi : i < 2265 ∨ 2650 ≤ i) : roW W i = W i := by
  have : roM W < 4 := by unfold roM; split <;> omega
  unfold roW
  rw [upd_o (by omega), wrN_lo this (Nat.le_refl _) (by omega)]
  exact sh_lo hi
theorem sh_m (h1 : W 2265 = nI (rn W)) : shR W 2265 = nI (roM W) := by
  unfold shR roM
  split
  · rw [upd_s]; rfl
  · exact h1
theorem jRo (hI : Iv c W) : Iv c (roW W) := by
  obtain ⟨h1, h4⟩ := hI.2.2.2.2.2.2.2.2.2.1
  have hm : roM W < 4 := by unfold roM; split <;> omega
  refine Iv_row hI (fun i hi => ro_lo h4 hi) ?_
  have e : roW W 2265 = nI (roM W + 1) := upd_s _ _ _
  have e2 : rn (roW W) = roM W + 1 := by unfold rn; rw [e, nI_clamp (by omega)]
  exact ⟨by rw [e, e2], by rw [e2]; omega⟩
/-- the class's arrays -/
def rN (W : fW) (s : Nat → Int32) (m n : Nat) : Nat → Int32 := fun j => if 48 * m ≤ j ∧ j < 48 * m + n then W (8 + 14 * (j - 48 * m) + 9) else s j
theorem rN_s (s : Nat → Int32) (m n : Nat) : rN W s m (n + 1) = upd (rN W s m n) (m * 48 + n) (W (8 + 14 * n + 9)) := by
  funext j
  unfold rN upd
  dsimp only
  by_cases h1 : j = m * 48 + n
  · subst h1
    rw [if_pos (by omega), if_pos rfl]
    congr 1
    omega
  · rw [if_neg h1]
    by_cases q1 : 48 * m ≤ j ∧ j < 48 * m + n
    · rw [if_pos q1, if_pos (by omega)]
    · rw [if_neg q1, if_neg (by omega)]
theorem c_row49 {m n0 : Nat} (hL : LkL (A 10) W) (hm : m < 4) (h33 : A 33 0 = nI m) (hn0 : 60 ≤ n0) : ∃ A', bd S (ex S (d + 2)) dflT E_X7_add n0 49 [some (.ref 33), some (.ref 9), some (.int 0)] [] (Hh k E A L T) = some (.inl none, Hh k E A' L T) ∧ A' 33 0 = nI (m + 1) ∧ A' 34 = rN W (A 34) m 48 ∧ A' 35 = rN W (A 35) m 48 ∧ ∀ r, r ≠ 33 → r ≠ 34 → r ≠ 35 → A' r = A r := by
  refine loop_Q (α := fA) (F := fun g i B => bd S (ex S (d + 2)) dflT E_X7_add g 49 [some (.ref 33), some (.ref 9), some (.int (nI i))] [] (Hh k E B L T)) (N := 48) (P := fun i B => B 33 0 = nI m ∧ B 34 = rN W (A 34) m i ∧ B 35 = rN W (A 35) m i ∧ ∀ r, r ≠ 33 → r ≠ 34 → r ≠ 35 → B r = A r) (Q := fun r => ∃ A', r = some (.inl none, Hh k E A' L T) ∧ A' 33 0 = nI (m + 1) ∧ A' 34 = rN W (A 34) m 48 ∧ A' 35 = rN W (A 35) m 48 ∧ ∀ r, r ≠ 33 → r ≠ 34 → r ≠ 35 → A' r = A r) ?_ ?_ (s := A) ⟨h33, ?_, ?_, fun _ _ _ _ => rfl⟩ (by omega)
  · rintro g f B hf ⟨b1, b2, b3, b4⟩
    right
    have hL1 : LkL (B 10) W := by rw [b4 10 (by decide) (by decide) (by decide)]; exact hL
    have hL2 : LkL (up B 34 (m * 48 + f) (W (8 + 14 * f + 9)) 10) W := by rw [up_ne (by decide)]; exact hL1
    have g0 : ¬ (48 : Int32) ≤ nI f := nI_ge (b := 48) hf (by decide)
    have b1' : up B 34 (m * 48 + f) (W (8 + 14 * f + 9)) 33 0 = nI m := by rw [up_ne (by decide)]; exact b1
    rw [g_X7_add_49]
    simp -implicitDefEqProofs only [if_neg g0, hv_33_1, hg_33_0, b1, q_iR, hc_9, gL_9 hL1 hf, q_I, i48, sn_34 (show m * 48 + f < 192 by omega), hv_33_2, b1', gL_9 hL2 hf, sn_35 (show m * 48 + f < 192 by omega), q_nr, nI_p1]
    refine ⟨_, rfl, ?_, ?_, ?_, fun r r1 r2 r3 => ?_⟩
    · rw [up_ne (by decide)]; exact b1'
    · rw [up_ne (by decide), up_eq, b2, rN_s]
    · rw [up_eq, up_ne (by decide), b3, rN_s]
    · rw [up_ne r3, up_ne r2]; exact b4 r r1 r2 r3
  · rintro g B ⟨b1, b2, b3, b4⟩
    rw [g_X7_add_49, if_pos (by decide)]
    simp -implicitDefEqProofs only [hg_33_0, b1, hp_33_0, nI_p1]
    exact ⟨_, rfl, up_ii, by rw [up_ne (by decide)]; exact b2, by rw [up_ne (by decide)]; exact b3, fun r r1 r2 r3 => by rw [up_ne r1]; exact b4 r r1 r2 r3⟩
  · funext j; unfold rN; rw [if_neg (by omega)]
  · funext j; unfold rN; rw [if_neg (by omega)]
theorem cp_34 {A : fA} {κ : pH → rO} : cpI (Hh k E A L T) (.ref 34) 48 (.ref 34) 0 144 κ = κ (Hh k E (upR A 34 (va_cpy (A 34) (A 34) 48 0 144)) L T) := by
  rw [Hh, cpI_H dd_34 dd_34 (by decide) (by decide) (by decide) (by decide) (by decide)]; rfl
theorem cp_35 {A : fA} {κ : pH → rO} : cpI (Hh k E A L T) (.ref 35) 48 (.ref 35) 0 144 κ = κ (Hh k E (upR A 35 (va_cpy (A 35) (A 35) 48 0 144)) L T) := by
  rw [Hh, cpI_H dd_35 dd_35 (by decide) (by decide) (by decide) (by decide) (by decide)]; rfl
theorem upR_ne {a b : Nat} {f : Nat → Int32} (h : b ≠ a) : upR A a f b = A b := by simp [upR, h]
theorem upR_eq {a : Nat} {f : Nat → Int32} : upR A a f a = f := by simp [upR]
/-- what is in the rows when they are written -/
theorem ro_at {j m : Nat} {s : Nat → Int32} {o : Nat} (hm : m < 4) (ho : o = 2266 ∨ o = 2458) (hj : j < 192) (hs : s j = shR W (o + j)) (hy : ∀ f, f < 48 → shR W (8 + 14 * f + 9) = W (8 + 14 * f + 9)) (he : m = roM W) : rN W s m 48 j = roW W (o + j) := by
  subst he
  unfold roW
  rw [upd_o (by omega)]
  unfold rN wrN
  by_cases q : 48 * roM W ≤ j ∧ j < 48 * roM W + 48
  · rw [if_pos q]
    rcases ho with rfl | rfl
    · rw [if_pos (by omega), hy _ (by omega)]; congr 2; omega
    · rw [if_neg (by omega), if_pos (by omega), hy _ (by omega)]; congr 2; omega
  · rw [if_neg q, hs]
    rcases ho with rfl | rfl
    · rw [if_neg (by omega), if_neg (by omega)]
    · rw [if_neg (by omega), if_neg (by omega)]
theorem c_rowAdd (hI : Iv c W) (h0 : LkA 4 k E A T W) : ∃ A', ex S (d + 3) 193 [.ref 33, .ref 9] (Hh k E A L T) = some (.inl none, Hh k E A' L T) ∧ LkA 4 k E A' T (roW W) ∧ ∀ r, r ≠ 33 → r ≠ 34 → r ≠ 35 → A' r = A r := by
  obtain ⟨h1, h4⟩ := hI.2.2.2.2.2.2.2.2.2.1
  obtain ⟨r1, r2, r3⟩ : LkR (A 33) (A 34) (A 35) W := h0.2.2.2.2.2.1
  have hL : LkL (A 10) W := h0.2.1
  have hy : ∀ f, f < 48 → shR W (8 + 14 * f + 9) = W (8 + 14 * f + 9) := fun f hf => sh_lo (by omega)
  have e33 : A 33 0 = nI (rn W) := r1.trans h1
  have hm : roM W < 4 := by unfold roM; split <;> omega
  have e65 : roW W 2265 = nI (roM W + 1) := upd_s _ _ _
  rw [x_X7_add, g_X7_add_0]
  simp -implicitDefEqProofs only [hg_33_0, e33]
  by_cases q : rn W = 4
  · have em : roM W = 3 := by unfold roM; rw [if_pos q]
    rw [q, if_neg (by decide)]
    simp -implicitDefEqProofs only [hv_33_1, cp_34, hv_33_2, cp_35, hp_33_0, q_nr]
    obtain ⟨A', a1, a2, a3, a4, a5⟩ := c_row49 (S := S) (d := d) (k := k) (E := E) (A := up (upR (upR A 34 (va_cpy (A 34) (A 34) 48 0 144)) 35 (va_cpy (upR A 34 (va_cpy (A 34) (A 34) 48 0 144) 35) (upR A 34 (va_cpy (A 34) (A 34) 48 0 144) 35) 48 0 144)) 33 0 3) (L := L) (T := T) (m := 3) (W := W) (n0 := 99999) (by rw [up_ne (by decide), upR_ne (by decide), upR_ne (by decide)]; exact hL) (by decide) (by rw [up_ii]; rfl) (by decide)
    rw [up_ne (by decide), upR_ne (by decide), upR_eq] at a3
    rw [up_ne (by decide), upR_eq, upR_ne (by decide)] at a4
    have hA : ∀ r, r ≠ 33 → r ≠ 34 → r ≠ 35 → A' r = A r := fun r x1 x2 x3 => by rw [a5 r x1 x2 x3, up_ne x1, upR_ne x3, upR_ne x2]
    refine ⟨A', a1, Lk_row hI h0 (fun i hi => ro_lo h4 hi) ⟨?_, ?_, ?_⟩ hA, hA⟩
    · rw [a2, e65, em]
    · intro j hj
      rw [a3]
      refine ro_at (by decide) (Or.inl rfl) hj ?_ hy em.symm
      unfold va_cpy shR
      rw [if_pos q, upd_o (by omega)]
      unfold shN
      by_cases z : j < 144
      · rw [if_pos (by omega), if_pos (by omega), show 48 + (j - 0) = j + 48 by omega, r2 _ (by omega)]; rfl
      · rw [if_neg (by omega), if_neg (by omega), if_neg (by omega), r2 j hj]
    · intro j hj
      rw [a4]
      refine ro_at (by decide) (Or.inr rfl) hj ?_ hy em.symm
      unfold va_cpy shR
      rw [if_pos q, upd_o (by omega)]
      unfold shN
      by_cases z : j < 144
      · rw [if_pos (by omega), if_neg (by omega), if_pos (by omega), show 48 + (j - 0) = j + 48 by omega, r3 _ (by omega)]; rfl
      · rw [if_neg (by omega), if_neg (by omega), if_neg (by omega), r3 j hj]
  · have em : roM W = rn W := by unfold roM; rw [if_neg q]
    have es : shR W = W := by unfold shR; rw [if_neg q]
    rw [if_pos (show nI (rn W) < 4 from nI_lt (b := 4) (by omega) (by decide)), q_nr]
    obtain ⟨A', a1, a2, a3, a4, a5⟩ := c_row49 (S := S) (d := d) (k := k) (E := E) (A := A) (L := L) (T := T) (m := rn W) (W := W) (n0 := 99999) hL (by omega) e33 (by decide)
    refine ⟨A', a1, Lk_row hI h0 (fun i hi => ro_lo h4 hi) ⟨?_, ?_, ?_⟩ a5, a5⟩
    · rw [a2, e65, em]
    · intro j hj
      rw [a3]
      exact ro_at (by omega) (Or.inl rfl) hj (by rw [es]; exact r2 j hj) hy em.symm
    · intro j hj
      rw [a4]
      exact ro_at (by omega) (Or.inr rfl) hj (by rw [es]; exact r3 j hj) hy em.symm
theorem r_row81 {m n0 : Nat} (hm : m < 4) (h65 : A 40 2265 = nI m) (hn0 : 60 ≤ n0) : bd S (ex S (d + 2)) dflT E_X12_writesRow n0 81 [some (.ref 39), some (.int 0)] [] (Hh k E A L T) = some (.inl none, Hh k E (upR A 40 (upd (wrN (A 40) m 48) 2265 (nI (m + 1)))) L T) := by
  refine loop_Q (α := fA) (F := fun g i B => bd S (ex S (d + 2)) dflT E_X12_writesRow g 81 [some (.ref 39), some (.int (nI i))] [] (Hh k E B L T)) (N := 48) (P := fun i B => B = upR A 40 (wrN (A 40) m i)) (Q := fun r => r = some (.inl none, Hh k E (upR A 40 (upd (wrN (A 40) m 48) 2265 (nI (m + 1)))) L T)) ?_ ?_ (s := A) ?_ (by omega)
  · rintro g f B hf rfl
    right
    have g0 : ¬ (48 : Int32) ≤ nI f := nI_ge (b := 48) hf (by decide)
    have e40 : upR A 40 (wrN (A 40) m f) 40 = wrN (A 40) m f := upR_eq
    have w1 : wrN (A 40) m f 2265 = nI m := by rw [wrN_lo hm (by omega) (by omega)]; exact h65
    have w2 : wrN (A 40) m f (8 + 14 * f + 9) = A 40 (8 + 14 * f + 9) := wrN_lo hm (by omega) (by omega)
    have x1 : (2266 + 48 * nI m + nI f : Int32) = nI (2266 + 48 * m + f) := by rw [show (2266 : Int32) = nI 2266 from rfl, show (48 : Int32) = nI 48 from rfl, pk_mul, nI_add, nI_add]
    have x2 : (2458 + 48 * nI m + nI f : Int32) = nI (2458 + 48 * m + f) := by rw [show (2458 : Int32) = nI 2458 from rfl, show (48 : Int32) = nI 48 from rfl, pk_mul, nI_add, nI_add]
    have v1 : upd (wrN (A 40) m f) (2266 + 48 * m + f) (A 40 (8 + 14 * f + 9)) 2265 = nI m := by rw [upd_o (by omega)]; exact w1
    have v2 : upd (wrN (A 40) m f) (2266 + 48 * m + f) (A 40 (8 + 14 * f + 9)) (8 + 14 * f + 9) = A 40 (8 + 14 * f + 9) := by rw [upd_o (by omega)]; exact w2
    rw [g_X12_writesRow_81]
    simp -implicitDefEqProofs only [if_neg g0, hv_39_1, aw_40_2265, e40, w1, hc_39, ro_9 hf, w2, q_I, x1, sn_40 (show 2266 + 48 * m + f < 35877 by omega), up40, v1, v2, x2, sn_40 (show 2458 + 48 * m + f < 35877 by omega), nI_p1]
    refine ⟨_, rfl, ?_⟩
    rw [wrN_s m f hm hf]
    funext r
    by_cases hr : r = 40
    · subst hr; rw [up40, up40, upR_eq, upR_eq]
    · rw [up_ne hr, up_ne hr, upR_ne hr, upR_ne hr]
  · rintro g B rfl
    have e40 : upR A 40 (wrN (A 40) m 48) 40 = wrN (A 40) m 48 := upR_eq
    have w1 : wrN (A 40) m 48 2265 = nI m := by rw [wrN_lo hm (by omega) (by omega)]; exact h65
    rw [g_X12_writesRow_81, if_pos (by decide)]
    simp -implicitDefEqProofs only [hv_39_1, q_nr, aw_40_2265, e40, w1, sw_40_2265, nI_p1]
    rw [q_nr]
    congr 3
    funext r
    by_cases hr : r = 40
    · subst hr; rw [up40, upR_eq, upR_eq]
    · rw [up_ne hr, upR_ne hr, upR_ne hr]
  · funext r
    by_cases hr : r = 40
    · subst hr; rw [upR_eq]; funext i; unfold wrN; rw [if_neg (by omega), if_neg (by omega)]
    · rw [upR_ne hr]
theorem r_wrow (hI : Iv c (A 40)) : ex S (d + 3) 236 [.ref 39] (Hh k E A L T) = some (.inl none, Hh k E (upR A 40 (roW (A 40))) L T) := by
  obtain ⟨h1, h4⟩ := hI.2.2.2.2.2.2.2.2.2.1
  rw [x_X12_writesRow, g_X12_writesRow_0]
  simp -implicitDefEqProofs only [hv_39_1, aw_40_2265, h1]
  by_cases q : rn (A 40) = 4
  · have em : roM (A 40) = 3 := by unfold roM; rw [if_pos q]
    have es : shR (A 40) = upd (shN (A 40) 144) 2265 3 := by unfold shR; rw [if_pos q]
    rw [q, if_pos (by decide)]
    obtain ⟨B, g', hg', f1, rfl⟩ := loop_RK (K := 1) (α := fA) (F := fun g i B => bd S (ex S (d + 2)) dflT E_X12_writesRow g 14 [some (.ref 39), some (.int (nI i))] [] (Hh k E B L T)) (N := 144) (P := fun i B => B = upR A 40 (shN (A 40) i)) (s := A) (by
      rintro g n B hn rfl
      have g0 : ¬ (144 : Int32) ≤ nI n := nI_ge (b := 144) hn (by decide)
      have e40 : upR A 40 (shN (A 40) n) 40 = shN (A 40) n := upR_eq
      have x1 : (2314 + nI n : Int32) = nI (2314 + n) := by rw [show (2314 : Int32) = nI 2314 from rfl, nI_add]
      have x2 : (2266 + nI n : Int32) = nI (2266 + n) := by rw [show (2266 : Int32) = nI 2266 from rfl, nI_add]
      have x3 : (2506 + nI n : Int32) = nI (2506 + n) := by rw [show (2506 : Int32) = nI 2506 from rfl, nI_add]
      have x4 : (2458 + nI n : Int32) = nI (2458 + n) := by rw [show (2458 : Int32) = nI 2458 from rfl, nI_add]
      have w1 : shN (A 40) n (2314 + n) = A 40 (2314 + n) := by unfold shN; rw [if_neg (by omega), if_neg (by omega)]
      have w2 : upd (shN (A 40) n) (2266 + n) (A 40 (2314 + n)) (2506 + n) = A 40 (2506 + n) := by rw [upd_o (by omega)]; unfold shN; rw [if_neg (by omega), if_neg (by omega)]
      rw [g_X12_writesRow_14]
      simp -implicitDefEqProofs only [if_neg g0, hv_39_1, x1, x2, x3, x4, an_40 (show 2314 + n < 35877 by omega), an_40 (show 2506 + n < 35877 by omega), sn_40 (show 2266 + n < 35877 by omega), sn_40 (show 2458 + n < 35877 by omega), e40, w1, up40, w2, nI_p1]
      refine ⟨_, g, Nat.le_refl _, rfl, ?_⟩
      rw [shN_s n hn]
      funext r
      by_cases hr : r = 40
      · subst hr; rw [up40, up40, upR_eq, upR_eq]
      · rw [up_ne hr, up_ne hr, upR_ne hr, upR_ne hr]) (by
      funext r
      by_cases hr : r = 40
      · subst hr; rw [upR_eq]; funext i; unfold shN; rw [if_neg (by omega), if_neg (by omega)]
      · rw [upR_ne hr]) 90000 99999 (by decide)
    have f1' : bd S (ex S (d + 2)) dflT E_X12_writesRow 99999 14 [some (.ref 39), some (.int 0)] [] (Hh k E A L T) = _ := f1
    rw [f1']
    obtain ⟨g2, rfl⟩ : ∃ g2, g' = g2 + 1 := ⟨g' - 1, by omega⟩
    have e40 : upR A 40 (shN (A 40) 144) 40 = shN (A 40) 144 := upR_eq
    have w1 : shN (A 40) 144 2265 = 4 := by unfold shN; rw [if_neg (by omega), if_neg (by omega), h1, q]; rfl
    rw [g_X12_writesRow_14, if_pos (by decide)]
    simp -implicitDefEqProofs only [hv_39_1, q_nr, aw_40_2265, e40, w1, sw_40_2265]
    have e2 : up (upR A 40 (shN (A 40) 144)) 40 2265 (4 - 1) = upR A 40 (shR (A 40)) := by
      rw [es]
      funext r
      by_cases hr : r = 40
      · subst hr; rw [up40, upR_eq, upR_eq]; rfl
      · rw [up_ne hr, upR_ne hr, upR_ne hr]
    rw [e2, r_row81 (m := 3) (by decide) (by rw [upR_eq, sh_m h1, em]) (by omega), upR_eq]
    unfold roW
    rw [em, q_nr]
    congr 3
    funext r
    by_cases hr : r = 40
    · subst hr; rw [upR_eq, upR_eq]
    · rw [upR_ne hr, upR_ne hr, upR_ne hr]
  · have em : roM (A 40) = rn (A 40) := by unfold roM; rw [if_neg q]
    have es : shR (A 40) = A 40 := by unfold shR; rw [if_neg q]
    rw [if_neg (show ¬ nI (rn (A 40)) = 4 from fun z => q ((nI_eq (b := 4) (by omega) (by decide)).mp z)), r_row81 (m := rn (A 40)) (by omega) h1 (by decide)]
    unfold roW
    rw [em, es]
end YearC
