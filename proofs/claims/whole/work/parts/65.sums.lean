/-! a call that is done by the class and then by the reference; sums of lines that hold -/
section SumB
variable {S : sT} {d c : Nat} {k : Value} {E : List dsc} {A : fA} {L : fL} {T : fT} {W : fW}
theorem PK_v {mc mr : Nat} {av : List Value} {cd : Nat → Int32} {v : Option Value} {V : fW} (hR : Rel c k E A T) (hI : Iv (c + 1) V) (hc : ∀ L, ∃ A1 L1, ex S d mc (.ref 0 :: av) (Hh k E A L T) = some (.inl v, Hh k E A1 L1 T) ∧ Fr A A1 ∧ LkA 4 k E A1 T V) (hr : ∀ (B : fA) (M : fL), B 40 = A 40 → ∃ A2 L2, ex S d mr (.ref 39 :: av) (Hh k E B M T) = some (.inl v, Hh k E A2 L2 T) ∧ L2 48 = M 48 ∧ Fg (up B 39 0 0) A2 ∧ A2 40 = V) (hv : okI mc v = true := by rfl) : PK c S d k E A T mc mr av cd := by
  intro L
  obtain ⟨A1, L1, h1, h2, h3⟩ := hc L
  refine ⟨k, E, A1, L1, T, Or.inl ⟨v, hv, h1, fun M => ?_⟩⟩
  obtain ⟨A2, L2, g1, g2, g3, g4⟩ := hr A1 M (h2.1 40 (by decide))
  exact ⟨A2, L2, g1, g2, g3.2.1.trans up_ii, Rel_by hR h2 g3 (by rw [g4]; exact h3) (by rw [g4]; exact hI)⟩
theorem PK_e {mc mr e : Nat} {av : List Value} {cd : Nat → Int32} {x : Int32} (hR : Rel c k E A T) (he : cd e = x) (hc : ∀ L, ex S d mc (.ref 0 :: av) (Hh k E A L T) = some (.inr (xnm e), Hh k E A L T)) (hr : ∀ M : fL, ∃ v, okI mc v = true ∧ ex S d mr (.ref 39 :: av) (Hh k E A M T) = some (.inl v, Hh k E (up A 39 0 x) M T)) (hx : x ≠ 0 := by decide) : PK c S d k E A T mc mr av cd := by
  intro L
  refine ⟨k, E, A, L, T, Or.inr ⟨e, by rw [he]; exact hx, hc L, fun M => ?_⟩⟩
  obtain ⟨v, hv0, hv⟩ := hr M
  exact ⟨_, M, v, hv0, hv, rfl, by rw [he]; exact up_ii, Rel_thr hR x⟩
/-- a text's sum of a verb's lines that hold -/
def shB (W : fW) (B : Nat) (s : Int32) (Fc : Nat → Int64) (n : Nat) : Int32 := if hm W B s Fc n = true then W (B + 2 + 6 * n + 1) else 0
def shT (W : fW) (t : Nat) (s : Int32) (Fc : Nat → Int64) : Int32 := sumI (shB W (tx t) s Fc) (lnT W t)
theorem c_sumT {a b nl nc t : Nat} {s : Int32} {Fc : Nat → Int64} (h : TX k E A a b nl nc W (tx t)) (hs : rg s 0 6 ∨ rg s 10 16) (hF : ∀ j, j < 11 → L 37 j = Fc j) : ∃ L', ex S (d + 3) 200 [.ref a, .int (vb s), .ref 37] (Hh k E A L T) = some (.inl (some (.int (shT W t s Fc))), Hh k E A L' T) ∧ (∀ j, j < 11 → L' 37 j = Fc j) ∧ ∀ r, r ≠ 37 → L' r = L r := by
  obtain ⟨n1, n2⟩ := tx_n h
  obtain ⟨h1, h2, h3, h4, -, -⟩ := id h
  have hl := lnT_eq h4
  rw [x_X8_sumHolding, g_X8_sumHolding_0, q_nr]
  unfold shT
  rw [hl]
  refine loop_Q (α := fL) (F := fun g i M => bd S (ex S (d + 2)) dflT E_X8_sumHolding g 5 [some (.ref a), some (.int (vb s)), some (.ref 37), some (.int (sumI (shB W (tx t) s Fc) i)), some (.int (nI i))] [] (Hh k E A M T)) (N := nl) (P := fun i M => (∀ j, j < 11 → M 37 j = Fc j) ∧ ∀ r, r ≠ 37 → M r = L r) (Q := fun r => ∃ L', r = some (.inl (some (.int (sumI (shB W (tx t) s Fc) nl))), Hh k E A L' T) ∧ (∀ j, j < 11 → L' 37 j = Fc j) ∧ ∀ r, r ≠ 37 → L' r = L r) ?_ ?_ (s := L) ⟨hF, fun _ _ => rfl⟩ (by omega)
  · rintro g i M hi ⟨m1, m2⟩
    have g0 : ¬ nI nl ≤ nI i := nI_ge hi (by omega)
    have e : sumI (shB W (tx t) s Fc) (i + 1) = sumI (shB W (tx t) s Fc) i + shB W (tx t) s Fc i := rfl
    have ev := vb_eq2 (h4.2.2.2 i hi).1 hs
    obtain ⟨M', r1, r2, r3⟩ := c_holds (S := S) (d := d) (k := k) (E := E) (A := A) (T := T) h hi m1
    right
    rw [g_X8_sumHolding_5]
    simp -implicitDefEqProofs only [tl h1, h3, if_neg g0, tc h1, c_tg0 h hi, c_tg1 h hi, q_I, q_iR, r1, q_nr, nI_p1]
    by_cases c1 : W (tx t + 2 + 6 * i) = s
    · rw [if_pos (ev.mpr c1)]
      rcases hl_c (W := W) (tx t) i Fc with z | z
      · have e1 : shB W (tx t) s Fc i = 0 := by unfold shB hm; simp [z]
        rw [z, if_pos rfl, e, e1, Int32.add_zero]
        exact ⟨M', rfl, r2, fun r hr => (r3 r hr).trans (m2 r hr)⟩
      · have e1 : shB W (tx t) s Fc i = W (tx t + 2 + 6 * i + 1) := by unfold shB hm; simp [z, c1]
        rw [z, if_neg (by decide), e, e1]
        exact ⟨M', rfl, r2, fun r hr => (r3 r hr).trans (m2 r hr)⟩
    · have e1 : shB W (tx t) s Fc i = 0 := by unfold shB hm; simp [c1]
      rw [if_neg (fun q => c1 (ev.mp q)), e, e1, Int32.add_zero]
      exact ⟨M, rfl, m1, m2⟩
  · rintro g M ⟨m1, m2⟩
    rw [g_X8_sumHolding_5]
    simp -implicitDefEqProofs only [tl h1, h3, if_pos (Int32.le_refl (nI nl))]
    exact ⟨M, rfl, m1, m2⟩
/-- the sum over all places that aren't struck -/
def swW (W : fW) (s : Int32) (Fc : Nat → Int64) : Int32 := sumI (fun j => if j < lkN W s (FW W).length then 0 else shT W (fl W j) s Fc) (FW W).length
theorem sumI_off (g : Nat → Int32) (l q : Nat) : sumI (fun j => if j < l then 0 else g j) (l + q) = sumI (fun i => g (l + i)) q := by
  induction q with
  | zero =>
    induction l with
    | zero => rfl
    | succ l ih =>
      have : ∀ n, n ≤ l + 1 → sumI (fun j => if j < l + 1 then 0 else g j) n = 0 := by
        intro n
        induction n with
        | zero => intro _; rfl
        | succ n ih => intro h; show sumI _ n + (if n < l + 1 then (0 : Int32) else g n) = 0; rw [ih (by omega), if_pos (by omega)]; rfl
      exact this _ (Nat.le_refl _)
  | succ q ih =>
    show sumI (fun j => if j < l then 0 else g j) (l + q) + (if l + q < l then (0 : Int32) else g (l + q)) = sumI (fun i => g (l + i)) q + g (l + q)
    rw [ih, if_neg (by omega)]
theorem c_sumW {s : Int32} {Fc : Nat → Int64} (hX : LkX k E A (A 5) (T 6) (A 7) (A 8) W) (hp : W 2650 = nI (xn W) ∧ xn W ≤ 12) (hs : rg s 10 16) (hF : ∀ j, j < 11 → L 37 j = Fc j) : ∃ L', ex S (d + 4) 219 [.ref 5, .int (W 0), .int (vb s), .ref 37] (Hh k E A L T) = some (.inl (some (.int (swW W s Fc))), Hh k E A L' T) ∧ (∀ j, j < 11 → L' 37 j = Fc j) ∧ ∀ r, r ≠ 37 → L' r = L r := by
  rw [x_X9_sumHolding, g_X9_sumHolding_0]
  have hm := FW_len (W := W)
  have p2 := hp.2
  have lkl := lk_le (W := W) (s := s) (FW W).length
  simp -implicitDefEqProofs only [hc_5, c_inF hX hp, q_I, q_nr, c_lastStrike hX hp hs]
  unfold swW
  generalize hM : (FW W).length = m at *
  generalize hK : lkN W s m = l at *
  have e0 : sumI (fun j => if j < l then 0 else shT W (fl W j) s Fc) m = sumI (fun i => shT W (fl W (l + i)) s Fc) (m - l) := by
    rw [← sumI_off (fun j => shT W (fl W j) s Fc) l (m - l), show l + (m - l) = m by omega]
  rw [e0]
  refine loop_Q (α := fL × Option Value) (F := fun g i M => bd S (ex S (d + 3)) dflT E_X9_sumHolding g 19 [some (.ref 5), some (.int (W 0)), some (.int (vb s)), some (.ref 37), some (.int (nI m)), some (.int (sumI (fun i => shT W (fl W (l + i)) s Fc) i)), some (.int (nI (l + i))), M.2] [] (Hh k E A M.1 T)) (N := m - l) (P := fun i M => (∀ j, j < 11 → M.1 37 j = Fc j) ∧ ∀ r, r ≠ 37 → M.1 r = L r) (Q := fun r => ∃ L', r = some (.inl (some (.int (sumI (fun i => shT W (fl W (l + i)) s Fc) (m - l)))), Hh k E A L' T) ∧ (∀ j, j < 11 → L' 37 j = Fc j) ∧ ∀ r, r ≠ 37 → L' r = L r) ?_ ?_ (s := (L, none)) ⟨hF, fun _ _ => rfl⟩ (by omega)
  · rintro g i ⟨M, o⟩ hi ⟨m1, m2⟩
    simp only at m1 m2
    have g0 : ¬ nI m ≤ nI (l + i) := nI_ge (by omega) (by omega)
    have e : sumI (fun i => shT W (fl W (l + i)) s Fc) (i + 1) = sumI (fun i => shT W (fl W (l + i)) s Fc) i + shT W (fl W (l + i)) s Fc := rfl
    obtain ⟨f1, f2, a, b, nl, nc, f3, f4⟩ := txt_at (i := l + i) hX (by omega)
    have hc := fun M => c_tAt (S := S) (d := d + 2) (L := M) hX hp f1
    obtain ⟨M', r1, r2, r3⟩ := c_sumT (S := S) (d := d) (L := M) (T := T) (Fc := Fc) f4 (Or.inr hs) m1
    rw [g_X9_sumHolding_19]
    simp -implicitDefEqProofs only [if_neg g0, hv_5_1, hc_5, hc, q_I, an_6 (show fl W (l + i) < 12 by omega), f3, q_rf, q_iR, q_zr, tc f4.1, r1, q_nr, nI_p1]
    right
    exact ⟨(M', some (.ref a)), by rw [e]; rfl, r2, fun r hr => (r3 r hr).trans (m2 r hr)⟩
  · rintro g ⟨M, o⟩ ⟨m1, m2⟩
    simp only at m1 m2
    have e : l + (m - l) = m := by omega
    rw [g_X9_sumHolding_19]
    simp -implicitDefEqProofs only [e, if_pos (Int32.le_refl (nI m))]
    exact ⟨M, rfl, m1, m2⟩
/-- the reference's sum -/
theorem r_chL {x1 : Int32} {j : Nat} {Fc : Nat → Int64} (hX : Xw (A 40)) (hO : Od A) (hj : j < (FW (A 40)).length) (hF : ∀ q, q < 11 → L 45 q = Fc q) (g m : Nat) (hgm : g + 1 + 16 ≤ m) : ∃ L' g' o, g ≤ g' ∧ bd S (ex S (d + 4)) dflT E_X12_charges m 24 [some (.ref 39), some (.int x1), some (.int (nI j)), some (.int (nI 0))] [] (Hh k E A L T) = bd S (ex S (d + 4)) dflT E_X12_charges g' 14 [some (.ref 39), some (.int (x1 + if skN (A 40) 15 j (FW (A 40)).length = true then 0 else shT (A 40) (fl (A 40) j) 15 Fc)), some (.int (nI (j + 1))), o] [] (Hh k E A L' T) ∧ (∀ q, q < 11 → L' 45 q = Fc q) ∧ ∀ r, r ≠ 44 → L' r = L r := by
  obtain ⟨-, o2, o3, o4⟩ := od_at (k := k) (E := E) (L := L) (T := T) (κ := fun _ => none) hX hO hj
  have oa : ∀ {M : fL} {κ : Int32 → rO}, aI (Hh k E A M T) (.ref 46) 0 (nI j) κ = κ (nI (fl (A 40) j)) := fun {M κ} => (od_at hX hO hj).1
  have il : ∀ (M : fL) n, n < 16 → ex S (d + 4) 143 [.ref 39, .int (nI j), .int (nI n), .int 15] (Hh k E A M T) = _ := fun M n hn => r_isLine hX hO hj hn
  obtain ⟨f1, f2⟩ := fl_at hj
  obtain ⟨nl, nc, hw⟩ := hX.2 _ f2
  have hln := lnT_eq hw
  unfold shT
  generalize ht : fl (A 40) j = t at *
  generalize hM : (FW (A 40)).length = mm at *
  rw [hln] at o3 o4 ⊢
  obtain ⟨M, g', hg', e1, e2, e3⟩ := loop_RK (K := 1) (α := fL) (F := fun g n M => bd S (ex S (d + 4)) dflT E_X12_charges g 24 [some (.ref 39), some (.int (x1 + if skN (A 40) 15 j mm = true then 0 else sumI (shB (A 40) (tx t) 15 Fc) n)), some (.int (nI j)), some (.int (nI n))] [] (Hh k E A M T)) (N := nl) (P := fun n M => (∀ q, q < 11 → M 45 q = Fc q) ∧ ∀ r, r ≠ 44 → M r = L r) (s := L) (by
      rintro g n M hn ⟨m1, m2⟩
      have g1 : ¬ nI nl ≤ nI n := nI_ge hn (by omega)
      have e : sumI (shB (A 40) (tx t) 15 Fc) (n + 1) = sumI (shB (A 40) (tx t) 15 Fc) n + shB (A 40) (tx t) 15 Fc n := rfl
      obtain ⟨M', r1, r2, r3⟩ := r_holds (S := S) (d := d + 1) (k := k) (E := E) (A := A) (L := M) (T := T) hw (show t < 37 by omega) hn m1
      rw [g_X12_charges_24]
      simp -implicitDefEqProofs only [hv_39_15, oa, hc_39, r_lns (show t < 37 by omega), o3, q_I, if_neg g1, il M n (by omega)]
      by_cases c1 : A 40 (tx t + 2 + 6 * n) = 15 ∧ skN (A 40) 15 j mm = false
      · have c2 : ¬ skN (A 40) 15 j mm = true := by rw [c1.2]; decide
        simp -implicitDefEqProofs only [if_pos c1, i1_0, if_false, hv_39_15, oa, hc_39, r1, q_I, nI_p1, if_neg c2]
        rcases hl_c (W := A 40) (tx t) n Fc with z | z
        · have e9 : shB (A 40) (tx t) 15 Fc n = 0 := by unfold shB hm; simp [z]
          rw [z, if_pos rfl, e, e9, Int32.add_zero]
          exact ⟨M', g, Nat.le_refl _, rfl, r2, fun r hr => (r3 r hr).trans (m2 r hr)⟩
        · have e9 : shB (A 40) (tx t) 15 Fc n = A 40 (tx t + 2 + 6 * n + 1) := by unfold shB hm; simp [z, c1.1]
          rw [z, if_neg (by decide), e, e9]
          simp -implicitDefEqProofs only [hv_39_1, hv_39_15, oa, r_lat, q_I, nI_p1, an_40 (show tx t + 2 + 6 * n + 1 < 35877 by unfold tx; omega), Int32.add_assoc]
          exact ⟨M', g, Nat.le_refl _, rfl, r2, fun r hr => (r3 r hr).trans (m2 r hr)⟩
      · simp -implicitDefEqProofs only [if_neg c1, if_true, nI_p1]
        refine ⟨M, g, Nat.le_refl _, ?_, m1, m2⟩
        by_cases c2 : skN (A 40) 15 j mm = true
        · rw [if_pos c2, if_pos c2]
        · have e9 : shB (A 40) (tx t) 15 Fc n = 0 := by
            unfold shB hm
            have : ¬ A 40 (tx t + 2 + 6 * n) = 15 := fun q => c1 ⟨q, by simpa using c2⟩
            simp [this]
          rw [e, e9, Int32.add_zero]) ⟨hF, fun _ _ => rfl⟩ (g + 1) m (by omega)
  obtain ⟨g2, rfl⟩ : ∃ g2, g' = g2 + 1 := ⟨g' - 1, by omega⟩
  refine ⟨M, g2, some (.int (nI nl)), by omega, ?_, e2, e3⟩
  have e0 : (x1 + if skN (A 40) 15 j mm = true then 0 else sumI (shB (A 40) (tx t) 15 Fc) 0) = x1 := by split <;> exact Int32.add_zero x1
  simp -implicitDefEqProofs only [e0] at e1
  rw [e1, g_X12_charges_24]
  simp -implicitDefEqProofs only [hv_39_15, oa, hc_39, r_lns (show t < 37 by omega), o3, q_I, if_pos (Int32.le_refl (nI nl)), nI_p1]
theorem sk_lk {s : Int32} {i : Nat} (x : Int32) : (if skN W s i (FW W).length = true then 0 else x) = if i < lkN W s (FW W).length then 0 else x := by
  by_cases q : skN W s i (FW W).length = true
  · rw [if_pos q, if_pos (lk_sk.mp q)]
  · rw [if_neg q, if_neg (fun r => q (lk_sk.mpr r))]
theorem r_chB {Fc : Nat → Int64} (hX : Xw (A 40)) (hO : Od A) (hF : ∀ q, q < 11 → L 45 q = Fc q) : ∃ L', bd S (ex S (d + 4)) dflT E_X12_charges 99999 14 [some (.ref 39), some (.int 0), some (.int 0), none] [] (Hh k E A L T) = some (.inl (some (.int (swW (A 40) 15 Fc))), Hh k E A L' T) ∧ (∀ q, q < 11 → L' 45 q = Fc q) ∧ ∀ r, r ≠ 44 → L' r = L r := by
  have hl := FW_len (W := A 40)
  have h12 := hX.1
  have e16 := hO.2
  refine loop_QK (K := 20) (α := fL × Option Value) (F := fun g j M => bd S (ex S (d + 4)) dflT E_X12_charges g 14 [some (.ref 39), some (.int (sumI (fun j => if j < lkN (A 40) 15 (FW (A 40)).length then 0 else shT (A 40) (fl (A 40) j) 15 Fc) j)), some (.int (nI j)), M.2] [] (Hh k E A M.1 T)) (N := (FW (A 40)).length) (P := fun j M => (∀ q, q < 11 → M.1 45 q = Fc q) ∧ ∀ r, r ≠ 44 → M.1 r = L r) (Q := fun r => ∃ L', r = some (.inl (some (.int (swW (A 40) 15 Fc))), Hh k E A L' T) ∧ (∀ q, q < 11 → L' 45 q = Fc q) ∧ ∀ r, r ≠ 44 → L' r = L r) ?_ ?_ (s := (L, none)) ⟨hF, fun _ _ => rfl⟩ (by omega)
  · rintro g j ⟨M, o⟩ hj ⟨m1, m2⟩
    simp only at m1 m2
    have g0 : ¬ nI (FW (A 40)).length ≤ nI j := nI_ge hj (by omega)
    rw [show g + 20 = (g + 19) + 1 from rfl, g_X12_charges_14]
    simp -implicitDefEqProofs only [hg_39_16, e16, if_neg g0]
    obtain ⟨L', g', o', hg', h1, h3, h4⟩ := r_chL (S := S) (d := d) (k := k) (E := E) (A := A) (L := M) (T := T) (x1 := sumI (fun j => if j < lkN (A 40) 15 (FW (A 40)).length then 0 else shT (A 40) (fl (A 40) j) 15 Fc) j) (Fc := Fc) hX hO hj m1 g (g + 19) (by omega)
    rw [sk_lk] at h1
    right
    exact ⟨(L', o'), g', hg', h1, h3, fun r hr => (h4 r hr).trans (m2 r hr)⟩
  · rintro g ⟨M, o⟩ ⟨m1, m2⟩
    simp only at m1 m2
    rw [show g + 20 = (g + 19) + 1 from rfl, g_X12_charges_14]
    simp -implicitDefEqProofs only [hg_39_16, e16, if_pos (Int32.le_refl (nI (FW (A 40)).length))]
    exact ⟨M, rfl, m1, m2⟩
def chW (W : fW) : Int32 := swW W 15 (fc0 W (W 1) 0)
theorem r_charges (hI : Iv c (A 40)) : ∃ B L', ex S (d + 5) 252 [.ref 39] (Hh k E A L T) = some (.inl (some (.int (chW (A 40)))), Hh k E B L' T) ∧ Fo A B ∧ ∀ r, r ≠ 44 → r ≠ 45 → L' r = L r := by
  obtain ⟨B, e1, hO, hFo⟩ := r_ord (S := S) (d := d + 2) (k := k) (E := E) (L := L) (T := T) (hp_of hI)
  have e40 : B 40 = A 40 := hFo.1 40 (by decide) (by decide)
  obtain ⟨L1, e2, e3, e4⟩ := r_looksN (S := S) (d := d + 1) (k := k) (E := E) (L := L) (T := T) (A := B) (by rw [e40]; exact pr_of hI)
  obtain ⟨L2, e5, e6, e7⟩ := r_chB (S := S) (d := d) (k := k) (E := E) (A := B) (L := L1) (T := T) (by rw [e40]; exact Xw_of hI) hO e3
  refine ⟨B, L2, ?_, hFo, fun r r1 r2 => (e7 r r1).trans (e4 r r2)⟩
  rw [e40] at e5
  rw [x_X12_charges, g_X12_charges_0]
  simp -implicitDefEqProofs only [hc_39, e1, q_U, e2, e5]
  rfl
theorem c_charges (hI : Iv c W) (h0 : LkA 4 k E A T W) (h36 : A 36 0 = 0 ∧ A 36 5 = 0) : ∃ L', ex S (d + 5) 220 [.ref 4] (Hh k E A L T) = some (.inl (some (.int (chW W))), Hh k E (upR A 36 (prR W (A 36) (pn W))) L' T) := by
  obtain ⟨⟨m0, -⟩, -, -⟩ : LkG (A 22) (A 23) (A 24) (A 25) (A 26) W := h0.2.2.2.1
  obtain ⟨L1, e1, e2, e3⟩ := c_learnF (S := S) (d := d + 1) (k := k) (E := E) (L := L) (T := T) (x := W 1) (y := 0) h0.1 h0.2.2.1 hI.2.2.2.1 h36
  have h1 : LkA 4 k E (upR A 36 (prR W (A 36) (pn W))) T W := Lk_36 h0
  generalize upR A 36 (prR W (A 36) (pn W)) = B at *
  obtain ⟨L3, g1, g2, g3⟩ := c_sumW (S := S) (d := d) (k := k) (E := E) (A := B) (L := L1) (T := T) (W := W) (s := 15) h1.2.2.2.2.2.2.2 (hp_of hI) (by unfold rg; decide) e2
  have hs7 : B 4 7 = W 0 := h1.1
  rw [show vb 15 = 22 by decide] at g1
  refine ⟨L3, ?_⟩
  simp -implicitDefEqProofs only [x_X0_chargesNow, g_X0_chargesNow_0, hc_4, x_X0_learnFactsOfEstate, g_X0_learnFactsOfEstate_0, hv_4_4, hg_22_0, m0, e1, q_U, hv_4_0, hg_4_7, hs7, hv_4_9, hc_5, g1, q_I]
  rfl
end SumB
