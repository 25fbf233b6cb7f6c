/-! the first line that holds, in the reference; a field's line -/
section FirstC
variable {S : sT} {d c : Nat} {k : Value} {E : List dsc} {A : fA} {L : fL} {T : fT} {W : fW}
theorem fnd_c (p : Nat → Bool) (m i : Nat) : (fnd p m i = -1 ∧ ∀ j, i ≤ j → j < i + m → p j = false) ∨ ∃ j, i ≤ j ∧ j < i + m ∧ fnd p m i = nI j ∧ p j = true := by
  induction m generalizing i with
  | zero => exact Or.inl ⟨rfl, fun j h1 h2 => by omega⟩
  | succ m ih =>
    unfold fnd
    by_cases q : p i = true
    · rw [if_pos q]; exact Or.inr ⟨i, Nat.le_refl _, by omega, rfl, q⟩
    · rw [if_neg q]
      rcases ih (i + 1) with ⟨h1, h2⟩ | ⟨j, h1, h2, h3, h4⟩
      · exact Or.inl ⟨h1, fun j j1 j2 => by by_cases e : j = i
                                            · rw [e]; simpa using q
                                            · exact h2 j (by omega) (by omega)⟩
      · exact Or.inr ⟨j, by omega, by omega, h3, h4⟩
/-- the inner loop over a text's lines -/
theorem r_firstL {x2 s : Int32} {j : Nat} {Fc : Nat → Int64} (hX : Xw (A 40)) (hO : Od A) (hj : j < (FW (A 40)).length) (hF : ∀ q, q < 11 → L 45 q = Fc q) (g m : Nat) (hgm : g + 1 + 16 ≤ m) : (∃ L', bd S (ex S (d + 4)) dflT E_X12_firstLine m 23 [some (.ref 39), some (.int s), some (.int x2), some (.int (nI j)), some (.int (nI 0))] [] (Hh k E A L T) = some (.inl (some (.int (16 * nI (fl (A 40) j) + fhT (A 40) (fl (A 40) j) s Fc))), Hh k E A L' T) ∧ (skN (A 40) s j (FW (A 40)).length = false ∧ ¬ fhT (A 40) (fl (A 40) j) s Fc = -1) ∧ (∀ q, q < 11 → L' 45 q = Fc q) ∧ ∀ r, r ≠ 44 → L' r = L r)
    ∨ (¬ (skN (A 40) s j (FW (A 40)).length = false ∧ ¬ fhT (A 40) (fl (A 40) j) s Fc = -1) ∧ ∃ L' g' o, g ≤ g' ∧ bd S (ex S (d + 4)) dflT E_X12_firstLine m 23 [some (.ref 39), some (.int s), some (.int x2), some (.int (nI j)), some (.int (nI 0))] [] (Hh k E A L T) = bd S (ex S (d + 4)) dflT E_X12_firstLine g' 12 [some (.ref 39), some (.int s), some (.int x2), some (.int (nI (j + 1))), o] [] (Hh k E A L' T) ∧ (∀ q, q < 11 → L' 45 q = Fc q) ∧ ∀ r, r ≠ 44 → L' r = L r) := by
  obtain ⟨-, o2, o3, o4⟩ := od_at (k := k) (E := E) (L := L) (T := T) (κ := fun _ => none) hX hO hj
  have oa : ∀ {M : fL} {κ : Int32 → rO}, aI (Hh k E A M T) (.ref 46) 0 (nI j) κ = κ (nI (fl (A 40) j)) := fun {M κ} => (od_at hX hO hj).1
  have il : ∀ (M : fL) n, n < 16 → ex S (d + 4) 143 [.ref 39, .int (nI j), .int (nI n), .int s] (Hh k E A M T) = _ := fun M n hn => r_isLine hX hO hj hn
  obtain ⟨f1, f2⟩ := fl_at hj
  obtain ⟨nl, nc, hw⟩ := hX.2 _ f2
  have hln := lnT_eq hw
  unfold fhT
  generalize ht : fl (A 40) j = t at *
  generalize hM : (FW (A 40)).length = mm at *
  rw [hln] at o3 o4 ⊢
  rcases loop_QR (K := 1) (α := fL) (F := fun g n M => bd S (ex S (d + 4)) dflT E_X12_firstLine g 23 [some (.ref 39), some (.int s), some (.int x2), some (.int (nI j)), some (.int (nI n))] [] (Hh k E A M T)) (N := nl) (P := fun n M => (skN (A 40) s j mm = false → fnd (hm (A 40) (tx t) s Fc) nl 0 = fnd (hm (A 40) (tx t) s Fc) (nl - n) n) ∧ (∀ q, q < 11 → M 45 q = Fc q) ∧ ∀ r, r ≠ 44 → M r = L r) (Q := fun r => ∃ L', r = some (.inl (some (.int (16 * nI t + fnd (hm (A 40) (tx t) s Fc) nl 0))), Hh k E A L' T) ∧ (skN (A 40) s j mm = false ∧ ¬ fnd (hm (A 40) (tx t) s Fc) nl 0 = -1) ∧ (∀ q, q < 11 → L' 45 q = Fc q) ∧ ∀ r, r ≠ 44 → L' r = L r) (s := L) (by
      rintro g n M hn ⟨hp, m1, m2⟩
      have g1 : ¬ nI nl ≤ nI n := nI_ge hn (by omega)
      obtain ⟨q, hq⟩ : ∃ q, nl - n = q + 1 := ⟨nl - n - 1, by omega⟩
      rw [hq] at hp
      rw [show nl - (n + 1) = q by omega]
      have e : fnd (hm (A 40) (tx t) s Fc) (q + 1) n = if hm (A 40) (tx t) s Fc n = true then nI n else fnd (hm (A 40) (tx t) s Fc) q (n + 1) := rfl
      rw [e] at hp
      obtain ⟨M', r1, r2, r3⟩ := r_holds (S := S) (d := d + 1) (k := k) (E := E) (A := A) (L := M) (T := T) hw (show t < 37 by omega) hn m1
      rw [g_X12_firstLine_23]
      simp -implicitDefEqProofs only [hv_39_15, oa, hc_39, r_lns (show t < 37 by omega), o3, q_I, if_neg g1, il M n (by omega)]
      by_cases c1 : A 40 (tx t + 2 + 6 * n) = s ∧ skN (A 40) s j mm = false
      · have hp := hp c1.2
        simp -implicitDefEqProofs only [if_pos c1, i1_0, if_false, hv_39_15, oa, hc_39, r1, q_I, nI_p1]
        rcases hl_c (W := A 40) (tx t) n Fc with z | z
        · have e1 : ¬ hm (A 40) (tx t) s Fc n = true := by unfold hm; simp [z]
          rw [if_neg e1] at hp
          right
          rw [z, if_pos rfl]
          exact ⟨M', g, Nat.le_refl _, rfl, fun _ => hp, r2, fun r hr => (r3 r hr).trans (m2 r hr)⟩
        · have e1 : hm (A 40) (tx t) s Fc n = true := by unfold hm; simp [z, c1.1]
          rw [if_pos e1] at hp
          left
          rw [z, if_neg (by decide), hp]
          exact ⟨M', rfl, ⟨c1.2, nI_m1 (by omega)⟩, r2, fun r hr => (r3 r hr).trans (m2 r hr)⟩
      · simp -implicitDefEqProofs only [if_neg c1, if_true, nI_p1]
        right
        refine ⟨M, g, Nat.le_refl _, rfl, fun hk => ?_, m1, m2⟩
        have e1 : ¬ hm (A 40) (tx t) s Fc n = true := by
          unfold hm
          have : ¬ A 40 (tx t + 2 + 6 * n) = s := fun q => c1 ⟨q, hk⟩
          simp [this]
        have := hp hk
        rw [if_neg e1] at this
        exact this) ⟨fun _ => rfl, hF, fun _ _ => rfl⟩ (g + 1) m (by omega) with h | ⟨M, g', hg', e1, e2, e3, e4⟩
  · left; exact h
  · right
    refine ⟨?_, ?_⟩
    · rintro ⟨h1, h2⟩
      have := e2 h1
      rw [Nat.sub_self] at this
      exact h2 this
    · obtain ⟨g2, rfl⟩ : ∃ g2, g' = g2 + 1 := ⟨g' - 1, by omega⟩
      refine ⟨M, g2, some (.int (nI nl)), by omega, ?_, e3, e4⟩
      rw [e1, g_X12_firstLine_23]
      simp -implicitDefEqProofs only [hv_39_15, oa, hc_39, r_lns (show t < 37 by omega), o3, q_I, if_pos (Int32.le_refl (nI nl)), nI_p1]
theorem r_firstB {x2 s : Int32} {Fc : Nat → Int64} (hX : Xw (A 40)) (hO : Od A) (hF : ∀ q, q < 11 → L 45 q = Fc q) : ∃ L', bd S (ex S (d + 4)) dflT E_X12_firstLine 99999 12 [some (.ref 39), some (.int s), some (.int x2), some (.int 0), none] [] (Hh k E A L T) = some (.inl (some (.int (flW (A 40) s Fc))), Hh k E A L' T) ∧ (∀ q, q < 11 → L' 45 q = Fc q) ∧ ∀ r, r ≠ 44 → L' r = L r := by
  have hl := FW_len (W := A 40)
  have h12 := hX.1
  have e16 := hO.2
  rw [← fr_fl]
  generalize hM : (FW (A 40)).length = m at *
  refine loop_QK (K := 20) (α := fL × Option Value) (F := fun g j M => bd S (ex S (d + 4)) dflT E_X12_firstLine g 12 [some (.ref 39), some (.int s), some (.int x2), some (.int (nI j)), M.2] [] (Hh k E A M.1 T)) (N := m) (P := fun j M => frN2 (A 40) s Fc m 0 = frN2 (A 40) s Fc (m - j) j ∧ (∀ q, q < 11 → M.1 45 q = Fc q) ∧ ∀ r, r ≠ 44 → M.1 r = L r) (Q := fun r => ∃ L', r = some (.inl (some (.int (frN2 (A 40) s Fc m 0))), Hh k E A L' T) ∧ (∀ q, q < 11 → L' 45 q = Fc q) ∧ ∀ r, r ≠ 44 → L' r = L r) ?_ ?_ (s := (L, none)) ⟨rfl, hF, fun _ _ => rfl⟩ (by omega)
  · rintro g j ⟨M, o⟩ hj ⟨hp, m1, m2⟩
    simp only at hp m1 m2
    have g0 : ¬ nI m ≤ nI j := nI_ge hj (by omega)
    obtain ⟨q, hq⟩ : ∃ q, m - j = q + 1 := ⟨m - j - 1, by omega⟩
    rw [hq] at hp
    rw [show m - (j + 1) = q by omega]
    have e : frN2 (A 40) s Fc (q + 1) j = if skN (A 40) s j (FW (A 40)).length = false ∧ ¬ fhT (A 40) (fl (A 40) j) s Fc = -1 then 16 * nI (fl (A 40) j) + fhT (A 40) (fl (A 40) j) s Fc else frN2 (A 40) s Fc q (j + 1) := rfl
    rw [e] at hp
    rw [show g + 20 = (g + 19) + 1 from rfl, g_X12_firstLine_12]
    simp -implicitDefEqProofs only [hg_39_16, e16, if_neg g0]
    rcases r_firstL (S := S) (d := d) (k := k) (E := E) (A := A) (L := M) (T := T) (x2 := x2) (s := s) (Fc := Fc) hX hO (j := j) (by omega) m1 g (g + 19) (by omega) with ⟨L', h1, h2, h3, h4⟩ | ⟨h2, L', g', o', hg', h1, h3, h4⟩
    · rw [if_pos h2] at hp
      left
      refine ⟨L', ?_, h3, fun r hr => (h4 r hr).trans (m2 r hr)⟩
      rw [hp]; exact h1
    · rw [if_neg h2] at hp
      right
      exact ⟨(L', o'), g', hg', h1, hp, h3, fun r hr => (h4 r hr).trans (m2 r hr)⟩
  · rintro g ⟨M, o⟩ ⟨hp, m1, m2⟩
    simp only at hp m1 m2
    rw [Nat.sub_self] at hp
    rw [show g + 20 = (g + 19) + 1 from rfl, g_X12_firstLine_12]
    simp -implicitDefEqProofs only [hg_39_16, e16, if_pos (Int32.le_refl (nI m))]
    exact ⟨M, by rw [hp]; rfl, m1, m2⟩
/-- the first line that holds for a field -/
def fF (W : fW) (s : Int32) (f : Nat) : Int32 := flW W s (fcF W f (fc0 W (W 1) 0))
def fE (W : fW) (s : Int32) : Int32 := flW W s (fc0 W (W 1) 0)
theorem pr_of {c : Nat} (hI : Iv c W) : W 882 = nI (pn W) ∧ pn W ≤ 200 := ⟨hI.2.2.2.1.1, hI.2.2.2.1.2.1⟩
theorem r_firstF {s : Int32} {f : Nat} (hI : Iv c (A 40)) (hf : f < 48) : ∃ B L', ex S (d + 5) 292 [.ref 39, .int s, .int (nI f)] (Hh k E A L T) = some (.inl (some (.int (fF (A 40) s f))), Hh k E B L' T) ∧ Fo A B ∧ ∀ r, r ≠ 44 → r ≠ 45 → L' r = L r := by
  obtain ⟨B, e1, hO, hFo⟩ := r_ord (S := S) (d := d + 2) (k := k) (E := E) (L := L) (T := T) (hp_of hI)
  have e40 : B 40 = A 40 := hFo.1 40 (by decide) (by decide)
  obtain ⟨L1, e2, e3, e4⟩ := r_looksF (S := S) (d := d + 1) (k := k) (E := E) (L := L) (T := T) (A := B) hf (by rw [e40]; exact pr_of hI)
  obtain ⟨L2, e5, e6, e7⟩ := r_firstB (S := S) (d := d) (k := k) (E := E) (A := B) (L := L1) (T := T) (x2 := nI f) (s := s) (by rw [e40]; exact Xw_of hI) hO e3
  refine ⟨B, L2, ?_, hFo, fun r r1 r2 => (e7 r r1).trans (e4 r r2)⟩
  rw [e40] at e5
  rw [x_X12_firstLine, g_X12_firstLine_0]
  simp -implicitDefEqProofs only [hc_39, e1, q_U, e2, e5]
  rfl
theorem r_firstE {s : Int32} (hI : Iv c (A 40)) : ∃ B L', ex S (d + 5) 292 [.ref 39, .int s, .int (-1)] (Hh k E A L T) = some (.inl (some (.int (fE (A 40) s))), Hh k E B L' T) ∧ Fo A B ∧ ∀ r, r ≠ 44 → r ≠ 45 → L' r = L r := by
  obtain ⟨B, e1, hO, hFo⟩ := r_ord (S := S) (d := d + 2) (k := k) (E := E) (L := L) (T := T) (hp_of hI)
  have e40 : B 40 = A 40 := hFo.1 40 (by decide) (by decide)
  obtain ⟨L1, e2, e3, e4⟩ := r_looksN (S := S) (d := d + 1) (k := k) (E := E) (L := L) (T := T) (A := B) (by rw [e40]; exact pr_of hI)
  obtain ⟨L2, e5, e6, e7⟩ := r_firstB (S := S) (d := d) (k := k) (E := E) (A := B) (L := L1) (T := T) (x2 := -1) (s := s) (by rw [e40]; exact Xw_of hI) hO e3
  refine ⟨B, L2, ?_, hFo, fun r r1 r2 => (e7 r r1).trans (e4 r r2)⟩
  rw [e40] at e5
  rw [x_X12_firstLine, g_X12_firstLine_0]
  simp -implicitDefEqProofs only [hc_39, e1, q_U, e2, e5]
  rfl
/-- the class learns, and looks -/
theorem Lk_36 {p : Nat → Int32} (h0 : LkA 4 k E A T W) : LkA 4 k E (upR A 36 p) T W := by
  refine LkA_A h0 (fun i hi => ?_) (fun r hr => ?_)
  · have : 4 + i ≠ 36 := by omega
    simp [upR, this]
  · have h9 := hr.1
    have : r ≠ 36 := by omega
    simp [upR, this]
theorem Fr_36 {n : Nat} : Fr A (upR A 36 (prR W (A 36) n)) := by
  refine ⟨fun r hr => ?_, ?_, ?_⟩
  · have : r ≠ 36 := by omega
    simp [upR, this]
  · simp [upR, prR]
  · simp [upR, prR]
theorem c_lets {s : Int32} {f : Nat} (hI : Iv c W) (h0 : LkA 4 k E A T W) (h36 : A 36 0 = 0 ∧ A 36 5 = 0) (hs : rg s 10 16) (hf : f < 48) : ∃ L', ex S (d + 5) 286 [.ref 4, .int (vb s), .int (nI f)] (Hh k E A L T) = some (.inl (some (.int (fF W s f))), Hh k E (upR A 36 (prR W (A 36) (pn W))) L' T) := by
  obtain ⟨⟨m0, -⟩, -, -⟩ : LkG (A 22) (A 23) (A 24) (A 25) (A 26) W := h0.2.2.2.1
  obtain ⟨L1, e1, e2, e3⟩ := c_learnF (S := S) (d := d + 1) (k := k) (E := E) (L := L) (T := T) (x := W 1) (y := 0) h0.1 h0.2.2.1 hI.2.2.2.1 h36
  have h1 : LkA 4 k E (upR A 36 (prR W (A 36) (pn W))) T W := Lk_36 h0
  generalize upR A 36 (prR W (A 36) (pn W)) = B at *
  obtain ⟨L2, f1, f2, f3⟩ := c_learnFF (S := S) (d := d + 1) (k := k) (E := E) (A := B) (L := L1) (T := T) (W := W) h1.2.1 hf e2
  obtain ⟨L3, g1, g2, g3⟩ := c_firstW (S := S) (d := d) (k := k) (E := E) (A := B) (L := L2) (T := T) (W := W) (s := s) h1.2.2.2.2.2.2.2 (hp_of hI) hs f2
  have hs7 : B 4 7 = W 0 := h1.1
  refine ⟨L3, ?_⟩
  simp -implicitDefEqProofs only [x_X0_lineThatLets, g_X0_lineThatLets_0, hc_4, x_X0_learnFactsOfEstate, g_X0_learnFactsOfEstate_0, hv_4_4, hg_22_0, m0, e1, q_U, f1, hv_4_0, hg_4_7, hs7, hv_4_9, hc_5, g1, q_I]
  rfl
theorem c_firstCh (hI : Iv c W) (h0 : LkA 4 k E A T W) (h36 : A 36 0 = 0 ∧ A 36 5 = 0) : ∃ L', ex S (d + 5) 294 [.ref 4] (Hh k E A L T) = some (.inl (some (.int (fE W 15))), Hh k E (upR A 36 (prR W (A 36) (pn W))) L' T) := by
  obtain ⟨⟨m0, -⟩, -, -⟩ : LkG (A 22) (A 23) (A 24) (A 25) (A 26) W := h0.2.2.2.1
  obtain ⟨L1, e1, e2, e3⟩ := c_learnF (S := S) (d := d + 1) (k := k) (E := E) (L := L) (T := T) (x := W 1) (y := 0) h0.1 h0.2.2.1 hI.2.2.2.1 h36
  have h1 : LkA 4 k E (upR A 36 (prR W (A 36) (pn W))) T W := Lk_36 h0
  generalize upR A 36 (prR W (A 36) (pn W)) = B at *
  obtain ⟨L3, g1, g2, g3⟩ := c_firstW (S := S) (d := d) (k := k) (E := E) (A := B) (L := L1) (T := T) (W := W) (s := 15) h1.2.2.2.2.2.2.2 (hp_of hI) (by unfold rg; decide) e2
  have hs7 : B 4 7 = W 0 := h1.1
  rw [show vb 15 = 22 by decide] at g1
  refine ⟨L3, ?_⟩
  simp -implicitDefEqProofs only [x_X0_firstCharge, g_X0_firstCharge_0, hc_4, x_X0_learnFactsOfEstate, g_X0_learnFactsOfEstate_0, hv_4_4, hg_22_0, m0, e1, q_U, hv_4_0, hg_4_7, hs7, hv_4_9, hc_5, g1, q_I]
  rfl
end FirstC
