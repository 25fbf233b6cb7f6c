/-! the words, in the reference -/
section WordsC
variable {S : sT} {d c : Nat} {k : Value} {E : List dsc} {A : fA} {L : fL} {T : fT} {W : fW}
/-- the reference's order stands -/
def Od (A : fA) : Prop := Ob A (FW (A 40)) ∧ A 39 16 = nI (FW (A 40)).length
/-- only the reference's order has changed -/
def Fo (A B : fA) : Prop := (∀ r, r ≠ 39 → r ≠ 46 → B r = A r) ∧ ∀ j, j ≠ 16 → B 39 j = A 39 j
theorem Fo_g {A B : fA} (h : Fo A B) : Fg A B := ⟨fun r hr => h.1 r (by omega) (by omega), h.2 0 (by decide), h.2 3 (by decide), h.2 5 (by decide), h.2 10 (by decide)⟩
theorem r_ord (hp : A 40 2650 = nI (xn (A 40)) ∧ xn (A 40) ≤ 12) : ∃ B, ex S (d + 2) 140 [.ref 39] (Hh k E A L T) = some (.inl none, Hh k E B L T) ∧ Od B ∧ Fo A B := by
  obtain ⟨B, e1, e2, e3, e4⟩ := r_orders (S := S) (d := d) (k := k) (E := E) (L := L) (T := T) hp
  have e40 : B 40 = A 40 := e4 40 (by decide) (by decide)
  refine ⟨B, e1, ⟨by rw [e40]; exact e2, by rw [e3, upd_s, e40]⟩, e4, fun j hj => by rw [e3, upd_o hj]⟩
/-- what of the world the words need -/
def Xw (W : fW) : Prop := xn W ≤ 12 ∧ ∀ t, t < xn W → ∃ nl nc, WT W (tx t) nl nc
theorem Xw_of {c : Nat} (hI : Iv c W) : Xw W := ⟨hI.2.2.2.2.2.2.2.2.2.2.2.1, fun t ht => by obtain ⟨-, nl, nc, h, -⟩ := hI.2.2.2.2.2.2.2.2.2.2.2.2 t ht; exact ⟨nl, nc, h⟩⟩
theorem fl_at {i : Nat} (hi : i < (FW W).length) : (FW W)[i]? = some (fl W i) ∧ fl W i < xn W := by
  obtain ⟨t, e1, e2, e3⟩ := FW_at hi
  have e : fl W i = t := by unfold fl; rw [List.getD_eq_getElem?_getD, e1]; rfl
  rw [e]; exact ⟨e1, e2⟩
theorem od_at {i : Nat} (hX : Xw (A 40)) (hO : Od A) (hi : i < (FW (A 40)).length) {κ : Int32 → rO} : aI (Hh k E A L T) (.ref 46) 0 (nI i) κ = κ (nI (fl (A 40) i)) ∧ fl (A 40) i < 12 ∧ A 40 (tx (fl (A 40) i) + 1) = nI (lnT (A 40) (fl (A 40) i)) ∧ lnT (A 40) (fl (A 40) i) ≤ 16 := by
  obtain ⟨e1, e2⟩ := fl_at hi
  have hl := FW_len (W := A 40)
  have h1 := hX.1
  obtain ⟨nl, nc, h⟩ := hX.2 _ e2
  have e3 := lnT_eq h
  refine ⟨?_, by omega, by rw [e3]; exact h.1, by rw [e3]; exact h.2.1⟩
  rw [an_46 (by omega), hO.1 i _ e1]
theorem r_struck {i : Nat} {s : Int32} (hX : Xw (A 40)) (hO : Od A) (hi : i < (FW (A 40)).length) : ex S (d + 3) 142 [.ref 39, .int (nI i), .int s] (Hh k E A L T) = some (.inl (some (.int (if skN (A 40) s i (FW (A 40)).length = true then 1 else 0))), Hh k E A L T) := by
  have hl := FW_len (W := A 40)
  have h12 := hX.1
  rw [x_X12_isStruck, g_X12_isStruck_0, nI_p1]
  have e16 := hO.2
  generalize hM : (FW (A 40)).length = m at *
  have sk0 : ∀ j, j ≤ i + 1 → skN (A 40) s i j = false := by
    intro j hj
    cases q : skN (A 40) s i j with
    | false => rfl
    | true => obtain ⟨p, h1, h2, -⟩ := skN_iff.mp q; omega
  refine loop_QK (K := 20) (α := Option Value) (F := fun g j o => bd S (ex S (d + 2)) dflT E_X12_isStruck g 7 [some (.ref 39), some (.int (nI i)), some (.int s), some (.int (if skN (A 40) s i (i + 1 + j) = true then 1 else 0)), some (.int (nI (i + 1 + j))), o] [] (Hh k E A L T)) (N := m - (i + 1)) (P := fun _ _ => True) (Q := fun r => r = some (.inl (some (.int (if skN (A 40) s i m = true then 1 else 0))), Hh k E A L T)) ?_ ?_ (s := none) (m := 99999) trivial (by omega) |> (fun h => by
    rw [show i + 1 + 0 = i + 1 from rfl, sk0 (i + 1) (Nat.le_refl _)] at h
    exact h)
  · intro g j o hj _
    right
    have g0 : ¬ nI m ≤ nI (i + 1 + j) := nI_ge (by omega) (by omega)
    rw [show g + 20 = (g + 19) + 1 from rfl, g_X12_isStruck_7]
    simp -implicitDefEqProofs only [hg_39_16, e16, if_neg g0]
    obtain ⟨o1, o2, o3, o4⟩ := od_at (k := k) (E := E) (L := L) (T := T) (κ := fun _ => none) hX hO (i := i + 1 + j) (by omega)
    have oa : ∀ {κ : Int32 → rO}, aI (Hh k E A L T) (.ref 46) 0 (nI (i + 1 + j)) κ = κ (nI (fl (A 40) (i + 1 + j))) := fun {κ} => (od_at hX hO (by omega)).1
    generalize ht : fl (A 40) (i + 1 + j) = t at *
    obtain ⟨z, g', hg', e1, e2⟩ := loop_RK (K := 1) (α := Unit) (F := fun g n _ => bd S (ex S (d + 2)) dflT E_X12_isStruck g 19 [some (.ref 39), some (.int (nI i)), some (.int s), some (.int (if (skN (A 40) s i (i + 1 + j) || stN (A 40) t s n) = true then 1 else 0)), some (.int (nI (i + 1 + j))), some (.int (nI n))] [] (Hh k E A L T)) (N := lnT (A 40) t) (P := fun _ _ => True) (s := ()) (by
      intro g n _ hn _
      refine ⟨(), g, Nat.le_refl _, ?_, trivial⟩
      have g1 : ¬ nI (lnT (A 40) t) ≤ nI n := nI_ge hn (by omega)
      have e : stN (A 40) t s (n + 1) = (stN (A 40) t s n || (decide (A 40 (tx t + 2 + 6 * n) = 16) && decide (A 40 (tx t + 2 + 6 * n + 2) = s))) := rfl
      rw [g_X12_isStruck_19]
      simp -implicitDefEqProofs only [hv_39_15, oa, hc_39, r_lns (show t < 37 by omega), o3, q_I, if_neg g1, hv_39_1, r_lat, an_40 (show tx t + 2 + 6 * n < 35877 by unfold tx; omega), nI_p2, an_40 (show tx t + 2 + 6 * n + 2 < 35877 by unfold tx; omega), nI_p1, e]
      by_cases q : (skN (A 40) s i (i + 1 + j) || stN (A 40) t s n) = true
      · have q' : (skN (A 40) s i (i + 1 + j) || (stN (A 40) t s n || (decide (A 40 (tx t + 2 + 6 * n) = 16) && decide (A 40 (tx t + 2 + 6 * n + 2) = s)))) = true := by rw [← Bool.or_assoc, q]; rfl
        simp -implicitDefEqProofs only [if_pos q, if_pos q', i1_0, if_false]
      · have qf : (skN (A 40) s i (i + 1 + j) || stN (A 40) t s n) = false := by simpa using q
        simp -implicitDefEqProofs only [if_neg q, if_true]
        rw [← Bool.or_assoc, qf, Bool.false_or]
        by_cases c1 : A 40 (tx t + 2 + 6 * n) = 16
        · by_cases c2 : A 40 (tx t + 2 + 6 * n + 2) = s
          · rw [if_pos c1, if_pos c2, if_pos (by simp [c1, c2])]
          · rw [if_pos c1, if_neg c2, if_neg (by simp [c2])]
        · rw [if_neg c1, if_neg (by simp [c1])]) trivial (g + 1) (g + 19) (by omega)
    obtain ⟨g2, rfl⟩ : ∃ g2, g' = g2 + 1 := ⟨g' - 1, by omega⟩
    have e0 : (skN (A 40) s i (i + 1 + j) || stN (A 40) t s 0) = skN (A 40) s i (i + 1 + j) := by simp [stN]
    have e9 : skN (A 40) s i (i + 1 + j + 1) = (skN (A 40) s i (i + 1 + j) || stN (A 40) t s (lnT (A 40) t)) := by
      show (skN (A 40) s i (i + 1 + j) || (decide (i < i + 1 + j) && stT (A 40) (fl (A 40) (i + 1 + j)) s)) = _
      rw [ht]
      have : i < i + 1 + j := by omega
      simp [this, stT]
    simp -implicitDefEqProofs only [e0] at e1
    rw [show bd S (ex S (d + 2)) dflT E_X12_isStruck (g + 19) 19 [some (.ref 39), some (.int (nI i)), some (.int s), some (.int (if skN (A 40) s i (i + 1 + j) = true then 1 else 0)), some (.int (nI (i + 1 + j))), some (.int 0)] [] (Hh k E A L T) = _ from e1, g_X12_isStruck_19]
    simp -implicitDefEqProofs only [hv_39_15, oa, hc_39, r_lns (show t < 37 by omega), o3, q_I, if_pos (Int32.le_refl (nI (lnT (A 40) t))), nI_p1]
    refine ⟨some (.int (nI (lnT (A 40) t))), g2, by omega, ?_, trivial⟩
    rw [show i + 1 + (j + 1) = i + 1 + j + 1 by omega, e9]
  · intro g o _
    have e : i + 1 + (m - (i + 1)) = m := by omega
    rw [show g + 20 = (g + 19) + 1 from rfl, g_X12_isStruck_7]
    simp -implicitDefEqProofs only [hg_39_16, e16, e, if_pos (Int32.le_refl (nI m))]
    split
    · rw [q_z1]
    · rw [q_z0]
theorem r_isLine {i n : Nat} {s : Int32} (hX : Xw (A 40)) (hO : Od A) (hi : i < (FW (A 40)).length) (hn : n < 16) : ex S (d + 4) 143 [.ref 39, .int (nI i), .int (nI n), .int s] (Hh k E A L T) = some (.inl (some (.int (if A 40 (tx (fl (A 40) i) + 2 + 6 * n) = s ∧ skN (A 40) s i (FW (A 40)).length = false then 1 else 0))), Hh k E A L T) := by
  have oa : ∀ {κ : Int32 → rO}, aI (Hh k E A L T) (.ref 46) 0 (nI i) κ = κ (nI (fl (A 40) i)) := fun {κ} => (od_at hX hO hi).1
  have o2 := (od_at (k := k) (E := E) (L := L) (T := T) (κ := fun _ => none) hX hO hi).2.1
  simp -implicitDefEqProofs only [x_X12_isLine, g_X12_isLine_0, hv_39_1, hv_39_15, oa, r_lat, q_I, an_40 (show tx (fl (A 40) i) + 2 + 6 * n < 35877 by unfold tx; omega), hc_39, r_struck hX hO hi]
  by_cases c1 : A 40 (tx (fl (A 40) i) + 2 + 6 * n) = s
  · rw [if_pos c1]
    cases q : skN (A 40) s i (FW (A 40)).length with
    | true =>
      rw [if_pos rfl, if_neg (by decide), q_z0, if_neg (by simp)]
    | false =>
      rw [if_neg (show ¬ (false = true) by decide), if_pos rfl, q_z1, if_pos ⟨c1, rfl⟩]
  · rw [if_neg c1, q_z0, if_neg (fun r => c1 r.1)]
theorem r_lastLine {s th : Int32} (hp : A 40 2650 = nI (xn (A 40))) (hX : Xw (A 40)) : ∃ B, ex S (d + 5) 144 [.ref 39, .int s, .int th] (Hh k E A L T) = some (.inl (some (.int (llW (A 40) s th))), Hh k E B L T) ∧ Fo A B := by
  obtain ⟨B, e1, hO, hF⟩ := r_ord (S := S) (d := d + 2) (k := k) (E := E) (L := L) (T := T) ⟨hp, hX.1⟩
  have e40 : B 40 = A 40 := hF.1 40 (by decide) (by decide)
  refine ⟨B, ?_, hF⟩
  rw [x_X12_lastLine, g_X12_lastLine_0]
  simp -implicitDefEqProofs only [hc_39, e1, q_U]
  rw [← e40] at hX ⊢
  clear e1 hF hp e40
  have hl := FW_len (W := B 40)
  have h12 := hX.1
  have e16 := hO.2
  rw [← fd_ll]
  generalize hM : (FW (B 40)).length = m at *
  refine loop_QK (K := 20) (α := Option Value) (F := fun g j o => bd S (ex S (d + 4)) dflT E_X12_lastLine g 9 [some (.ref 39), some (.int s), some (.int th), some (.int (fd (B 40) s th j)), some (.int (nI j)), o] [] (Hh k E B L T)) (N := m) (P := fun _ _ => True) (Q := fun r => r = some (.inl (some (.int (fd (B 40) s th m))), Hh k E B L T)) ?_ ?_ (s := none) trivial (by omega)
  · intro g j o hj _
    right
    have g0 : ¬ nI m ≤ nI j := nI_ge hj (by omega)
    rw [show g + 20 = (g + 19) + 1 from rfl, g_X12_lastLine_9]
    simp -implicitDefEqProofs only [hg_39_16, e16, if_neg g0]
    obtain ⟨-, o2, o3, o4⟩ := od_at (k := k) (E := E) (L := L) (T := T) (κ := fun _ => none) hX hO (i := j) (by omega)
    have oa : ∀ {κ : Int32 → rO}, aI (Hh k E B L T) (.ref 46) 0 (nI j) κ = κ (nI (fl (B 40) j)) := fun {κ} => (od_at hX hO (by omega)).1
    have il : ∀ n, n < 16 → ex S (d + 4) 143 [.ref 39, .int (nI j), .int (nI n), .int s] (Hh k E B L T) = _ := fun n hn => r_isLine hX hO (by omega) hn
    rw [hM] at il
    generalize ht : fl (B 40) j = t at *
    generalize hv : fd (B 40) s th j = v
    obtain ⟨z, g', hg', e1, -⟩ := loop_RK (K := 1) (α := Unit) (F := fun g n _ => bd S (ex S (d + 4)) dflT E_X12_lastLine g 21 [some (.ref 39), some (.int s), some (.int th), some (.int (if skN (B 40) s j m = false ∧ ¬ lst (ml (B 40) t s th) n = -1 then 16 * nI t + lst (ml (B 40) t s th) n else v)), some (.int (nI j)), some (.int (nI n))] [] (Hh k E B L T)) (N := lnT (B 40) t) (P := fun _ _ => True) (s := ()) (by
      intro g n _ hn _
      refine ⟨(), g, Nat.le_refl _, ?_, trivial⟩
      have g1 : ¬ nI (lnT (B 40) t) ≤ nI n := nI_ge hn (by omega)
      have e : lst (ml (B 40) t s th) (n + 1) = if ml (B 40) t s th n = true then nI n else lst (ml (B 40) t s th) n := rfl
      rw [g_X12_lastLine_21]
      simp -implicitDefEqProofs only [hv_39_15, oa, hc_39, r_lns (show t < 37 by omega), o3, q_I, if_neg g1, il n (by omega), hv_39_1, r_lat, nI_p2, an_40 (show tx t + 2 + 6 * n + 2 < 35877 by unfold tx; omega), nI_p1, e]
      by_cases c1 : B 40 (tx t + 2 + 6 * n) = s ∧ skN (B 40) s j m = false
      · simp -implicitDefEqProofs only [if_pos c1, i1_0, if_false]
        by_cases c14 : s = 14
        · rw [if_pos c14]
          by_cases c2 : B 40 (tx t + 2 + 6 * n + 2) = th
          · have em : ml (B 40) t s th n = true := by unfold ml; simp [c1.1, c2]
            rw [if_pos c2, if_pos em, if_pos ⟨c1.2, nI_m1 (by omega)⟩]
          · have em : ¬ ml (B 40) t s th n = true := by unfold ml; simp [c2, c14]
            rw [if_neg c2, if_neg em]
        · have em : ml (B 40) t s th n = true := by unfold ml; simp [c1.1, c14]
          rw [if_neg c14, if_pos em, if_pos ⟨c1.2, nI_m1 (by omega)⟩]
      · simp -implicitDefEqProofs only [if_neg c1, if_true]
        by_cases c3 : skN (B 40) s j m = false
        · have em : ¬ ml (B 40) t s th n = true := by
            unfold ml
            have : ¬ B 40 (tx t + 2 + 6 * n) = s := fun q => c1 ⟨q, c3⟩
            simp [this]
          rw [if_neg em]
        · rw [if_neg (fun r => c3 r.1), if_neg (fun r => c3 r.1)]) trivial (g + 1) (g + 19) (by omega)
    obtain ⟨g2, rfl⟩ : ∃ g2, g' = g2 + 1 := ⟨g' - 1, by omega⟩
    have e0 : (if skN (B 40) s j m = false ∧ ¬ lst (ml (B 40) t s th) 0 = -1 then 16 * nI t + lst (ml (B 40) t s th) 0 else v) = v := by simp [lst]
    have e9 : fd (B 40) s th (j + 1) = if skN (B 40) s j m = false ∧ ¬ lst (ml (B 40) t s th) (lnT (B 40) t) = -1 then 16 * nI t + lst (ml (B 40) t s th) (lnT (B 40) t) else v := by
      show (if skN (B 40) s j (FW (B 40)).length = false ∧ ¬ lsT (B 40) (fl (B 40) j) s th = -1 then 16 * nI (fl (B 40) j) + lsT (B 40) (fl (B 40) j) s th else fd (B 40) s th j) = _
      rw [ht, hM, hv]; rfl
    rw [show bd S (ex S (d + 4)) dflT E_X12_lastLine (g + 19) 21 [some (.ref 39), some (.int s), some (.int th), some (.int v), some (.int (nI j)), some (.int 0)] [] (Hh k E B L T) = _ from e0 ▸ e1, g_X12_lastLine_21]
    simp -implicitDefEqProofs only [hv_39_15, oa, hc_39, r_lns (show t < 37 by omega), o3, q_I, if_pos (Int32.le_refl (nI (lnT (B 40) t))), nI_p1]
    exact ⟨_, g2, by omega, by rw [e9], trivial⟩
  · intro g o _
    rw [show g + 20 = (g + 19) + 1 from rfl, g_X12_lastLine_9]
    simp -implicitDefEqProofs only [hg_39_16, e16, if_pos (Int32.le_refl (nI m))]
end WordsC
