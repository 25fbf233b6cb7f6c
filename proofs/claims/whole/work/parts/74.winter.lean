/-! winter: game breeds, woods grow older -/
section YearH
variable {S : sT} {d c : Nat} {k : Value} {E : List dsc} {A : fA} {L : fL} {T : fT} {W : fW}
/-- a wood lies on that side -/
def nr1 (W : fW) (f w : Nat) : Bool := match besN f w with | none => false | some g => decide (kindW W g = 3)
def nrW (W : fW) (f : Nat) : Bool := nr1 W f 0 || nr1 W f 1 || nr1 W f 2 || nr1 W f 3
theorem nr_iff {f : Nat} : nrW W f = true ↔ ∃ w, w < 4 ∧ nr1 W f (pm w) = true := by
  unfold nrW
  simp -implicitDefEqProofs only [Bool.or_eq_true]
  constructor
  · rintro (((h | h) | h) | h)
    · exact ⟨0, by decide, h⟩
    · exact ⟨3, by decide, h⟩
    · exact ⟨2, by decide, h⟩
    · exact ⟨1, by decide, h⟩
  · rintro ⟨w, hw, h⟩
    match w, hw, h with
    | 0, _, h => exact Or.inl (Or.inl (Or.inl h))
    | 1, _, h => exact Or.inr h
    | 2, _, h => exact Or.inl (Or.inr h)
    | 3, _, h => exact Or.inl (Or.inl (Or.inr h))
theorem pm_lt {w : Nat} (hw : w < 4) : pm w < 4 := by
  match w, hw with
  | 0, _ => decide
  | 1, _ => decide
  | 2, _ => decide
  | 3, _ => decide
theorem c_beside {f : Nat} (hT : Ti c k E T A W) (hf : f < 48) : ex S (d + 4) 208 [.ref 38, .int (nI f)] (Hh k E A L T) = some (.inl (some (.int (if nrW W f = true then 1 else 0))), Hh k E A L T) := by
  obtain ⟨hI, h0, hO⟩ := id hT
  have hL : LkL (A 10) W := h0.2.1
  have hC := h0.2.2.2.2.2.2.1.2.1
  have h24 := hI.2.2.2.2.1.2.1
  rw [x_X10_isBesideWood, g_X10_isBesideWood_0]
  refine loop_Q (α := Option Value) (F := fun g i o => bd S (ex S (d + 3)) dflT E_X10_isBesideWood g 2 [some (.ref 38), some (.int (nI f)), some (.int (nI i)), o] [] (Hh k E A L T)) (N := 4) (P := fun i _ => ∀ w, w < i → nr1 W f (pm w) = false) (Q := fun r => r = some (.inl (some (.int (if nrW W f = true then 1 else 0))), Hh k E A L T)) ?_ ?_ (s := none) (fun w hw => by omega) (by decide)
  · rintro g i o hi hP
    have g0 : ¬ (4 : Int32) ≤ nI i := nI_ge (b := 4) hi (by decide)
    rw [g_X10_isBesideWood_2]
    simp -implicitDefEqProofs only [if_neg g0, c_bes hf hi, q_I]
    have ext : ∀ b, nr1 W f (pm i) = b → b = false → ∀ w, w < i + 1 → nr1 W f (pm w) = false := by
      intro b hb hb2 w hw
      by_cases q : w = i
      · subst q; rw [hb, hb2]
      · exact hP w (by omega)
    cases hb : besN f (pm i) with
    | none =>
      right
      rw [show oI none = -1 from rfl, if_pos rfl, nI_p1]
      exact ⟨_, rfl, ext false (by unfold nr1; rw [hb]) rfl⟩
    | some n =>
      have hn := bes_lt hf hb
      have hn1 : ¬ nI n = -1 := nI_m1 (by omega)
      rw [show oI (some n) = nI n from rfl, if_neg hn1]
      simp -implicitDefEqProofs only [hv_38_0, hc_4, c_kindAt hL hC (hI.2.1 n hn) h24 hn, q_I]
      by_cases q : kindW W n = 3
      · left
        rw [if_pos q, q_z1, if_pos (nr_iff.mpr ⟨i, hi, by unfold nr1; rw [hb]; simp [q]⟩)]
      · right
        rw [if_neg q, nI_p1]
        exact ⟨_, rfl, ext false (by unfold nr1; rw [hb]; simp [q]) rfl⟩
  · rintro g o hP
    rw [g_X10_isBesideWood_2, if_pos (by decide), q_z0, if_neg (fun q => by obtain ⟨w, hw, h⟩ := nr_iff.mp q; rw [hP w hw] at h; cases h)]
def nrN (W : fW) (f : Nat) : Nat → Bool
  | 0 => false
  | n + 1 => nrN W f n || nr1 W f n
theorem r_near {f : Nat} (hI : Iv c (A 40)) (hf : f < 48) : ex S (d + 4) 245 [.ref 39, .int (nI f)] (Hh k E A L T) = some (.inl (some (.int (if nrW (A 40) f = true then 1 else 0))), Hh k E A L T) := by
  have h24 := hI.2.2.2.2.1.2.1
  rw [x_X12_isNearWood, g_X12_isNearWood_0]
  have e4 : nrN (A 40) f 4 = nrW (A 40) f := by
    show ((((false || nr1 (A 40) f 0) || nr1 (A 40) f 1) || nr1 (A 40) f 2) || nr1 (A 40) f 3) = _
    rw [Bool.false_or]; rfl
  rw [← e4]
  refine loop_Q (α := Unit) (F := fun g i _ => bd S (ex S (d + 3)) dflT E_X12_isNearWood g 4 [some (.ref 39), some (.int (nI f)), some (.int (if nrN (A 40) f i = true then 1 else 0)), some (.int (nI i))] [] (Hh k E A L T)) (N := 4) (P := fun _ _ => True) (Q := fun r => r = some (.inl (some (.int (if nrN (A 40) f 4 = true then 1 else 0))), Hh k E A L T)) ?_ ?_ (s := ()) trivial (by decide)
  · rintro g i - hi -
    right
    refine ⟨(), ?_, trivial⟩
    have g0 : ¬ (4 : Int32) ≤ nI i := nI_ge (b := 4) hi (by decide)
    have e : nrN (A 40) f (i + 1) = (nrN (A 40) f i || nr1 (A 40) f i) := rfl
    rw [g_X12_isNearWood_4, if_neg g0, e]
    by_cases q : nrN (A 40) f i = true
    · simp -implicitDefEqProofs only [q, Bool.true_or, if_true, i1_0, if_false, nI_p1]
    · have q' : nrN (A 40) f i = false := by simpa using q
      simp -implicitDefEqProofs only [q', Bool.false_or, Bool.false_eq_true, if_false, if_true, r_bes hf hi, q_I, nI_p1]
      cases hb : besN f i with
      | none =>
        have e1 : nr1 (A 40) f i = false := by unfold nr1; rw [hb]
        rw [show oI none = -1 from rfl, if_pos (by decide), e1]
        rfl
      | some n =>
        have hn := bes_lt hf hb
        rw [show oI (some n) = nI n from rfl, if_neg (nI_pos (by omega))]
        simp -implicitDefEqProofs only [hc_39, r_kindOf (hI.2.1 n hn) h24 hn, q_I]
        by_cases q3 : kindW (A 40) n = 3
        · have e1 : nr1 (A 40) f i = true := by unfold nr1; rw [hb]; simp [q3]
          rw [if_pos q3, e1]
          rfl
        · have e1 : nr1 (A 40) f i = false := by unfold nr1; rw [hb]; simp [q3]
          rw [if_neg q3, e1]
          rfl
  · rintro g - -
    rw [g_X12_isNearWood_4, if_pos (by decide)]
    split
    · rw [q_z1]
    · rw [q_z0]
def m99 (x : Int32) : Int32 := if x < 99 then x else 99
def dec1 (x : Int32) : Int32 := if 0 < x - 1 then x - 1 else 0
/-- game at a field -/
def bgF (W : fW) (f : Nat) : fW := if kindW W f = 3 then upd W (8 + 14 * f + 6) (m99 (W (8 + 14 * f + 6) + (W (8 + 14 * f + 6) + 1) / 2)) else if nrW W f = true ∧ W (8 + 14 * f + 11) = 0 then upd W (8 + 14 * f + 6) (m99 (W (8 + 14 * f + 6) + 1)) else W
/-- what else grows older on a field -/
def goA (W : fW) (f : Nat) : fW := upd W (8 + 14 * f + 7) (W (8 + 14 * f + 7) + (if kindW W f = 3 then 1 else 0))
def goB (W : fW) (f : Nat) : fW := upd W (8 + 14 * f + 4) (dec1 (W (8 + 14 * f + 4)))
def goC (W : fW) (f : Nat) : fW := upd W (8 + 14 * f + 5) (dec1 (W (8 + 14 * f + 5)))
def goF (W : fW) (f : Nat) : fW := if W (8 + 14 * f + 11) = 0 then goC (goB (goA W f) f) f else W
theorem kind_c {V : fW} {f : Nat} (e1 : V (8 + 14 * f + 10) = W (8 + 14 * f + 10)) (e : ∀ i, 680 ≤ i → V i = W i) : kindW V f = kindW W f := by
  unfold kindW holW
  rw [e1]
  split
  · rfl
  · exact e _ (by omega)
theorem nr1_c {V : fW} {f w : Nat} (e1 : ∀ g, V (8 + 14 * g + 10) = W (8 + 14 * g + 10)) (e : ∀ i, 680 ≤ i → V i = W i) : nr1 V f w = nr1 W f w := by
  unfold nr1
  cases besN f w with
  | none => rfl
  | some g => show decide (kindW V g = 3) = decide (kindW W g = 3); rw [kind_c (e1 g) e]
theorem nr_c {V : fW} {f : Nat} (e1 : ∀ g, V (8 + 14 * g + 10) = W (8 + 14 * g + 10)) (e : ∀ i, 680 ≤ i → V i = W i) : nrW V f = nrW W f := by
  unfold nrW; rw [nr1_c e1 e, nr1_c e1 e, nr1_c e1 e, nr1_c e1 e]
theorem m99_rg {n : Nat} (h : n < 2000) : rg (m99 (nI n)) 0 99 := by
  unfold m99
  by_cases q : n < 99
  · rw [if_pos (show nI n < 99 from nI_lt (b := 99) q (by decide))]; exact rg_nI (by omega) (by omega)
  · rw [if_neg (show ¬ nI n < 99 from nI_nlt (b := 99) (by omega) (by omega))]; unfold rg; decide
theorem dec_rg {x : Int32} {b : Nat} (hb : b ≤ 1000) (h : rg x 0 b) : rg (dec1 x) 0 b := by
  obtain ⟨n, hn, hn2, rfl⟩ := rg_of h
  unfold dec1
  by_cases q : 1 < n
  · rw [show nI n - 1 = nI (n - 1) from sub_n (a := 1) (by omega) (by omega), if_pos (show (0 : Int32) < nI (n - 1) from nI_lt (a := 0) (by omega) (by omega))]
    exact rg_nI (by omega) (by omega)
  · have : n = 0 ∨ n = 1 := by omega
    rcases this with rfl | rfl
    · rw [if_neg (by decide)]; exact ⟨by decide, by show (0 : Int32).toInt ≤ _; rw [show (0 : Int32).toInt = 0 from rfl]; omega⟩
    · rw [if_neg (by decide)]; exact ⟨by decide, by show (0 : Int32).toInt ≤ _; rw [show (0 : Int32).toInt = 0 from rfl]; omega⟩
theorem bg_rg {f : Nat} (hF : IvF W f) : rg (m99 (W (8 + 14 * f + 6) + (W (8 + 14 * f + 6) + 1) / 2)) 0 99 ∧ rg (m99 (W (8 + 14 * f + 6) + 1)) 0 99 := by
  obtain ⟨n, hn, hn2, en⟩ := rg_of (b := 99) hF.2.2.2.2.2.2.1
  rw [en, nI_p1, show nI (n + 1) / 2 = nI ((n + 1) / 2) from by rw [show (2 : Int32) = nI 2 from rfl, pk_div (by omega) (by decide) (by decide)], nI_add]
  exact ⟨m99_rg (by omega), m99_rg (by omega)⟩
theorem jBg {f : Nat} (hI : Iv c W) (hf : f < 48) : Iv c (bgF W f) := by
  unfold bgF
  split
  · exact jL_6 hI hf (bg_rg (hI.2.1 f hf)).1
  · split
    · exact jL_6 hI hf (bg_rg (hI.2.1 f hf)).2
    · exact hI
theorem jGo {f : Nat} (hI : Iv c W) (hf : f < 48) : Iv c (goA W f) ∧ Iv c (goB (goA W f) f) ∧ Iv c (goC (goB (goA W f) f) f) := by
  have j1 : Iv c (goA W f) := jL_7 hI hf (b32 _)
  have j2 : Iv c (goB (goA W f) f) := jL_4 j1 hf (dec_rg (b := 20) (by decide) (j1.2.1 f hf).2.2.2.2.1)
  exact ⟨j1, j2, jL_5 j2 hf (dec_rg (b := 6) (by decide) (j2.2.1 f hf).2.2.2.2.2.1)⟩
theorem jGoF {f : Nat} (hI : Iv c W) (hf : f < 48) : Iv c (goF W f) := by
  unfold goF
  split
  · exact (jGo hI hf).2.2
  · exact hI
theorem bg_o {f i : Nat} (h : i ≠ 8 + 14 * f + 6) : bgF W f i = W i := by
  unfold bgF
  split
  · exact upd_o h
  · split
    · exact upd_o h
    · rfl
theorem go_o {f i : Nat} (h4 : i ≠ 8 + 14 * f + 4) (h5 : i ≠ 8 + 14 * f + 5) (h7 : i ≠ 8 + 14 * f + 7) : goF W f i = W i := by
  unfold goF
  split
  · unfold goC goB goA; rw [upd_o h5, upd_o h4, upd_o h7]
  · rfl
theorem Ti_L6 {f : Nat} {x : Int32} (hT : Ti c k E T A W) (hf : f < 48) (hx : rg x 0 99) : Ti c k E T (up A 10 (288 + f) x) (upd W (8 + 14 * f + 6) x) := Ti_up hT (jL_6 hT.1 hf hx) (kL_6 hT.1 hf hT.2.1) u36_10 (upd_o (by omega)) (fun i h1 h2 => upd_o (by omega))
theorem Ti_L8 {f : Nat} {x : Int32} (hT : Ti c k E T A W) (hf : f < 48) (hx : rg x 0 9) : Ti c k E T (up A 10 (384 + f) x) (upd W (8 + 14 * f + 8) x) := Ti_up hT (jL_8 hT.1 hf hx) (kL_8 hT.1 hf hT.2.1) u36_10 (upd_o (by omega)) (fun i h1 h2 => upd_o (by omega))
theorem c_breed (hT : Ti c k E T A W) : ∃ A', ex S (d + 5) 209 [.ref 38] (Hh k E A L T) = some (.inl none, Hh k E A' L T) ∧ Ti c k E T A' (itW bgF 48 W) ∧ Fr A A' := by
  rw [x_X10_breedGame, g_X10_breedGame_0]
  refine loop_Q (α := fA × Option Value) (F := fun g i s => bd S (ex S (d + 4)) dflT E_X10_breedGame g 2 [some (.ref 38), some (.int (nI i)), s.2] [] (Hh k E s.1 L T)) (N := 48) (P := fun i s => Ti c k E T s.1 (itW bgF i W) ∧ Fr A s.1) (Q := fun r => ∃ A', r = some (.inl none, Hh k E A' L T) ∧ Ti c k E T A' (itW bgF 48 W) ∧ Fr A A') ?_ ?_ (s := (A, none)) ⟨hT, Fr_refl⟩ (by decide)
  · rintro g f ⟨B, o⟩ hf ⟨hB, hFr⟩
    simp only at hB hFr
    right
    rw [show itW bgF (f + 1) W = bgF (itW bgF f W) f from rfl]
    generalize itW bgF f W = V at *
    obtain ⟨hI, h0, hO⟩ := id hB
    have g0 : ¬ (48 : Int32) ≤ nI f := nI_ge (b := 48) hf (by decide)
    have hL : LkL (B 10) V := h0.2.1
    have hC := h0.2.2.2.2.2.2.1.2.1
    have h24 := hI.2.2.2.2.1.2.1
    rw [g_X10_breedGame_2]
    simp -implicitDefEqProofs only [if_neg g0, hv_38_1, hc_9, gL_6 hL hf, q_I, hv_38_0, hc_4, c_kindAt hL hC (hI.2.1 f hf) h24 hf]
    unfold bgF
    by_cases q : kindW V f = 3
    · rw [if_pos q, if_pos q]
      simp -implicitDefEqProofs only [hv_38_1, dv_2, hc_9, ls_6 hf, q_U, nI_p1]
      exact ⟨(_, _), rfl, Ti_L6 hB hf (bg_rg (hI.2.1 f hf)).1, Fr_tr hFr (Fr_up (by decide) (by decide))⟩
    · rw [if_neg q, if_neg q]
      simp -implicitDefEqProofs only [hc_38, c_beside hB hf, q_I]
      by_cases q1 : nrW V f = true
      · rw [if_pos q1, if_neg (by decide)]
        simp -implicitDefEqProofs only [hv_38_1, hc_9, c_sold hL (hI.2.1 f hf) hf, q_I]
        by_cases q2 : V (8 + 14 * f + 11) = 0
        · rw [if_pos q2, if_pos (show nrW V f = true ∧ V (8 + 14 * f + 11) = 0 from ⟨q1, q2⟩)]
          simp -implicitDefEqProofs only [hv_38_1, hc_9, ls_6 hf, q_U, nI_p1]
          exact ⟨(_, _), rfl, Ti_L6 hB hf (bg_rg (hI.2.1 f hf)).2, Fr_tr hFr (Fr_up (by decide) (by decide))⟩
        · rw [if_neg q2, if_neg (show ¬ (nrW V f = true ∧ V (8 + 14 * f + 11) = 0) from fun z => q2 z.2), nI_p1]
          exact ⟨(B, _), rfl, hB, hFr⟩
      · rw [if_neg q1, if_pos rfl, if_neg (show ¬ (nrW V f = true ∧ V (8 + 14 * f + 11) = 0) from fun z => q1 z.1), nI_p1]
        exact ⟨(B, _), rfl, hB, hFr⟩
  · rintro g ⟨B, o⟩ ⟨hB, hFr⟩
    simp only at hB hFr
    rw [g_X10_breedGame_2, if_pos (by decide)]
    exact ⟨B, rfl, hB, hFr⟩
theorem c_older (hT : Ti c k E T A W) : ∃ A', ex S (d + 5) 210 [.ref 38] (Hh k E A L T) = some (.inl none, Hh k E A' L T) ∧ Ti c k E T A' (itW goF 48 W) ∧ Fr A A' := by
  rw [x_X10_growOlder, g_X10_growOlder_0]
  refine loop_QK (K := 2) (α := fA × Option Value) (F := fun g i s => bd S (ex S (d + 4)) dflT E_X10_growOlder g 2 [some (.ref 38), some (.int (nI i)), s.2] [] (Hh k E s.1 L T)) (N := 48) (P := fun i s => Ti c k E T s.1 (itW goF i W) ∧ Fr A s.1) (Q := fun r => ∃ A', r = some (.inl none, Hh k E A' L T) ∧ Ti c k E T A' (itW goF 48 W) ∧ Fr A A') ?_ ?_ (s := (A, none)) ⟨hT, Fr_refl⟩ (by decide)
  · rintro g f ⟨B, o⟩ hf ⟨hB, hFr⟩
    simp only at hB hFr
    right
    rw [show itW goF (f + 1) W = goF (itW goF f W) f from rfl]
    generalize itW goF f W = V at *
    obtain ⟨hI, h0, hO⟩ := id hB
    have g0 : ¬ (48 : Int32) ≤ nI f := nI_ge (b := 48) hf (by decide)
    have hL : LkL (B 10) V := h0.2.1
    have hC := h0.2.2.2.2.2.2.1.2.1
    have h24 := hI.2.2.2.2.1.2.1
    obtain ⟨j1, j2, j3⟩ := jGo hI hf
    have k1 : LkA 4 k E (up B 10 (336 + f) (V (8 + 14 * f + 7) + (if kindW V f = 3 then 1 else 0))) T (goA V f) := kL_7 hI hf h0
    have k2 : LkA 4 k E (up (up B 10 (336 + f) (V (8 + 14 * f + 7) + (if kindW V f = 3 then 1 else 0))) 10 (192 + f) (dec1 (goA V f (8 + 14 * f + 4)))) T (goB (goA V f) f) := kL_4 j1 hf k1
    have k3 := kL_5 (x := dec1 (goB (goA V f) f (8 + 14 * f + 5))) j2 hf k2
    have e36 : ∀ y, bd S (ex S (d + 4)) dflT E_X10_growOlder (g + 1) 36 [some (.ref 38), some (.int (nI f)), o] [.int y] (Hh k E B L T) = bd S (ex S (d + 4)) dflT E_X10_growOlder g 2 [some (.ref 38), some (.int (nI (f + 1))), some (.int y)] [] (Hh k E (up (up (up B 10 (336 + f) (V (8 + 14 * f + 7) + y)) 10 (192 + f) (dec1 (V (8 + 14 * f + 4)))) 10 (240 + f) (dec1 (V (8 + 14 * f + 5)))) L T) := by
      intro y
      have m1 : LkL (up B 10 (336 + f) (V (8 + 14 * f + 7) + y) 10) (upd V (8 + 14 * f + 7) (V (8 + 14 * f + 7) + y)) := (kL_7 (x := V (8 + 14 * f + 7) + y) hI hf h0).2.1
      have m2 : LkL (up (up B 10 (336 + f) (V (8 + 14 * f + 7) + y)) 10 (192 + f) (dec1 (V (8 + 14 * f + 4))) 10) (upd (upd V (8 + 14 * f + 7) (V (8 + 14 * f + 7) + y)) (8 + 14 * f + 4) (dec1 (V (8 + 14 * f + 4)))) := (kL_4 (x := dec1 (V (8 + 14 * f + 4))) (jL_7 (x := V (8 + 14 * f + 7) + y) hI hf (b32 _)) hf (kL_7 (x := V (8 + 14 * f + 7) + y) hI hf h0)).2.1
      have r4 := gL_4 (S := S) (d := d + 2) (k := k) (E := E) (L := L) (T := T) m1 hf
      rw [upd_o (by omega)] at r4
      have r5 := gL_5 (S := S) (d := d + 2) (k := k) (E := E) (L := L) (T := T) m2 hf
      rw [upd_o (by omega), upd_o (by omega)] at r5
      rw [g_X10_growOlder_36]
      have ed : ∀ x : Int32, (if (0 : Int32) < x - 1 then x - 1 else 0) = dec1 x := fun x => rfl
      simp -implicitDefEqProofs only [hv_38_1, hc_9, gL_7 hL hf, q_I, ls_7 hf, q_U, r4, ed, ls_4 hf, r5, ls_5 hf, nI_p1]
    rw [show g + 2 = (g + 1) + 1 from rfl, g_X10_growOlder_2]
    simp -implicitDefEqProofs only [if_neg g0, hv_38_1, hc_9, c_sold hL (hI.2.1 f hf) hf, q_I]
    unfold goF
    by_cases q : V (8 + 14 * f + 11) = 0
    · rw [if_pos q, if_pos q]
      simp -implicitDefEqProofs only [hv_38_0, hc_4, c_kindAt hL hC (hI.2.1 f hf) h24 hf, q_I]
      have a4 : goA V f (8 + 14 * f + 4) = V (8 + 14 * f + 4) := upd_o (by omega)
      have a5 : goB (goA V f) f (8 + 14 * f + 5) = V (8 + 14 * f + 5) := (upd_o (by omega)).trans (upd_o (by omega))
      rw [a4, a5] at k3
      have t3 : Ti c k E T (up (up (up B 10 (336 + f) (V (8 + 14 * f + 7) + (if kindW V f = 3 then 1 else 0))) 10 (192 + f) (dec1 (V (8 + 14 * f + 4)))) 10 (240 + f) (dec1 (V (8 + 14 * f + 5)))) (goC (goB (goA V f) f) f) := by
        refine Ti_up hB j3 ?_ (by simp -implicitDefEqProofs only [u36_10]) ?_ (fun i h1 h2 => ?_)
        · have : goC (goB (goA V f) f) f = upd (goB (goA V f) f) (8 + 14 * f + 5) (dec1 (V (8 + 14 * f + 5))) := by unfold goC; rw [a5]
          rw [this]; exact k3
        · unfold goC goB goA; rw [upd_o (by omega), upd_o (by omega), upd_o (by omega)]
        · unfold goC goB goA; rw [upd_o (by omega), upd_o (by omega), upd_o (by omega)]
      by_cases q3 : kindW V f = 3
      · rw [if_pos q3] at t3
        rw [if_pos q3, e36]
        exact ⟨(_, _), g, Nat.le_refl _, rfl, t3, Fr_tr hFr (Fr_tr (Fr_tr (Fr_up (by decide) (by decide)) (Fr_up (by decide) (by decide))) (Fr_up (by decide) (by decide)))⟩
      · rw [if_neg q3] at t3
        rw [if_neg q3, e36]
        exact ⟨(_, _), g, Nat.le_refl _, rfl, t3, Fr_tr hFr (Fr_tr (Fr_tr (Fr_up (by decide) (by decide)) (Fr_up (by decide) (by decide))) (Fr_up (by decide) (by decide)))⟩
    · rw [if_neg q, if_neg q, nI_p1]
      exact ⟨(B, _), g + 1, by omega, rfl, hB, hFr⟩
  · rintro g ⟨B, o⟩ ⟨hB, hFr⟩
    simp only at hB hFr
    rw [show g + 2 = (g + 1) + 1 from rfl, g_X10_growOlder_2, if_pos (by decide)]
    exact ⟨B, rfl, hB, hFr⟩
/-- one pass does what the two do -/
def grF (W : fW) (f : Nat) : fW := goF (bgF W f) f
theorem kind_go {f g : Nat} (hf : f < 48) : kindW (goF W f) g = kindW W g := kind_c (go_o (by omega) (by omega) (by omega)) (fun i hi => go_o (by omega) (by omega) (by omega))
theorem kind_u6 {f g : Nat} {x : Int32} (hf : f < 48) : kindW (upd W (8 + 14 * f + 6) x) g = kindW W g := kind_c (upd_o (by omega)) (fun i hi => upd_o (by omega))
theorem go_upd {f g : Nat} {x : Int32} (hg : g < 48) : goF (upd W (8 + 14 * g + 6) x) f = upd (goF W f) (8 + 14 * g + 6) x := by
  unfold goF
  rw [upd_o (show 8 + 14 * f + 11 ≠ 8 + 14 * g + 6 by omega)]
  split
  · unfold goC goB goA
    rw [kind_u6 hg]
    rw [upd_o (show 8 + 14 * f + 5 ≠ 8 + 14 * f + 4 by omega), upd_o (show 8 + 14 * f + 5 ≠ 8 + 14 * f + 7 by omega), upd_o (show 8 + 14 * f + 4 ≠ 8 + 14 * f + 7 by omega), upd_o (show 8 + 14 * f + 5 ≠ 8 + 14 * g + 6 by omega), upd_o (show 8 + 14 * f + 4 ≠ 8 + 14 * g + 6 by omega), upd_o (show 8 + 14 * f + 7 ≠ 8 + 14 * g + 6 by omega)]
    rw [upd_o (show 8 + 14 * f + 5 ≠ 8 + 14 * f + 4 by omega), upd_o (show 8 + 14 * f + 5 ≠ 8 + 14 * f + 7 by omega), upd_o (show 8 + 14 * f + 4 ≠ 8 + 14 * f + 7 by omega)]
    rw [upd_cm (show 8 + 14 * g + 6 ≠ 8 + 14 * f + 7 by omega), upd_cm (show 8 + 14 * g + 6 ≠ 8 + 14 * f + 4 by omega), upd_cm (show 8 + 14 * g + 6 ≠ 8 + 14 * f + 5 by omega)]
  · rfl
theorem bg_go {f g : Nat} (hf : f < 48) (hg : g < 48) : bgF (goF W f) g = goF (bgF W g) f := by
  unfold bgF
  rw [kind_go hf, nr_c (V := goF W f) (W := W) (fun n => go_o (by omega) (by omega) (by omega)) (fun i hi => go_o (by omega) (by omega) (by omega)), go_o (i := 8 + 14 * g + 11) (by omega) (by omega) (by omega), go_o (i := 8 + 14 * g + 6) (by omega) (by omega) (by omega)]
  split
  · rw [go_upd hg]
  · split
    · rw [go_upd hg]
    · rfl
theorem bg_it {g n : Nat} (hn : n ≤ 48) (hg : g < 48) (V : fW) : bgF (itW goF n V) g = itW goF n (bgF V g) := by
  induction n with
  | zero => rfl
  | succ n ih =>
    show bgF (goF (itW goF n V) n) g = goF (itW goF n (bgF V g)) n
    rw [bg_go (by omega) hg, ih (by omega)]
theorem gr_it {n : Nat} (hn : n ≤ 48) (V : fW) : itW grF n V = itW goF n (itW bgF n V) := by
  induction n with
  | zero => rfl
  | succ n ih =>
    show goF (bgF (itW grF n V) n) n = goF (itW goF n (bgF (itW bgF n V) n)) n
    rw [ih (by omega), bg_it (by omega) (by omega)]
theorem jGr {f : Nat} (hI : Iv c W) (hf : f < 48) : Iv c (grF W f) := jGoF (jBg hI hf) hf
theorem r_grF {f : Nat} {o2 : Option Value} (hI : Iv c (A 40)) (hf : f < 48) (g : Nat) : ∃ A' g' o, g ≤ g' ∧ bd S (ex S (d + 4)) dflT E_X12_grows (g + 2) 2 [some (.ref 39), some (.int (nI f)), o2] [] (Hh k E A L T) = bd S (ex S (d + 4)) dflT E_X12_grows g' 2 [some (.ref 39), some (.int (nI (f + 1))), o] [] (Hh k E A' L T) ∧ A' 40 = grF (A 40) f ∧ Fg A A' := by
  have g0 : ¬ (48 : Int32) ≤ nI f := nI_ge (b := 48) hf (by decide)
  have h24 := hI.2.2.2.2.1.2.1
  have hF := hI.2.1 f hf
  rw [show g + 2 = (g + 1) + 1 from rfl, g_X12_grows_2]
  simp -implicitDefEqProofs only [if_neg g0, hc_39, ro_11 hf, q_I]
  have hs := hF.2.2.2.2.2.2.2.2.2.2.1
  by_cases q : A 40 (8 + 14 * f + 11) = 1
  · have e10 : A 40 (8 + 14 * f + 10) = -1 := (hs.resolve_left (by rw [q]; decide)).2
    have ek : kindW (A 40) f = -1 := by unfold kindW holW; rw [e10, if_pos (by decide)]
    rw [if_pos q, nI_p1]
    refine ⟨A, g + 1, _, by omega, rfl, ?_, Fg_refl⟩
    have eb : bgF (A 40) f = A 40 := by unfold bgF; rw [ek, if_neg (by decide), if_neg (show ¬ (nrW (A 40) f = true ∧ A 40 (8 + 14 * f + 11) = 0) from fun z => by rw [q] at z; exact absurd z.2 (by decide))]
    unfold grF
    rw [eb]
    unfold goF
    rw [if_neg (by rw [q]; decide)]
  · have q0 : A 40 (8 + 14 * f + 11) = 0 := hs.resolve_right (fun z => q z.1)
    rw [if_neg q]
    simp -implicitDefEqProofs only [hc_39, ro_6 hf, q_I, r_kindOf hF h24 hf]
    have ed : ∀ x : Int32, (if (0 : Int32) < x - 1 then x - 1 else 0) = dec1 x := fun x => rfl
    have k107 : ∀ (B : fA) (y : Int32), B 40 = goA (bgF (A 40) f) f → Fg A B → ∃ A' g' o, g ≤ g' ∧ bd S (ex S (d + 4)) dflT E_X12_grows (g + 1) 107 [some (.ref 39), some (.int (nI f)), some (.int y)] [] (Hh k E B L T) = bd S (ex S (d + 4)) dflT E_X12_grows g' 2 [some (.ref 39), some (.int (nI (f + 1))), o] [] (Hh k E A' L T) ∧ A' 40 = grF (A 40) f ∧ Fg A A' := by
      intro B y hB hFg
      rw [g_X12_grows_107]
      simp -implicitDefEqProofs only [hv_39_1, ra_4, q_I, hc_39, ro_4 hf, ed, sn_40 (show 8 + 14 * f + 4 < 35877 by omega), ra_5, ro_5 hf, sn_40 (show 8 + 14 * f + 5 < 35877 by omega), nI_p1]
      refine ⟨_, g, _, Nat.le_refl _, rfl, ?_, Fg_tr hFg (Fg_tr Fg_up Fg_up)⟩
      have e11 : bgF (A 40) f (8 + 14 * f + 11) = 0 := by rw [bg_o (by omega)]; exact q0
      unfold grF goF
      rw [if_pos e11, up40, up40, hB]
      rfl
    have e99 : ∀ x : Int32, (if x < 99 then x else 99) = m99 x := fun x => rfl
    by_cases q3 : kindW (A 40) f = 3
    · rw [if_pos q3]
      have eb : bgF (A 40) f = upd (A 40) (8 + 14 * f + 6) (m99 (A 40 (8 + 14 * f + 6) + (A 40 (8 + 14 * f + 6) + 1) / 2)) := by unfold bgF; rw [if_pos q3]
      simp -implicitDefEqProofs only [hv_39_1, ra_6, q_I, dv_2, e99, sn_40 (show 8 + 14 * f + 6 < 35877 by omega), ra_7, q_nr, an_40 (show 8 + 14 * f + 7 < 35877 by omega), sn_40 (show 8 + 14 * f + 7 < 35877 by omega)]
      try rw [q_nr]
      refine k107 _ _ ?_ (Fg_tr Fg_up Fg_up)
      have e7 : kindW (bgF (A 40) f) f = 3 := by rw [eb, kind_u6 hf]; exact q3
      unfold goA
      rw [e7, if_pos rfl, up40, up40, eb]
    · rw [if_neg q3]
      have e7 : goA (bgF (A 40) f) f = bgF (A 40) f := by
        unfold goA
        have : ¬ kindW (bgF (A 40) f) f = 3 := by
          rw [kind_c (V := bgF (A 40) f) (W := A 40) (bg_o (by omega)) (fun i hi => bg_o (by omega))]; exact q3
        rw [if_neg this, Int32.add_zero]
        exact upd_id _ _
      simp -implicitDefEqProofs only [hc_39, r_near hI hf, q_I]
      by_cases q4 : nrW (A 40) f = true
      · rw [if_pos q4, if_neg (by decide)]
        simp -implicitDefEqProofs only [hv_39_1, ra_6, q_I, e99, sn_40 (show 8 + 14 * f + 6 < 35877 by omega)]
        refine k107 _ _ ?_ Fg_up
        rw [e7, up40]
        unfold bgF
        rw [if_neg q3, if_pos (show nrW (A 40) f = true ∧ A 40 (8 + 14 * f + 11) = 0 from ⟨q4, q0⟩)]
      · rw [if_neg q4, if_pos rfl]
        refine k107 _ _ ?_ Fg_refl
        rw [e7]
        unfold bgF
        rw [if_neg q3, if_neg (show ¬ (nrW (A 40) f = true ∧ A 40 (8 + 14 * f + 11) = 0) from fun z => q4 z.1)]
theorem r_grows (hI : Iv c (A 40)) : ∃ A', ex S (d + 5) 246 [.ref 39] (Hh k E A L T) = some (.inl none, Hh k E A' L T) ∧ A' 40 = itW goF 48 (itW bgF 48 (A 40)) ∧ Fg A A' ∧ Iv c (A' 40) := by
  rw [← gr_it (Nat.le_refl 48), x_X12_grows, g_X12_grows_0]
  refine loop_QK (K := 2) (α := fA × Option Value) (F := fun g i s => bd S (ex S (d + 4)) dflT E_X12_grows g 2 [some (.ref 39), some (.int (nI i)), s.2] [] (Hh k E s.1 L T)) (N := 48) (P := fun i s => s.1 40 = itW grF i (A 40) ∧ Fg A s.1 ∧ Iv c (s.1 40)) (Q := fun r => ∃ A', r = some (.inl none, Hh k E A' L T) ∧ A' 40 = itW grF 48 (A 40) ∧ Fg A A' ∧ Iv c (A' 40)) ?_ ?_ (s := (A, none)) ⟨rfl, Fg_refl, hI⟩ (by decide)
  · rintro g f ⟨B, o⟩ hf ⟨hB, hFr, hJ⟩
    simp only at hB hFr hJ
    right
    obtain ⟨A', g', o', z0, z1, z2, z3⟩ := r_grF (S := S) (d := d) (k := k) (E := E) (A := B) (L := L) (T := T) (o2 := o) hJ hf g
    exact ⟨(A', o'), g', z0, z1, by rw [show itW grF (f + 1) (A 40) = grF (itW grF f (A 40)) f from rfl, ← hB]; exact z2, Fg_tr hFr z3, by show Iv c (A' 40); rw [z2]; exact jGr hJ hf⟩
  · rintro g ⟨B, o⟩ ⟨hB, hFr, hJ⟩
    simp only at hB hFr hJ
    rw [show g + 2 = (g + 1) + 1 from rfl, g_X12_grows_2, if_pos (by decide)]
    exact ⟨B, rfl, hB, hFr, hJ⟩
end YearH
