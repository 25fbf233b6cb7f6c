/-! by program: one cell is written -/
section Steps
variable {S : sT} {d c : Nat} {k : Value} {E : List dsc} {A A1 A2 : fA} {L : fL} {T : fT} {W V : fW}
theorem kp_toInt (j : Int64) : (kp j).toInt = max (-2000000000) (min 2000000000 j.toInt) := by
  have e1 : (2000000000 : Int64).toInt = 2000000000 := rfl
  have e2 : (-2000000000 : Int64).toInt = -2000000000 := rfl
  unfold kp
  rw [Int64.toInt_toInt32]
  have h : (if (if j < (2000000000 : Int64) then j else (2000000000 : Int64)) < ((-2000000000) : Int64) then ((-2000000000) : Int64) else (if j < (2000000000 : Int64) then j else (2000000000 : Int64))).toInt = max (-2000000000) (min 2000000000 j.toInt) := by
    by_cases h1 : j < 2000000000
    · rw [if_pos h1]
      by_cases h2 : j < -2000000000
      · rw [if_pos h2, e2]; rw [Int64.lt_iff_toInt_lt, e2] at h2; omega
      · rw [if_neg h2]; rw [Int64.lt_iff_toInt_lt, e2] at h2; rw [Int64.lt_iff_toInt_lt, e1] at h1; omega
    · rw [if_neg h1, if_neg (by decide), e1]; rw [Int64.lt_iff_toInt_lt, e1] at h1; omega
  rw [h]; unfold Int.bmod; simp -implicitDefEqProofs only [Nat.reducePow]; split <;> omega
theorem kp_rg (j : Int64) : rg (kp j) (-2000000000) 2000000000 := by unfold rg; rw [kp_toInt]; omega
theorem w64 (x : Int32) : x.toInt64.toInt = x.toInt := Int32.toInt_toInt64 x
/-- what is within its bounds is kept as it is -/
theorem kp_id {x : Int32} (h : rg x (-2000000000) 2000000000) : kp x.toInt64 = x := by
  apply i32_ext; rw [kp_toInt, w64]; obtain ⟨h1, h2⟩ := h; omega
theorem LkH_d {H C : Nat → Int32} {Tl : Nat → Option Nat} (hh : hn W ≤ 24) (e1 : ∀ f, f < 48 → V (8 + 14 * f + 10) = W (8 + 14 * f + 10)) (e : ∀ i, (1683 ≤ i ∧ i < 1948 ∨ 13427 ≤ i ∧ i < 34979) → V i = W i) (h : LkH k E A H C Tl W) : LkH k E A H C Tl V := by
  obtain ⟨h1, h2, h3, h4⟩ := h
  unfold LkH
  rw [hn_c (e 1683 (by omega)), e 1683 (by omega)]
  refine ⟨h1, fun g hg => ?_, h3, fun g hg hk => ?_⟩
  · have q := h2 g hg
    unfold LkC at q ⊢
    rw [fo_congr (W := W) (W' := V) e1 g, e (1684 + 11 * g + 0) (by omega), e (1684 + 11 * g + 1) (by omega), e (1684 + 11 * g + 2) (by omega), e (1684 + 11 * g + 3) (by omega), e (1684 + 11 * g + 4) (by omega), e (1684 + 11 * g + 5) (by omega), e (1684 + 11 * g + 6) (by omega), e (1684 + 11 * g + 7) (by omega), e (1684 + 11 * g + 8) (by omega), e (1684 + 11 * g + 9) (by omega), e (1684 + 11 * g + 10) (by omega)]
    exact q
  · rw [e _ (by omega)] at hk
    obtain ⟨a, e1, t⟩ := h4 g hg hk
    exact ⟨a, e1, TR_c (fun i h1 h2 => e i (by unfold tx at h1 h2; omega)) t⟩
theorem IvH_d {h : Nat} (hh : h < 24) (e1 : fo V h = fo W h) (e : ∀ i, (1683 ≤ i ∧ i < 1948 ∨ 13427 ≤ i ∧ i < 34979) → V i = W i) (q : IvH W h) : IvH V h := by
  unfold IvH at q ⊢
  rw [e1, e (1684 + 11 * h + 0) (by omega), e (1684 + 11 * h + 1) (by omega), e (1684 + 11 * h + 2) (by omega), e (1684 + 11 * h + 3) (by omega), e (1684 + 11 * h + 5) (by omega), e (1684 + 11 * h + 6) (by omega), e (1684 + 11 * h + 8) (by omega), e (1684 + 11 * h + 9) (by omega), e (1684 + 11 * h + 10) (by omega)]
  obtain ⟨a0, a1, a2, a3, a4, a5, a6, a7, a8, a9, a10⟩ := q
  refine ⟨a0, a1, a2, a3, a4, a5, a6, a7, a8, a9, fun q => ?_⟩
  obtain ⟨nl, nc, t⟩ := a10 q
  exact ⟨nl, nc, WT_c (fun i h1 h2 => e i (by unfold tx at h1 h2; omega)) t⟩
/-- a field's own cells alone -/
theorem IvF_d {f : Nat} (hf : f < 48) (hh : hn W ≤ 24) (e : ∀ i, (i = 0 ∨ 8 + 14 * f ≤ i ∧ i < 8 + 14 * f + 14 ∨ 1683 ≤ i ∧ i < 1948) → V i = W i) (q : IvF W f) : IvF V f := by
  unfold IvF at q ⊢
  rw [hn_c (e 1683 (by omega)), e (8 + 14 * f + 0) (by omega), e (8 + 14 * f + 1) (by omega), e (8 + 14 * f + 2) (by omega), e (8 + 14 * f + 3) (by omega), e (8 + 14 * f + 4) (by omega), e (8 + 14 * f + 5) (by omega), e (8 + 14 * f + 6) (by omega), e (8 + 14 * f + 7) (by omega), e (8 + 14 * f + 8) (by omega), e (8 + 14 * f + 10) (by omega), e (8 + 14 * f + 11) (by omega), e (8 + 14 * f + 12) (by omega), e (8 + 14 * f + 13) (by omega)]
  obtain ⟨a0, a1, a2, a3, a4, a5, a6, a7, a8, a9, a10⟩ := q
  refine ⟨a0, a1, a2, a3, a4, a5, a6, a7, a8, ?_, a10⟩
  rcases a9 with a9 | ⟨g, hg, a9⟩
  · exact Or.inl a9
  · refine Or.inr ⟨g, hg, ?_⟩
    rw [e (1684 + 11 * g + 0) (by omega)]
    exact a9
/-- the estate's rows alone may have changed (the class); the reference's alone (the reference) -/
def Fr (A A' : fA) : Prop := (∀ r, (r < 4 ∨ 36 < r) → A' r = A r) ∧ A' 36 0 = A 36 0 ∧ A' 36 5 = A 36 5
def Fg (A A' : fA) : Prop := (∀ r, (r < 39 ∨ r = 41 ∨ r = 42 ∨ 48 ≤ r) → A' r = A r) ∧ A' 39 0 = A 39 0 ∧ A' 39 3 = A 39 3 ∧ A' 39 5 = A 39 5 ∧ A' 39 10 = A 39 10
theorem Fr_refl : Fr A A := ⟨fun _ _ => rfl, rfl, rfl⟩
theorem Fr_tr (h : Fr A A1) (g : Fr A1 A2) : Fr A A2 := ⟨fun r hr => (g.1 r hr).trans (h.1 r hr), g.2.1.trans h.2.1, g.2.2.trans h.2.2⟩
theorem Fr_up {a i : Nat} {x : Int32} (h : 4 ≤ a) (h2 : a < 36) : Fr A (up A a i x) := ⟨fun r hr => up_ne (by omega), by rw [up_ne (by omega)], by rw [up_ne (by omega)]⟩
theorem Fg_refl : Fg A A := ⟨fun _ _ => rfl, rfl, rfl, rfl, rfl⟩
theorem Fg_tr (h : Fg A A1) (g : Fg A1 A2) : Fg A A2 := ⟨fun r hr => (g.1 r hr).trans (h.1 r hr), g.2.1.trans h.2.1, g.2.2.1.trans h.2.2.1, g.2.2.2.1.trans h.2.2.2.1, g.2.2.2.2.trans h.2.2.2.2⟩
theorem Fg_up {i : Nat} {x : Int32} : Fg A (up A 40 i x) := ⟨fun r hr => up_ne (by omega), rfl, rfl, rfl, rfl⟩
/-- class and reference are through: the tie again -/
theorem Rel_by (hR : Rel c k E A T) (hF : Fr A A1) (hG : Fg (up A1 39 0 0) A2) (hL : LkA 4 k E A1 T (A2 40)) (hI : Iv (c + 1) (A2 40)) : Rel (c + 1) k E A2 T := by
  obtain ⟨a1, a2, a3, a4, a5, a6, a7, a8, a9⟩ := hR
  obtain ⟨f1, f2, f3⟩ := hF
  obtain ⟨g1, g2, g3, g4, g5⟩ := hG
  have r1 : ∀ r, r < 39 → A2 r = A1 r := fun r hr => (g1 r (by omega)).trans (up_ne (by omega))
  have r2 : ∀ r, 49 ≤ r → A2 r = A1 r := fun r hr => (g1 r (by omega)).trans (up_ne (by omega))
  refine ⟨hI, LkA_A hL (fun i hi => r1 _ (by omega)) (fun r hr => r2 r hr.1), ?_, ?_, ?_, ?_, ?_, by omega, by omega⟩
  · rw [r1 1 (by decide), f1 1 (by decide), g4]; show ∃ n, n ≤ 400 ∧ A 1 1 = nI n ∧ A1 39 5 = nI n; rw [f1 39 (by decide)]; exact a3
  · rw [r1 2 (by decide), f1 2 (by decide), g1 42 (by omega)]; show ∀ i, i < 400 → A 2 i = A1 42 i; rw [f1 42 (by decide)]; exact a4
  · rw [r1 1 (by decide), f1 1 (by decide), g5]; show A 1 2 = A1 39 10; rw [f1 39 (by decide)]; exact a5
  · rw [r1 36 (by decide), f2, f3]; exact a6
  · refine KP_A (KP_c (Nat.le_succ c) a7) ?_ ?_ (fun r hr => (r2 r hr).trans (f1 r (by omega)))
    · rw [g3]; show A1 39 3 = _; rw [f1 39 (by decide)]
    · rw [g1 41 (by omega)]; show A1 41 = _; rw [f1 41 (by decide)]
theorem IvG_0 (e : ∀ i, 1 ≤ i → i < 8 → V i = W i) (h : IvGs c W) : IvGs c V := by
  unfold IvGs at h ⊢
  rw [e 1 (by omega) (by omega), e 2 (by omega) (by omega), e 3 (by omega) (by omega), e 4 (by omega) (by omega), e 7 (by omega) (by omega), e 6 (by omega) (by omega)]
  exact h
theorem kL_0 {f : Nat} {x : Int32} (hI : Iv c W) (hf : f < 48) (h : LkA 4 k E A T W) : LkA 4 k E (up A 10 (0 + f) x) T (upd W (8 + 14 * f + 0) x) := by
  obtain ⟨i0, i1, i2, i3, i4, i5, i6, i7, i8, i9, i10⟩ := hI
  obtain ⟨l0, l1, l2, l3, l4, l5, l6, l7⟩ := h
  have e : ∀ j, j ≠ 8 + 14 * f + 0 → upd W (8 + 14 * f + 0) x j = W j := fun j hj => upd_o hj
  have hA : ∀ r, outK k r → up A 10 (0 + f) x r = A r := fun r hr => up_ne (by have := hr.1; omega)
  exact ⟨l0.trans (e 0 (by omega)).symm, (by rw [show up A 10 (0 + f) x (4 + 6) = upd (A 10) (0 + f) x from up_eq]; exact vL_0 l1 hf), LkM_c i3.2.1 (fun i h1 h2 => e i (by omega)) l2, LkG_c (fun i hi => e i (by omega)) l3, LkP_c (fun i h1 h2 => e i (by omega)) l4, LkR_c (fun i h1 h2 => e i (by omega)) l5, LkH_A (LkH_d i4.2.1 (fun g hg => e _ (by omega)) (fun i hi => e i (by omega)) l6) hA, LkX_A (LkX_c i10.2.1 (fun i h1 h2 => e i (by omega)) l7) hA⟩
theorem jL_0 {f : Nat} {x : Int32} (hI : Iv c W) (hf : f < 48) (hx : rg x 0 9) : Iv c (upd W (8 + 14 * f + 0) x) := by
  obtain ⟨i0, i1, i2, i3, i4, i5, i6, i7, i8, i9, i10⟩ := hI
  have e : ∀ j, j ≠ 8 + 14 * f + 0 → upd W (8 + 14 * f + 0) x j = W j := fun j hj => upd_o hj
  have hF : ∀ g, g < 48 → IvF (upd W (8 + 14 * f + 0) x) g := by
    intro g hg
    by_cases q : g = f
    · subst q
      obtain ⟨a0, a1, a2, a3, a4, a5, a6, a7, a8, a9, a10, a11, a12⟩ := i1 g hg
      unfold IvF
      rw [hn_c (e 1683 (by omega)), upd_s, e (8 + 14 * g + 1) (by omega), e (8 + 14 * g + 2) (by omega), e (8 + 14 * g + 3) (by omega), e (8 + 14 * g + 4) (by omega), e (8 + 14 * g + 5) (by omega), e (8 + 14 * g + 6) (by omega), e (8 + 14 * g + 7) (by omega), e (8 + 14 * g + 8) (by omega), e (8 + 14 * g + 10) (by omega), e (8 + 14 * g + 11) (by omega), e (8 + 14 * g + 12) (by omega), e (8 + 14 * g + 13) (by omega)]
      refine ⟨hx, a1, a2, a3, a4, a5, a6, a7, a8, ?_, a10, a11, a12⟩
      rcases a9 with ⟨b1, b2⟩ | ⟨g', hg', b1, b2⟩
      · exact Or.inl ⟨b1, b2⟩
      · refine Or.inr ⟨g', hg', b1, ?_⟩
        have := i4.2.1
        rw [e (1684 + 11 * g' + 0) (by omega)]
        exact b2
    · exact IvF_d hg i4.2.1 (fun i hi => e i (by omega)) (i1 g hg)
  have hH : IvHs (upd W (8 + 14 * f + 0) x) := by
    unfold IvHs
    rw [hn_c (e 1683 (by omega)), e 1683 (by omega)]
    exact ⟨i4.1, i4.2.1, fun g hg => IvH_d (by have := i4.2.1; omega) (fo_congr (fun f hf => e _ (by omega)) g) (fun i hi => e i (by omega)) (i4.2.2 g hg)⟩
  exact ⟨Iv0_c (e 0 (by omega)) i0, hF, IvRn_c (fun i h1 h2 => e i (by omega)) i2, IvPr_c (by rw [e 0 (by omega)]; exact Int32.lt_irrefl) (fun i h1 h2 => e i (by omega)) i3, hH, IvG_0 (fun i h1 h2 => e i (by omega)) i5, IvLn_c (fun i h1 h2 => e i (by omega)) i6, IvJb_c (fun i h1 h2 => e i (by omega)) i7, IvTb_c (fun i h1 h2 => e i (by omega)) i8, IvRw_c (e _ (by omega)) i9, IvXs_c (fun i h1 h2 => e i (by omega)) i10⟩
theorem kL_1 {f : Nat} {x : Int32} (hI : Iv c W) (hf : f < 48) (h : LkA 4 k E A T W) : LkA 4 k E (up A 10 (48 + f) x) T (upd W (8 + 14 * f + 1) x) := by
  obtain ⟨i0, i1, i2, i3, i4, i5, i6, i7, i8, i9, i10⟩ := hI
  obtain ⟨l0, l1, l2, l3, l4, l5, l6, l7⟩ := h
  have e : ∀ j, j ≠ 8 + 14 * f + 1 → upd W (8 + 14 * f + 1) x j = W j := fun j hj => upd_o hj
  have hA : ∀ r, outK k r → up A 10 (48 + f) x r = A r := fun r hr => up_ne (by have := hr.1; omega)
  exact ⟨l0.trans (e 0 (by omega)).symm, (by rw [show up A 10 (48 + f) x (4 + 6) = upd (A 10) (48 + f) x from up_eq]; exact vL_1 l1 hf), LkM_c i3.2.1 (fun i h1 h2 => e i (by omega)) l2, LkG_c (fun i hi => e i (by omega)) l3, LkP_c (fun i h1 h2 => e i (by omega)) l4, LkR_c (fun i h1 h2 => e i (by omega)) l5, LkH_A (LkH_d i4.2.1 (fun g hg => e _ (by omega)) (fun i hi => e i (by omega)) l6) hA, LkX_A (LkX_c i10.2.1 (fun i h1 h2 => e i (by omega)) l7) hA⟩
theorem jL_1 {f : Nat} {x : Int32} (hI : Iv c W) (hf : f < 48) (hx : rg x 0 9) : Iv c (upd W (8 + 14 * f + 1) x) := by
  obtain ⟨i0, i1, i2, i3, i4, i5, i6, i7, i8, i9, i10⟩ := hI
  have e : ∀ j, j ≠ 8 + 14 * f + 1 → upd W (8 + 14 * f + 1) x j = W j := fun j hj => upd_o hj
  have hF : ∀ g, g < 48 → IvF (upd W (8 + 14 * f + 1) x) g := by
    intro g hg
    by_cases q : g = f
    · subst q
      obtain ⟨a0, a1, a2, a3, a4, a5, a6, a7, a8, a9, a10, a11, a12⟩ := i1 g hg
      unfold IvF
      rw [hn_c (e 1683 (by omega)), e (8 + 14 * g + 0) (by omega), upd_s, e (8 + 14 * g + 2) (by omega), e (8 + 14 * g + 3) (by omega), e (8 + 14 * g + 4) (by omega), e (8 + 14 * g + 5) (by omega), e (8 + 14 * g + 6) (by omega), e (8 + 14 * g + 7) (by omega), e (8 + 14 * g + 8) (by omega), e (8 + 14 * g + 10) (by omega), e (8 + 14 * g + 11) (by omega), e (8 + 14 * g + 12) (by omega), e (8 + 14 * g + 13) (by omega)]
      refine ⟨a0, hx, a2, a3, a4, a5, a6, a7, a8, ?_, a10, a11, a12⟩
      rcases a9 with ⟨b1, b2⟩ | ⟨g', hg', b1, b2⟩
      · exact Or.inl ⟨b1, b2⟩
      · refine Or.inr ⟨g', hg', b1, ?_⟩
        have := i4.2.1
        rw [e (1684 + 11 * g' + 0) (by omega)]
        exact b2
    · exact IvF_d hg i4.2.1 (fun i hi => e i (by omega)) (i1 g hg)
  have hH : IvHs (upd W (8 + 14 * f + 1) x) := by
    unfold IvHs
    rw [hn_c (e 1683 (by omega)), e 1683 (by omega)]
    exact ⟨i4.1, i4.2.1, fun g hg => IvH_d (by have := i4.2.1; omega) (fo_congr (fun f hf => e _ (by omega)) g) (fun i hi => e i (by omega)) (i4.2.2 g hg)⟩
  exact ⟨Iv0_c (e 0 (by omega)) i0, hF, IvRn_c (fun i h1 h2 => e i (by omega)) i2, IvPr_c (by rw [e 0 (by omega)]; exact Int32.lt_irrefl) (fun i h1 h2 => e i (by omega)) i3, hH, IvG_0 (fun i h1 h2 => e i (by omega)) i5, IvLn_c (fun i h1 h2 => e i (by omega)) i6, IvJb_c (fun i h1 h2 => e i (by omega)) i7, IvTb_c (fun i h1 h2 => e i (by omega)) i8, IvRw_c (e _ (by omega)) i9, IvXs_c (fun i h1 h2 => e i (by omega)) i10⟩
theorem kL_2 {f : Nat} {x : Int32} (hI : Iv c W) (hf : f < 48) (h : LkA 4 k E A T W) : LkA 4 k E (up A 10 (96 + f) x) T (upd W (8 + 14 * f + 2) x) := by
  obtain ⟨i0, i1, i2, i3, i4, i5, i6, i7, i8, i9, i10⟩ := hI
  obtain ⟨l0, l1, l2, l3, l4, l5, l6, l7⟩ := h
  have e : ∀ j, j ≠ 8 + 14 * f + 2 → upd W (8 + 14 * f + 2) x j = W j := fun j hj => upd_o hj
  have hA : ∀ r, outK k r → up A 10 (96 + f) x r = A r := fun r hr => up_ne (by have := hr.1; omega)
  exact ⟨l0.trans (e 0 (by omega)).symm, (by rw [show up A 10 (96 + f) x (4 + 6) = upd (A 10) (96 + f) x from up_eq]; exact vL_2 l1 hf), LkM_c i3.2.1 (fun i h1 h2 => e i (by omega)) l2, LkG_c (fun i hi => e i (by omega)) l3, LkP_c (fun i h1 h2 => e i (by omega)) l4, LkR_c (fun i h1 h2 => e i (by omega)) l5, LkH_A (LkH_d i4.2.1 (fun g hg => e _ (by omega)) (fun i hi => e i (by omega)) l6) hA, LkX_A (LkX_c i10.2.1 (fun i h1 h2 => e i (by omega)) l7) hA⟩
theorem jL_2 {f : Nat} {x : Int32} (hI : Iv c W) (hf : f < 48) (hx : rg x 0 20) : Iv c (upd W (8 + 14 * f + 2) x) := by
  obtain ⟨i0, i1, i2, i3, i4, i5, i6, i7, i8, i9, i10⟩ := hI
  have e : ∀ j, j ≠ 8 + 14 * f + 2 → upd W (8 + 14 * f + 2) x j = W j := fun j hj => upd_o hj
  have hF : ∀ g, g < 48 → IvF (upd W (8 + 14 * f + 2) x) g := by
    intro g hg
    by_cases q : g = f
    · subst q
      obtain ⟨a0, a1, a2, a3, a4, a5, a6, a7, a8, a9, a10, a11, a12⟩ := i1 g hg
      unfold IvF
      rw [hn_c (e 1683 (by omega)), e (8 + 14 * g + 0) (by omega), e (8 + 14 * g + 1) (by omega), upd_s, e (8 + 14 * g + 3) (by omega), e (8 + 14 * g + 4) (by omega), e (8 + 14 * g + 5) (by omega), e (8 + 14 * g + 6) (by omega), e (8 + 14 * g + 7) (by omega), e (8 + 14 * g + 8) (by omega), e (8 + 14 * g + 10) (by omega), e (8 + 14 * g + 11) (by omega), e (8 + 14 * g + 12) (by omega), e (8 + 14 * g + 13) (by omega)]
      refine ⟨a0, a1, hx, a3, a4, a5, a6, a7, a8, ?_, a10, a11, a12⟩
      rcases a9 with ⟨b1, b2⟩ | ⟨g', hg', b1, b2⟩
      · exact Or.inl ⟨b1, b2⟩
      · refine Or.inr ⟨g', hg', b1, ?_⟩
        have := i4.2.1
        rw [e (1684 + 11 * g' + 0) (by omega)]
        exact b2
    · exact IvF_d hg i4.2.1 (fun i hi => e i (by omega)) (i1 g hg)
  have hH : IvHs (upd W (8 + 14 * f + 2) x) := by
    unfold IvHs
    rw [hn_c (e 1683 (by omega)), e 1683 (by omega)]
    exact ⟨i4.1, i4.2.1, fun g hg => IvH_d (by have := i4.2.1; omega) (fo_congr (fun f hf => e _ (by omega)) g) (fun i hi => e i (by omega)) (i4.2.2 g hg)⟩
  exact ⟨Iv0_c (e 0 (by omega)) i0, hF, IvRn_c (fun i h1 h2 => e i (by omega)) i2, IvPr_c (by rw [e 0 (by omega)]; exact Int32.lt_irrefl) (fun i h1 h2 => e i (by omega)) i3, hH, IvG_0 (fun i h1 h2 => e i (by omega)) i5, IvLn_c (fun i h1 h2 => e i (by omega)) i6, IvJb_c (fun i h1 h2 => e i (by omega)) i7, IvTb_c (fun i h1 h2 => e i (by omega)) i8, IvRw_c (e _ (by omega)) i9, IvXs_c (fun i h1 h2 => e i (by omega)) i10⟩
theorem kL_3 {f : Nat} {x : Int32} (hI : Iv c W) (hf : f < 48) (h : LkA 4 k E A T W) : LkA 4 k E (up A 10 (144 + f) x) T (upd W (8 + 14 * f + 3) x) := by
  obtain ⟨i0, i1, i2, i3, i4, i5, i6, i7, i8, i9, i10⟩ := hI
  obtain ⟨l0, l1, l2, l3, l4, l5, l6, l7⟩ := h
  have e : ∀ j, j ≠ 8 + 14 * f + 3 → upd W (8 + 14 * f + 3) x j = W j := fun j hj => upd_o hj
  have hA : ∀ r, outK k r → up A 10 (144 + f) x r = A r := fun r hr => up_ne (by have := hr.1; omega)
  exact ⟨l0.trans (e 0 (by omega)).symm, (by rw [show up A 10 (144 + f) x (4 + 6) = upd (A 10) (144 + f) x from up_eq]; exact vL_3 l1 hf), LkM_c i3.2.1 (fun i h1 h2 => e i (by omega)) l2, LkG_c (fun i hi => e i (by omega)) l3, LkP_c (fun i h1 h2 => e i (by omega)) l4, LkR_c (fun i h1 h2 => e i (by omega)) l5, LkH_A (LkH_d i4.2.1 (fun g hg => e _ (by omega)) (fun i hi => e i (by omega)) l6) hA, LkX_A (LkX_c i10.2.1 (fun i h1 h2 => e i (by omega)) l7) hA⟩
theorem jL_3 {f : Nat} {x : Int32} (hI : Iv c W) (hf : f < 48) (hx : rg x 0 5 ∧ (W (8 + 14 * f + 10) = -1 → x = 0) ∧ ∀ h, h < hn W → W (8 + 14 * f + 10) = nI h → (W (1684 + 11 * h + 0) = 4 ∨ W (1684 + 11 * h + 0) = 5) → x = 0) : Iv c (upd W (8 + 14 * f + 3) x) := by
  obtain ⟨i0, i1, i2, i3, i4, i5, i6, i7, i8, i9, i10⟩ := hI
  have e : ∀ j, j ≠ 8 + 14 * f + 3 → upd W (8 + 14 * f + 3) x j = W j := fun j hj => upd_o hj
  have hF : ∀ g, g < 48 → IvF (upd W (8 + 14 * f + 3) x) g := by
    intro g hg
    by_cases q : g = f
    · subst q
      obtain ⟨a0, a1, a2, a3, a4, a5, a6, a7, a8, a9, a10, a11, a12⟩ := i1 g hg
      unfold IvF
      rw [hn_c (e 1683 (by omega)), e (8 + 14 * g + 0) (by omega), e (8 + 14 * g + 1) (by omega), e (8 + 14 * g + 2) (by omega), upd_s, e (8 + 14 * g + 4) (by omega), e (8 + 14 * g + 5) (by omega), e (8 + 14 * g + 6) (by omega), e (8 + 14 * g + 7) (by omega), e (8 + 14 * g + 8) (by omega), e (8 + 14 * g + 10) (by omega), e (8 + 14 * g + 11) (by omega), e (8 + 14 * g + 12) (by omega), e (8 + 14 * g + 13) (by omega)]
      refine ⟨a0, a1, a2, hx.1, a4, a5, a6, a7, a8, ?_, a10, a11, a12⟩
      rcases a9 with ⟨b1, b2⟩ | ⟨g', hg', b1, b2⟩
      · exact Or.inl ⟨b1, hx.2.1 b1⟩
      · refine Or.inr ⟨g', hg', b1, ?_⟩
        have := i4.2.1
        rw [e (1684 + 11 * g' + 0) (by omega)]
        exact hx.2.2 g' hg' b1
    · exact IvF_d hg i4.2.1 (fun i hi => e i (by omega)) (i1 g hg)
  have hH : IvHs (upd W (8 + 14 * f + 3) x) := by
    unfold IvHs
    rw [hn_c (e 1683 (by omega)), e 1683 (by omega)]
    exact ⟨i4.1, i4.2.1, fun g hg => IvH_d (by have := i4.2.1; omega) (fo_congr (fun f hf => e _ (by omega)) g) (fun i hi => e i (by omega)) (i4.2.2 g hg)⟩
  exact ⟨Iv0_c (e 0 (by omega)) i0, hF, IvRn_c (fun i h1 h2 => e i (by omega)) i2, IvPr_c (by rw [e 0 (by omega)]; exact Int32.lt_irrefl) (fun i h1 h2 => e i (by omega)) i3, hH, IvG_0 (fun i h1 h2 => e i (by omega)) i5, IvLn_c (fun i h1 h2 => e i (by omega)) i6, IvJb_c (fun i h1 h2 => e i (by omega)) i7, IvTb_c (fun i h1 h2 => e i (by omega)) i8, IvRw_c (e _ (by omega)) i9, IvXs_c (fun i h1 h2 => e i (by omega)) i10⟩
theorem kL_4 {f : Nat} {x : Int32} (hI : Iv c W) (hf : f < 48) (h : LkA 4 k E A T W) : LkA 4 k E (up A 10 (192 + f) x) T (upd W (8 + 14 * f + 4) x) := by
  obtain ⟨i0, i1, i2, i3, i4, i5, i6, i7, i8, i9, i10⟩ := hI
  obtain ⟨l0, l1, l2, l3, l4, l5, l6, l7⟩ := h
  have e : ∀ j, j ≠ 8 + 14 * f + 4 → upd W (8 + 14 * f + 4) x j = W j := fun j hj => upd_o hj
  have hA : ∀ r, outK k r → up A 10 (192 + f) x r = A r := fun r hr => up_ne (by have := hr.1; omega)
  exact ⟨l0.trans (e 0 (by omega)).symm, (by rw [show up A 10 (192 + f) x (4 + 6) = upd (A 10) (192 + f) x from up_eq]; exact vL_4 l1 hf), LkM_c i3.2.1 (fun i h1 h2 => e i (by omega)) l2, LkG_c (fun i hi => e i (by omega)) l3, LkP_c (fun i h1 h2 => e i (by omega)) l4, LkR_c (fun i h1 h2 => e i (by omega)) l5, LkH_A (LkH_d i4.2.1 (fun g hg => e _ (by omega)) (fun i hi => e i (by omega)) l6) hA, LkX_A (LkX_c i10.2.1 (fun i h1 h2 => e i (by omega)) l7) hA⟩
theorem jL_4 {f : Nat} {x : Int32} (hI : Iv c W) (hf : f < 48) (hx : rg x 0 20) : Iv c (upd W (8 + 14 * f + 4) x) := by
  obtain ⟨i0, i1, i2, i3, i4, i5, i6, i7, i8, i9, i10⟩ := hI
  have e : ∀ j, j ≠ 8 + 14 * f + 4 → upd W (8 + 14 * f + 4) x j = W j := fun j hj => upd_o hj
  have hF : ∀ g, g < 48 → IvF (upd W (8 + 14 * f + 4) x) g := by
    intro g hg
    by_cases q : g = f
    · subst q
      obtain ⟨a0, a1, a2, a3, a4, a5, a6, a7, a8, a9, a10, a11, a12⟩ := i1 g hg
      unfold IvF
      rw [hn_c (e 1683 (by omega)), e (8 + 14 * g + 0) (by omega), e (8 + 14 * g + 1) (by omega), e (8 + 14 * g + 2) (by omega), e (8 + 14 * g + 3) (by omega), upd_s, e (8 + 14 * g + 5) (by omega), e (8 + 14 * g + 6) (by omega), e (8 + 14 * g + 7) (by omega), e (8 + 14 * g + 8) (by omega), e (8 + 14 * g + 10) (by omega), e (8 + 14 * g + 11) (by omega), e (8 + 14 * g + 12) (by omega), e (8 + 14 * g + 13) (by omega)]
      refine ⟨a0, a1, a2, a3, hx, a5, a6, a7, a8, ?_, a10, a11, a12⟩
      rcases a9 with ⟨b1, b2⟩ | ⟨g', hg', b1, b2⟩
      · exact Or.inl ⟨b1, b2⟩
      · refine Or.inr ⟨g', hg', b1, ?_⟩
        have := i4.2.1
        rw [e (1684 + 11 * g' + 0) (by omega)]
        exact b2
    · exact IvF_d hg i4.2.1 (fun i hi => e i (by omega)) (i1 g hg)
  have hH : IvHs (upd W (8 + 14 * f + 4) x) := by
    unfold IvHs
    rw [hn_c (e 1683 (by omega)), e 1683 (by omega)]
    exact ⟨i4.1, i4.2.1, fun g hg => IvH_d (by have := i4.2.1; omega) (fo_congr (fun f hf => e _ (by omega)) g) (fun i hi => e i (by omega)) (i4.2.2 g hg)⟩
  exact ⟨Iv0_c (e 0 (by omega)) i0, hF, IvRn_c (fun i h1 h2 => e i (by omega)) i2, IvPr_c (by rw [e 0 (by omega)]; exact Int32.lt_irrefl) (fun i h1 h2 => e i (by omega)) i3, hH, IvG_0 (fun i h1 h2 => e i (by omega)) i5, IvLn_c (fun i h1 h2 => e i (by omega)) i6, IvJb_c (fun i h1 h2 => e i (by omega)) i7, IvTb_c (fun i h1 h2 => e i (by omega)) i8, IvRw_c (e _ (by omega)) i9, IvXs_c (fun i h1 h2 => e i (by omega)) i10⟩
theorem kL_5 {f : Nat} {x : Int32} (hI : Iv c W) (hf : f < 48) (h : LkA 4 k E A T W) : LkA 4 k E (up A 10 (240 + f) x) T (upd W (8 + 14 * f + 5) x) := by
  obtain ⟨i0, i1, i2, i3, i4, i5, i6, i7, i8, i9, i10⟩ := hI
  obtain ⟨l0, l1, l2, l3, l4, l5, l6, l7⟩ := h
  have e : ∀ j, j ≠ 8 + 14 * f + 5 → upd W (8 + 14 * f + 5) x j = W j := fun j hj => upd_o hj
  have hA : ∀ r, outK k r → up A 10 (240 + f) x r = A r := fun r hr => up_ne (by have := hr.1; omega)
  exact ⟨l0.trans (e 0 (by omega)).symm, (by rw [show up A 10 (240 + f) x (4 + 6) = upd (A 10) (240 + f) x from up_eq]; exact vL_5 l1 hf), LkM_c i3.2.1 (fun i h1 h2 => e i (by omega)) l2, LkG_c (fun i hi => e i (by omega)) l3, LkP_c (fun i h1 h2 => e i (by omega)) l4, LkR_c (fun i h1 h2 => e i (by omega)) l5, LkH_A (LkH_d i4.2.1 (fun g hg => e _ (by omega)) (fun i hi => e i (by omega)) l6) hA, LkX_A (LkX_c i10.2.1 (fun i h1 h2 => e i (by omega)) l7) hA⟩
theorem jL_5 {f : Nat} {x : Int32} (hI : Iv c W) (hf : f < 48) (hx : rg x 0 6) : Iv c (upd W (8 + 14 * f + 5) x) := by
  obtain ⟨i0, i1, i2, i3, i4, i5, i6, i7, i8, i9, i10⟩ := hI
  have e : ∀ j, j ≠ 8 + 14 * f + 5 → upd W (8 + 14 * f + 5) x j = W j := fun j hj => upd_o hj
  have hF : ∀ g, g < 48 → IvF (upd W (8 + 14 * f + 5) x) g := by
    intro g hg
    by_cases q : g = f
    · subst q
      obtain ⟨a0, a1, a2, a3, a4, a5, a6, a7, a8, a9, a10, a11, a12⟩ := i1 g hg
      unfold IvF
      rw [hn_c (e 1683 (by omega)), e (8 + 14 * g + 0) (by omega), e (8 + 14 * g + 1) (by omega), e (8 + 14 * g + 2) (by omega), e (8 + 14 * g + 3) (by omega), e (8 + 14 * g + 4) (by omega), upd_s, e (8 + 14 * g + 6) (by omega), e (8 + 14 * g + 7) (by omega), e (8 + 14 * g + 8) (by omega), e (8 + 14 * g + 10) (by omega), e (8 + 14 * g + 11) (by omega), e (8 + 14 * g + 12) (by omega), e (8 + 14 * g + 13) (by omega)]
      refine ⟨a0, a1, a2, a3, a4, hx, a6, a7, a8, ?_, a10, a11, a12⟩
      rcases a9 with ⟨b1, b2⟩ | ⟨g', hg', b1, b2⟩
      · exact Or.inl ⟨b1, b2⟩
      · refine Or.inr ⟨g', hg', b1, ?_⟩
        have := i4.2.1
        rw [e (1684 + 11 * g' + 0) (by omega)]
        exact b2
    · exact IvF_d hg i4.2.1 (fun i hi => e i (by omega)) (i1 g hg)
  have hH : IvHs (upd W (8 + 14 * f + 5) x) := by
    unfold IvHs
    rw [hn_c (e 1683 (by omega)), e 1683 (by omega)]
    exact ⟨i4.1, i4.2.1, fun g hg => IvH_d (by have := i4.2.1; omega) (fo_congr (fun f hf => e _ (by omega)) g) (fun i hi => e i (by omega)) (i4.2.2 g hg)⟩
  exact ⟨Iv0_c (e 0 (by omega)) i0, hF, IvRn_c (fun i h1 h2 => e i (by omega)) i2, IvPr_c (by rw [e 0 (by omega)]; exact Int32.lt_irrefl) (fun i h1 h2 => e i (by omega)) i3, hH, IvG_0 (fun i h1 h2 => e i (by omega)) i5, IvLn_c (fun i h1 h2 => e i (by omega)) i6, IvJb_c (fun i h1 h2 => e i (by omega)) i7, IvTb_c (fun i h1 h2 => e i (by omega)) i8, IvRw_c (e _ (by omega)) i9, IvXs_c (fun i h1 h2 => e i (by omega)) i10⟩
theorem kL_6 {f : Nat} {x : Int32} (hI : Iv c W) (hf : f < 48) (h : LkA 4 k E A T W) : LkA 4 k E (up A 10 (288 + f) x) T (upd W (8 + 14 * f + 6) x) := by
  obtain ⟨i0, i1, i2, i3, i4, i5, i6, i7, i8, i9, i10⟩ := hI
  obtain ⟨l0, l1, l2, l3, l4, l5, l6, l7⟩ := h
  have e : ∀ j, j ≠ 8 + 14 * f + 6 → upd W (8 + 14 * f + 6) x j = W j := fun j hj => upd_o hj
  have hA : ∀ r, outK k r → up A 10 (288 + f) x r = A r := fun r hr => up_ne (by have := hr.1; omega)
  exact ⟨l0.trans (e 0 (by omega)).symm, (by rw [show up A 10 (288 + f) x (4 + 6) = upd (A 10) (288 + f) x from up_eq]; exact vL_6 l1 hf), LkM_c i3.2.1 (fun i h1 h2 => e i (by omega)) l2, LkG_c (fun i hi => e i (by omega)) l3, LkP_c (fun i h1 h2 => e i (by omega)) l4, LkR_c (fun i h1 h2 => e i (by omega)) l5, LkH_A (LkH_d i4.2.1 (fun g hg => e _ (by omega)) (fun i hi => e i (by omega)) l6) hA, LkX_A (LkX_c i10.2.1 (fun i h1 h2 => e i (by omega)) l7) hA⟩
theorem jL_6 {f : Nat} {x : Int32} (hI : Iv c W) (hf : f < 48) (hx : rg x 0 99) : Iv c (upd W (8 + 14 * f + 6) x) := by
  obtain ⟨i0, i1, i2, i3, i4, i5, i6, i7, i8, i9, i10⟩ := hI
  have e : ∀ j, j ≠ 8 + 14 * f + 6 → upd W (8 + 14 * f + 6) x j = W j := fun j hj => upd_o hj
  have hF : ∀ g, g < 48 → IvF (upd W (8 + 14 * f + 6) x) g := by
    intro g hg
    by_cases q : g = f
    · subst q
      obtain ⟨a0, a1, a2, a3, a4, a5, a6, a7, a8, a9, a10, a11, a12⟩ := i1 g hg
      unfold IvF
      rw [hn_c (e 1683 (by omega)), e (8 + 14 * g + 0) (by omega), e (8 + 14 * g + 1) (by omega), e (8 + 14 * g + 2) (by omega), e (8 + 14 * g + 3) (by omega), e (8 + 14 * g + 4) (by omega), e (8 + 14 * g + 5) (by omega), upd_s, e (8 + 14 * g + 7) (by omega), e (8 + 14 * g + 8) (by omega), e (8 + 14 * g + 10) (by omega), e (8 + 14 * g + 11) (by omega), e (8 + 14 * g + 12) (by omega), e (8 + 14 * g + 13) (by omega)]
      refine ⟨a0, a1, a2, a3, a4, a5, hx, a7, a8, ?_, a10, a11, a12⟩
      rcases a9 with ⟨b1, b2⟩ | ⟨g', hg', b1, b2⟩
      · exact Or.inl ⟨b1, b2⟩
      · refine Or.inr ⟨g', hg', b1, ?_⟩
        have := i4.2.1
        rw [e (1684 + 11 * g' + 0) (by omega)]
        exact b2
    · exact IvF_d hg i4.2.1 (fun i hi => e i (by omega)) (i1 g hg)
  have hH : IvHs (upd W (8 + 14 * f + 6) x) := by
    unfold IvHs
    rw [hn_c (e 1683 (by omega)), e 1683 (by omega)]
    exact ⟨i4.1, i4.2.1, fun g hg => IvH_d (by have := i4.2.1; omega) (fo_congr (fun f hf => e _ (by omega)) g) (fun i hi => e i (by omega)) (i4.2.2 g hg)⟩
  exact ⟨Iv0_c (e 0 (by omega)) i0, hF, IvRn_c (fun i h1 h2 => e i (by omega)) i2, IvPr_c (by rw [e 0 (by omega)]; exact Int32.lt_irrefl) (fun i h1 h2 => e i (by omega)) i3, hH, IvG_0 (fun i h1 h2 => e i (by omega)) i5, IvLn_c (fun i h1 h2 => e i (by omega)) i6, IvJb_c (fun i h1 h2 => e i (by omega)) i7, IvTb_c (fun i h1 h2 => e i (by omega)) i8, IvRw_c (e _ (by omega)) i9, IvXs_c (fun i h1 h2 => e i (by omega)) i10⟩
theorem kL_7 {f : Nat} {x : Int32} (hI : Iv c W) (hf : f < 48) (h : LkA 4 k E A T W) : LkA 4 k E (up A 10 (336 + f) x) T (upd W (8 + 14 * f + 7) x) := by
  obtain ⟨i0, i1, i2, i3, i4, i5, i6, i7, i8, i9, i10⟩ := hI
  obtain ⟨l0, l1, l2, l3, l4, l5, l6, l7⟩ := h
  have e : ∀ j, j ≠ 8 + 14 * f + 7 → upd W (8 + 14 * f + 7) x j = W j := fun j hj => upd_o hj
  have hA : ∀ r, outK k r → up A 10 (336 + f) x r = A r := fun r hr => up_ne (by have := hr.1; omega)
  exact ⟨l0.trans (e 0 (by omega)).symm, (by rw [show up A 10 (336 + f) x (4 + 6) = upd (A 10) (336 + f) x from up_eq]; exact vL_7 l1 hf), LkM_c i3.2.1 (fun i h1 h2 => e i (by omega)) l2, LkG_c (fun i hi => e i (by omega)) l3, LkP_c (fun i h1 h2 => e i (by omega)) l4, LkR_c (fun i h1 h2 => e i (by omega)) l5, LkH_A (LkH_d i4.2.1 (fun g hg => e _ (by omega)) (fun i hi => e i (by omega)) l6) hA, LkX_A (LkX_c i10.2.1 (fun i h1 h2 => e i (by omega)) l7) hA⟩
theorem jL_7 {f : Nat} {x : Int32} (hI : Iv c W) (hf : f < 48) (hx : rg x (-2147483648) 2147483647) : Iv c (upd W (8 + 14 * f + 7) x) := by
  obtain ⟨i0, i1, i2, i3, i4, i5, i6, i7, i8, i9, i10⟩ := hI
  have e : ∀ j, j ≠ 8 + 14 * f + 7 → upd W (8 + 14 * f + 7) x j = W j := fun j hj => upd_o hj
  have hF : ∀ g, g < 48 → IvF (upd W (8 + 14 * f + 7) x) g := by
    intro g hg
    by_cases q : g = f
    · subst q
      obtain ⟨a0, a1, a2, a3, a4, a5, a6, a7, a8, a9, a10, a11, a12⟩ := i1 g hg
      unfold IvF
      rw [hn_c (e 1683 (by omega)), e (8 + 14 * g + 0) (by omega), e (8 + 14 * g + 1) (by omega), e (8 + 14 * g + 2) (by omega), e (8 + 14 * g + 3) (by omega), e (8 + 14 * g + 4) (by omega), e (8 + 14 * g + 5) (by omega), e (8 + 14 * g + 6) (by omega), upd_s, e (8 + 14 * g + 8) (by omega), e (8 + 14 * g + 10) (by omega), e (8 + 14 * g + 11) (by omega), e (8 + 14 * g + 12) (by omega), e (8 + 14 * g + 13) (by omega)]
      refine ⟨a0, a1, a2, a3, a4, a5, a6, hx, a8, ?_, a10, a11, a12⟩
      rcases a9 with ⟨b1, b2⟩ | ⟨g', hg', b1, b2⟩
      · exact Or.inl ⟨b1, b2⟩
      · refine Or.inr ⟨g', hg', b1, ?_⟩
        have := i4.2.1
        rw [e (1684 + 11 * g' + 0) (by omega)]
        exact b2
    · exact IvF_d hg i4.2.1 (fun i hi => e i (by omega)) (i1 g hg)
  have hH : IvHs (upd W (8 + 14 * f + 7) x) := by
    unfold IvHs
    rw [hn_c (e 1683 (by omega)), e 1683 (by omega)]
    exact ⟨i4.1, i4.2.1, fun g hg => IvH_d (by have := i4.2.1; omega) (fo_congr (fun f hf => e _ (by omega)) g) (fun i hi => e i (by omega)) (i4.2.2 g hg)⟩
  exact ⟨Iv0_c (e 0 (by omega)) i0, hF, IvRn_c (fun i h1 h2 => e i (by omega)) i2, IvPr_c (by rw [e 0 (by omega)]; exact Int32.lt_irrefl) (fun i h1 h2 => e i (by omega)) i3, hH, IvG_0 (fun i h1 h2 => e i (by omega)) i5, IvLn_c (fun i h1 h2 => e i (by omega)) i6, IvJb_c (fun i h1 h2 => e i (by omega)) i7, IvTb_c (fun i h1 h2 => e i (by omega)) i8, IvRw_c (e _ (by omega)) i9, IvXs_c (fun i h1 h2 => e i (by omega)) i10⟩
theorem kL_8 {f : Nat} {x : Int32} (hI : Iv c W) (hf : f < 48) (h : LkA 4 k E A T W) : LkA 4 k E (up A 10 (384 + f) x) T (upd W (8 + 14 * f + 8) x) := by
  obtain ⟨i0, i1, i2, i3, i4, i5, i6, i7, i8, i9, i10⟩ := hI
  obtain ⟨l0, l1, l2, l3, l4, l5, l6, l7⟩ := h
  have e : ∀ j, j ≠ 8 + 14 * f + 8 → upd W (8 + 14 * f + 8) x j = W j := fun j hj => upd_o hj
  have hA : ∀ r, outK k r → up A 10 (384 + f) x r = A r := fun r hr => up_ne (by have := hr.1; omega)
  exact ⟨l0.trans (e 0 (by omega)).symm, (by rw [show up A 10 (384 + f) x (4 + 6) = upd (A 10) (384 + f) x from up_eq]; exact vL_8 l1 hf), LkM_c i3.2.1 (fun i h1 h2 => e i (by omega)) l2, LkG_c (fun i hi => e i (by omega)) l3, LkP_c (fun i h1 h2 => e i (by omega)) l4, LkR_c (fun i h1 h2 => e i (by omega)) l5, LkH_A (LkH_d i4.2.1 (fun g hg => e _ (by omega)) (fun i hi => e i (by omega)) l6) hA, LkX_A (LkX_c i10.2.1 (fun i h1 h2 => e i (by omega)) l7) hA⟩
theorem jL_8 {f : Nat} {x : Int32} (hI : Iv c W) (hf : f < 48) (hx : rg x 0 9) : Iv c (upd W (8 + 14 * f + 8) x) := by
  obtain ⟨i0, i1, i2, i3, i4, i5, i6, i7, i8, i9, i10⟩ := hI
  have e : ∀ j, j ≠ 8 + 14 * f + 8 → upd W (8 + 14 * f + 8) x j = W j := fun j hj => upd_o hj
  have hF : ∀ g, g < 48 → IvF (upd W (8 + 14 * f + 8) x) g := by
    intro g hg
    by_cases q : g = f
    · subst q
      obtain ⟨a0, a1, a2, a3, a4, a5, a6, a7, a8, a9, a10, a11, a12⟩ := i1 g hg
      unfold IvF
      rw [hn_c (e 1683 (by omega)), e (8 + 14 * g + 0) (by omega), e (8 + 14 * g + 1) (by omega), e (8 + 14 * g + 2) (by omega), e (8 + 14 * g + 3) (by omega), e (8 + 14 * g + 4) (by omega), e (8 + 14 * g + 5) (by omega), e (8 + 14 * g + 6) (by omega), e (8 + 14 * g + 7) (by omega), upd_s, e (8 + 14 * g + 10) (by omega), e (8 + 14 * g + 11) (by omega), e (8 + 14 * g + 12) (by omega), e (8 + 14 * g + 13) (by omega)]
      refine ⟨a0, a1, a2, a3, a4, a5, a6, a7, hx, ?_, a10, a11, a12⟩
      rcases a9 with ⟨b1, b2⟩ | ⟨g', hg', b1, b2⟩
      · exact Or.inl ⟨b1, b2⟩
      · refine Or.inr ⟨g', hg', b1, ?_⟩
        have := i4.2.1
        rw [e (1684 + 11 * g' + 0) (by omega)]
        exact b2
    · exact IvF_d hg i4.2.1 (fun i hi => e i (by omega)) (i1 g hg)
  have hH : IvHs (upd W (8 + 14 * f + 8) x) := by
    unfold IvHs
    rw [hn_c (e 1683 (by omega)), e 1683 (by omega)]
    exact ⟨i4.1, i4.2.1, fun g hg => IvH_d (by have := i4.2.1; omega) (fo_congr (fun f hf => e _ (by omega)) g) (fun i hi => e i (by omega)) (i4.2.2 g hg)⟩
  exact ⟨Iv0_c (e 0 (by omega)) i0, hF, IvRn_c (fun i h1 h2 => e i (by omega)) i2, IvPr_c (by rw [e 0 (by omega)]; exact Int32.lt_irrefl) (fun i h1 h2 => e i (by omega)) i3, hH, IvG_0 (fun i h1 h2 => e i (by omega)) i5, IvLn_c (fun i h1 h2 => e i (by omega)) i6, IvJb_c (fun i h1 h2 => e i (by omega)) i7, IvTb_c (fun i h1 h2 => e i (by omega)) i8, IvRw_c (e _ (by omega)) i9, IvXs_c (fun i h1 h2 => e i (by omega)) i10⟩
theorem kL_9 {f : Nat} {x : Int32} (hI : Iv c W) (hf : f < 48) (h : LkA 4 k E A T W) : LkA 4 k E (up A 10 (432 + f) x) T (upd W (8 + 14 * f + 9) x) := by
  obtain ⟨i0, i1, i2, i3, i4, i5, i6, i7, i8, i9, i10⟩ := hI
  obtain ⟨l0, l1, l2, l3, l4, l5, l6, l7⟩ := h
  have e : ∀ j, j ≠ 8 + 14 * f + 9 → upd W (8 + 14 * f + 9) x j = W j := fun j hj => upd_o hj
  have hA : ∀ r, outK k r → up A 10 (432 + f) x r = A r := fun r hr => up_ne (by have := hr.1; omega)
  exact ⟨l0.trans (e 0 (by omega)).symm, (by rw [show up A 10 (432 + f) x (4 + 6) = upd (A 10) (432 + f) x from up_eq]; exact vL_9 l1 hf), LkM_c i3.2.1 (fun i h1 h2 => e i (by omega)) l2, LkG_c (fun i hi => e i (by omega)) l3, LkP_c (fun i h1 h2 => e i (by omega)) l4, LkR_c (fun i h1 h2 => e i (by omega)) l5, LkH_A (LkH_d i4.2.1 (fun g hg => e _ (by omega)) (fun i hi => e i (by omega)) l6) hA, LkX_A (LkX_c i10.2.1 (fun i h1 h2 => e i (by omega)) l7) hA⟩
theorem jL_9 {f : Nat} {x : Int32} (hI : Iv c W) (hf : f < 48) (hx : True) : Iv c (upd W (8 + 14 * f + 9) x) := by
  obtain ⟨i0, i1, i2, i3, i4, i5, i6, i7, i8, i9, i10⟩ := hI
  have e : ∀ j, j ≠ 8 + 14 * f + 9 → upd W (8 + 14 * f + 9) x j = W j := fun j hj => upd_o hj
  have hF : ∀ g, g < 48 → IvF (upd W (8 + 14 * f + 9) x) g := by
    intro g hg
    by_cases q : g = f
    · subst q
      obtain ⟨a0, a1, a2, a3, a4, a5, a6, a7, a8, a9, a10, a11, a12⟩ := i1 g hg
      unfold IvF
      rw [hn_c (e 1683 (by omega)), e (8 + 14 * g + 0) (by omega), e (8 + 14 * g + 1) (by omega), e (8 + 14 * g + 2) (by omega), e (8 + 14 * g + 3) (by omega), e (8 + 14 * g + 4) (by omega), e (8 + 14 * g + 5) (by omega), e (8 + 14 * g + 6) (by omega), e (8 + 14 * g + 7) (by omega), e (8 + 14 * g + 8) (by omega), e (8 + 14 * g + 10) (by omega), e (8 + 14 * g + 11) (by omega), e (8 + 14 * g + 12) (by omega), e (8 + 14 * g + 13) (by omega)]
      refine ⟨a0, a1, a2, a3, a4, a5, a6, a7, a8, ?_, a10, a11, a12⟩
      rcases a9 with ⟨b1, b2⟩ | ⟨g', hg', b1, b2⟩
      · exact Or.inl ⟨b1, b2⟩
      · refine Or.inr ⟨g', hg', b1, ?_⟩
        have := i4.2.1
        rw [e (1684 + 11 * g' + 0) (by omega)]
        exact b2
    · exact IvF_d hg i4.2.1 (fun i hi => e i (by omega)) (i1 g hg)
  have hH : IvHs (upd W (8 + 14 * f + 9) x) := by
    unfold IvHs
    rw [hn_c (e 1683 (by omega)), e 1683 (by omega)]
    exact ⟨i4.1, i4.2.1, fun g hg => IvH_d (by have := i4.2.1; omega) (fo_congr (fun f hf => e _ (by omega)) g) (fun i hi => e i (by omega)) (i4.2.2 g hg)⟩
  exact ⟨Iv0_c (e 0 (by omega)) i0, hF, IvRn_c (fun i h1 h2 => e i (by omega)) i2, IvPr_c (by rw [e 0 (by omega)]; exact Int32.lt_irrefl) (fun i h1 h2 => e i (by omega)) i3, hH, IvG_0 (fun i h1 h2 => e i (by omega)) i5, IvLn_c (fun i h1 h2 => e i (by omega)) i6, IvJb_c (fun i h1 h2 => e i (by omega)) i7, IvTb_c (fun i h1 h2 => e i (by omega)) i8, IvRw_c (e _ (by omega)) i9, IvXs_c (fun i h1 h2 => e i (by omega)) i10⟩
theorem kL_11 {f : Nat} {x : Int32} (hI : Iv c W) (hf : f < 48) (h : LkA 4 k E A T W) : LkA 4 k E (up A 10 (528 + f) x) T (upd W (8 + 14 * f + 11) x) := by
  obtain ⟨i0, i1, i2, i3, i4, i5, i6, i7, i8, i9, i10⟩ := hI
  obtain ⟨l0, l1, l2, l3, l4, l5, l6, l7⟩ := h
  have e : ∀ j, j ≠ 8 + 14 * f + 11 → upd W (8 + 14 * f + 11) x j = W j := fun j hj => upd_o hj
  have hA : ∀ r, outK k r → up A 10 (528 + f) x r = A r := fun r hr => up_ne (by have := hr.1; omega)
  exact ⟨l0.trans (e 0 (by omega)).symm, (by rw [show up A 10 (528 + f) x (4 + 6) = upd (A 10) (528 + f) x from up_eq]; exact vL_11 l1 hf), LkM_c i3.2.1 (fun i h1 h2 => e i (by omega)) l2, LkG_c (fun i hi => e i (by omega)) l3, LkP_c (fun i h1 h2 => e i (by omega)) l4, LkR_c (fun i h1 h2 => e i (by omega)) l5, LkH_A (LkH_d i4.2.1 (fun g hg => e _ (by omega)) (fun i hi => e i (by omega)) l6) hA, LkX_A (LkX_c i10.2.1 (fun i h1 h2 => e i (by omega)) l7) hA⟩
theorem jL_11 {f : Nat} {x : Int32} (hI : Iv c W) (hf : f < 48) (hx : x = 0 ∨ x = 1 ∧ W (8 + 14 * f + 10) = -1) : Iv c (upd W (8 + 14 * f + 11) x) := by
  obtain ⟨i0, i1, i2, i3, i4, i5, i6, i7, i8, i9, i10⟩ := hI
  have e : ∀ j, j ≠ 8 + 14 * f + 11 → upd W (8 + 14 * f + 11) x j = W j := fun j hj => upd_o hj
  have hF : ∀ g, g < 48 → IvF (upd W (8 + 14 * f + 11) x) g := by
    intro g hg
    by_cases q : g = f
    · subst q
      obtain ⟨a0, a1, a2, a3, a4, a5, a6, a7, a8, a9, a10, a11, a12⟩ := i1 g hg
      unfold IvF
      rw [hn_c (e 1683 (by omega)), e (8 + 14 * g + 0) (by omega), e (8 + 14 * g + 1) (by omega), e (8 + 14 * g + 2) (by omega), e (8 + 14 * g + 3) (by omega), e (8 + 14 * g + 4) (by omega), e (8 + 14 * g + 5) (by omega), e (8 + 14 * g + 6) (by omega), e (8 + 14 * g + 7) (by omega), e (8 + 14 * g + 8) (by omega), e (8 + 14 * g + 10) (by omega), upd_s, e (8 + 14 * g + 12) (by omega), e (8 + 14 * g + 13) (by omega)]
      refine ⟨a0, a1, a2, a3, a4, a5, a6, a7, a8, ?_, hx, a11, a12⟩
      rcases a9 with ⟨b1, b2⟩ | ⟨g', hg', b1, b2⟩
      · exact Or.inl ⟨b1, b2⟩
      · refine Or.inr ⟨g', hg', b1, ?_⟩
        have := i4.2.1
        rw [e (1684 + 11 * g' + 0) (by omega)]
        exact b2
    · exact IvF_d hg i4.2.1 (fun i hi => e i (by omega)) (i1 g hg)
  have hH : IvHs (upd W (8 + 14 * f + 11) x) := by
    unfold IvHs
    rw [hn_c (e 1683 (by omega)), e 1683 (by omega)]
    exact ⟨i4.1, i4.2.1, fun g hg => IvH_d (by have := i4.2.1; omega) (fo_congr (fun f hf => e _ (by omega)) g) (fun i hi => e i (by omega)) (i4.2.2 g hg)⟩
  exact ⟨Iv0_c (e 0 (by omega)) i0, hF, IvRn_c (fun i h1 h2 => e i (by omega)) i2, IvPr_c (by rw [e 0 (by omega)]; exact Int32.lt_irrefl) (fun i h1 h2 => e i (by omega)) i3, hH, IvG_0 (fun i h1 h2 => e i (by omega)) i5, IvLn_c (fun i h1 h2 => e i (by omega)) i6, IvJb_c (fun i h1 h2 => e i (by omega)) i7, IvTb_c (fun i h1 h2 => e i (by omega)) i8, IvRw_c (e _ (by omega)) i9, IvXs_c (fun i h1 h2 => e i (by omega)) i10⟩
theorem kL_12 {f : Nat} {x : Int32} (hI : Iv c W) (hf : f < 48) (h : LkA 4 k E A T W) : LkA 4 k E (up A 10 (576 + f) x) T (upd W (8 + 14 * f + 12) x) := by
  obtain ⟨i0, i1, i2, i3, i4, i5, i6, i7, i8, i9, i10⟩ := hI
  obtain ⟨l0, l1, l2, l3, l4, l5, l6, l7⟩ := h
  have e : ∀ j, j ≠ 8 + 14 * f + 12 → upd W (8 + 14 * f + 12) x j = W j := fun j hj => upd_o hj
  have hA : ∀ r, outK k r → up A 10 (576 + f) x r = A r := fun r hr => up_ne (by have := hr.1; omega)
  exact ⟨l0.trans (e 0 (by omega)).symm, (by rw [show up A 10 (576 + f) x (4 + 6) = upd (A 10) (576 + f) x from up_eq]; exact vL_12 l1 hf), LkM_c i3.2.1 (fun i h1 h2 => e i (by omega)) l2, LkG_c (fun i hi => e i (by omega)) l3, LkP_c (fun i h1 h2 => e i (by omega)) l4, LkR_c (fun i h1 h2 => e i (by omega)) l5, LkH_A (LkH_d i4.2.1 (fun g hg => e _ (by omega)) (fun i hi => e i (by omega)) l6) hA, LkX_A (LkX_c i10.2.1 (fun i h1 h2 => e i (by omega)) l7) hA⟩
theorem jL_12 {f : Nat} {x : Int32} (hI : Iv c W) (hf : f < 48) (hx : rg x 0 24) : Iv c (upd W (8 + 14 * f + 12) x) := by
  obtain ⟨i0, i1, i2, i3, i4, i5, i6, i7, i8, i9, i10⟩ := hI
  have e : ∀ j, j ≠ 8 + 14 * f + 12 → upd W (8 + 14 * f + 12) x j = W j := fun j hj => upd_o hj
  have hF : ∀ g, g < 48 → IvF (upd W (8 + 14 * f + 12) x) g := by
    intro g hg
    by_cases q : g = f
    · subst q
      obtain ⟨a0, a1, a2, a3, a4, a5, a6, a7, a8, a9, a10, a11, a12⟩ := i1 g hg
      unfold IvF
      rw [hn_c (e 1683 (by omega)), e (8 + 14 * g + 0) (by omega), e (8 + 14 * g + 1) (by omega), e (8 + 14 * g + 2) (by omega), e (8 + 14 * g + 3) (by omega), e (8 + 14 * g + 4) (by omega), e (8 + 14 * g + 5) (by omega), e (8 + 14 * g + 6) (by omega), e (8 + 14 * g + 7) (by omega), e (8 + 14 * g + 8) (by omega), e (8 + 14 * g + 10) (by omega), e (8 + 14 * g + 11) (by omega), upd_s, e (8 + 14 * g + 13) (by omega)]
      refine ⟨a0, a1, a2, a3, a4, a5, a6, a7, a8, ?_, a10, hx, a12⟩
      rcases a9 with ⟨b1, b2⟩ | ⟨g', hg', b1, b2⟩
      · exact Or.inl ⟨b1, b2⟩
      · refine Or.inr ⟨g', hg', b1, ?_⟩
        have := i4.2.1
        rw [e (1684 + 11 * g' + 0) (by omega)]
        exact b2
    · exact IvF_d hg i4.2.1 (fun i hi => e i (by omega)) (i1 g hg)
  have hH : IvHs (upd W (8 + 14 * f + 12) x) := by
    unfold IvHs
    rw [hn_c (e 1683 (by omega)), e 1683 (by omega)]
    exact ⟨i4.1, i4.2.1, fun g hg => IvH_d (by have := i4.2.1; omega) (fo_congr (fun f hf => e _ (by omega)) g) (fun i hi => e i (by omega)) (i4.2.2 g hg)⟩
  exact ⟨Iv0_c (e 0 (by omega)) i0, hF, IvRn_c (fun i h1 h2 => e i (by omega)) i2, IvPr_c (by rw [e 0 (by omega)]; exact Int32.lt_irrefl) (fun i h1 h2 => e i (by omega)) i3, hH, IvG_0 (fun i h1 h2 => e i (by omega)) i5, IvLn_c (fun i h1 h2 => e i (by omega)) i6, IvJb_c (fun i h1 h2 => e i (by omega)) i7, IvTb_c (fun i h1 h2 => e i (by omega)) i8, IvRw_c (e _ (by omega)) i9, IvXs_c (fun i h1 h2 => e i (by omega)) i10⟩
theorem kL_13 {f : Nat} {x : Int32} (hI : Iv c W) (hf : f < 48) (h : LkA 4 k E A T W) : LkA 4 k E (up A 10 (624 + f) x) T (upd W (8 + 14 * f + 13) x) := by
  obtain ⟨i0, i1, i2, i3, i4, i5, i6, i7, i8, i9, i10⟩ := hI
  obtain ⟨l0, l1, l2, l3, l4, l5, l6, l7⟩ := h
  have e : ∀ j, j ≠ 8 + 14 * f + 13 → upd W (8 + 14 * f + 13) x j = W j := fun j hj => upd_o hj
  have hA : ∀ r, outK k r → up A 10 (624 + f) x r = A r := fun r hr => up_ne (by have := hr.1; omega)
  exact ⟨l0.trans (e 0 (by omega)).symm, (by rw [show up A 10 (624 + f) x (4 + 6) = upd (A 10) (624 + f) x from up_eq]; exact vL_13 l1 hf), LkM_c i3.2.1 (fun i h1 h2 => e i (by omega)) l2, LkG_c (fun i hi => e i (by omega)) l3, LkP_c (fun i h1 h2 => e i (by omega)) l4, LkR_c (fun i h1 h2 => e i (by omega)) l5, LkH_A (LkH_d i4.2.1 (fun g hg => e _ (by omega)) (fun i hi => e i (by omega)) l6) hA, LkX_A (LkX_c i10.2.1 (fun i h1 h2 => e i (by omega)) l7) hA⟩
theorem jL_13 {f : Nat} {x : Int32} (hI : Iv c W) (hf : f < 48) (hx : rg x 0 5) : Iv c (upd W (8 + 14 * f + 13) x) := by
  obtain ⟨i0, i1, i2, i3, i4, i5, i6, i7, i8, i9, i10⟩ := hI
  have e : ∀ j, j ≠ 8 + 14 * f + 13 → upd W (8 + 14 * f + 13) x j = W j := fun j hj => upd_o hj
  have hF : ∀ g, g < 48 → IvF (upd W (8 + 14 * f + 13) x) g := by
    intro g hg
    by_cases q : g = f
    · subst q
      obtain ⟨a0, a1, a2, a3, a4, a5, a6, a7, a8, a9, a10, a11, a12⟩ := i1 g hg
      unfold IvF
      rw [hn_c (e 1683 (by omega)), e (8 + 14 * g + 0) (by omega), e (8 + 14 * g + 1) (by omega), e (8 + 14 * g + 2) (by omega), e (8 + 14 * g + 3) (by omega), e (8 + 14 * g + 4) (by omega), e (8 + 14 * g + 5) (by omega), e (8 + 14 * g + 6) (by omega), e (8 + 14 * g + 7) (by omega), e (8 + 14 * g + 8) (by omega), e (8 + 14 * g + 10) (by omega), e (8 + 14 * g + 11) (by omega), e (8 + 14 * g + 12) (by omega), upd_s]
      refine ⟨a0, a1, a2, a3, a4, a5, a6, a7, a8, ?_, a10, a11, hx⟩
      rcases a9 with ⟨b1, b2⟩ | ⟨g', hg', b1, b2⟩
      · exact Or.inl ⟨b1, b2⟩
      · refine Or.inr ⟨g', hg', b1, ?_⟩
        have := i4.2.1
        rw [e (1684 + 11 * g' + 0) (by omega)]
        exact b2
    · exact IvF_d hg i4.2.1 (fun i hi => e i (by omega)) (i1 g hg)
  have hH : IvHs (upd W (8 + 14 * f + 13) x) := by
    unfold IvHs
    rw [hn_c (e 1683 (by omega)), e 1683 (by omega)]
    exact ⟨i4.1, i4.2.1, fun g hg => IvH_d (by have := i4.2.1; omega) (fo_congr (fun f hf => e _ (by omega)) g) (fun i hi => e i (by omega)) (i4.2.2 g hg)⟩
  exact ⟨Iv0_c (e 0 (by omega)) i0, hF, IvRn_c (fun i h1 h2 => e i (by omega)) i2, IvPr_c (by rw [e 0 (by omega)]; exact Int32.lt_irrefl) (fun i h1 h2 => e i (by omega)) i3, hH, IvG_0 (fun i h1 h2 => e i (by omega)) i5, IvLn_c (fun i h1 h2 => e i (by omega)) i6, IvJb_c (fun i h1 h2 => e i (by omega)) i7, IvTb_c (fun i h1 h2 => e i (by omega)) i8, IvRw_c (e _ (by omega)) i9, IvXs_c (fun i h1 h2 => e i (by omega)) i10⟩
theorem kH_2 {h : Nat} {x : Int32} (hI : Iv c W) (hh : h < hn W) (h0 : LkA 4 k E A T W) : LkA 4 k E (up A 12 (48 + h) x) T (upd W (1684 + 11 * h + 1) x) := by
  obtain ⟨i0, i1, i2, i3, i4, i5, i6, i7, i8, i9, i10⟩ := hI
  obtain ⟨l0, l1, l2, l3, l4, l5, l6, l7⟩ := h0
  have h24 := i4.2.1
  have e : ∀ j, j ≠ 1684 + 11 * h + 1 → upd W (1684 + 11 * h + 1) x j = W j := fun j hj => upd_o hj
  have hA : ∀ r, outK k r → up A 12 (48 + h) x r = A r := fun r hr => up_ne (by have := hr.1; omega)
  refine ⟨l0.trans (e 0 (by omega)).symm, LkL_c (fun i h1 h2 => e i (by omega)) l1, LkM_c i3.2.1 (fun i h1 h2 => e i (by omega)) l2, LkG_c (fun i hi => e i (by omega)) l3, LkP_c (fun i h1 h2 => e i (by omega)) l4, LkR_c (fun i h1 h2 => e i (by omega)) l5, ?_, LkX_A (LkX_c i10.2.1 (fun i h1 h2 => e i (by omega)) l7) hA⟩
  obtain ⟨m1, m2, m3, m4⟩ := l6
  unfold LkH
  rw [hn_c (e 1683 (by omega)), e 1683 (by omega), show up A 12 (48 + h) x (4 + 8) = upd (A 12) (48 + h) x from up_eq]
  refine ⟨m1, fun g hg => vH_2 (fun g _ hg => m2 g hg) (by omega) g (by omega) hg, m3, fun g hg hk => ?_⟩
  rw [e _ (by omega)] at hk
  obtain ⟨a, e1, t⟩ := m4 g hg hk
  exact ⟨a, e1, TR_A (TR_c (fun i h1 h2 => e i (by unfold tx at h1; omega)) t) hA⟩
theorem jH_1 {h : Nat} {x : Int32} (hI : Iv c W) (hh : h < hn W) (hx : rg x 0 2000000000) : Iv c (upd W (1684 + 11 * h + 1) x) := by
  obtain ⟨i0, i1, i2, i3, i4, i5, i6, i7, i8, i9, i10⟩ := hI
  have h24 := i4.2.1
  have e : ∀ j, j ≠ 1684 + 11 * h + 1 → upd W (1684 + 11 * h + 1) x j = W j := fun j hj => upd_o hj
  have ef : ∀ g, fo (upd W (1684 + 11 * h + 1) x) g = fo W g := fun g => fo_congr (fun f hf => e _ (by omega)) g
  have hH : IvHs (upd W (1684 + 11 * h + 1) x) := by
    unfold IvHs
    rw [hn_c (e 1683 (by omega)), e 1683 (by omega)]
    refine ⟨i4.1, i4.2.1, fun g hg => ?_⟩
    have q := i4.2.2 g hg
    unfold IvH at q ⊢
    rw [ef]
    obtain ⟨a0, a1, a2, a3, a4, a5, a6, a7, a8, a9, a10⟩ := q
    have a10' : (W (1684 + 11 * g + 0) = 0 ∨ W (1684 + 11 * g + 0) = 1) → ∃ nl nc, WT (upd W (1684 + 11 * h + 1) x) (tx (12 + g)) nl nc := fun q => by
      obtain ⟨nl, nc, t⟩ := a10 q
      exact ⟨nl, nc, WT_c (fun i h1 h2 => e i (by unfold tx at h1; omega)) t⟩
    by_cases q : g = h
    · subst q
      rw [e (1684 + 11 * g + 0) (by omega), upd_s, e (1684 + 11 * g + 2) (by omega), e (1684 + 11 * g + 3) (by omega), e (1684 + 11 * g + 5) (by omega), e (1684 + 11 * g + 6) (by omega), e (1684 + 11 * g + 8) (by omega), e (1684 + 11 * g + 9) (by omega), e (1684 + 11 * g + 10) (by omega)]
      exact ⟨a0, hx, a2, a3, a4, a5, a6, a7, a8, a9, a10'⟩
    · rw [e (1684 + 11 * g + 0) (by omega), e (1684 + 11 * g + 1) (by omega), e (1684 + 11 * g + 2) (by omega), e (1684 + 11 * g + 3) (by omega), e (1684 + 11 * g + 5) (by omega), e (1684 + 11 * g + 6) (by omega), e (1684 + 11 * g + 8) (by omega), e (1684 + 11 * g + 9) (by omega), e (1684 + 11 * g + 10) (by omega)]
      exact ⟨a0, a1, a2, a3, a4, a5, a6, a7, a8, a9, a10'⟩
  have hF : ∀ g, g < 48 → IvF (upd W (1684 + 11 * h + 1) x) g := by
    intro g hg
    have q := i1 g hg
    unfold IvF at q ⊢
    rw [hn_c (e 1683 (by omega)), e (8 + 14 * g + 0) (by omega), e (8 + 14 * g + 1) (by omega), e (8 + 14 * g + 2) (by omega), e (8 + 14 * g + 3) (by omega), e (8 + 14 * g + 4) (by omega), e (8 + 14 * g + 5) (by omega), e (8 + 14 * g + 6) (by omega), e (8 + 14 * g + 7) (by omega), e (8 + 14 * g + 8) (by omega), e (8 + 14 * g + 10) (by omega), e (8 + 14 * g + 11) (by omega), e (8 + 14 * g + 12) (by omega), e (8 + 14 * g + 13) (by omega)]
    obtain ⟨a0, a1, a2, a3, a4, a5, a6, a7, a8, a9, a10⟩ := q
    refine ⟨a0, a1, a2, a3, a4, a5, a6, a7, a8, ?_, a10⟩
    rcases a9 with a9 | ⟨g', hg', a9⟩
    · exact Or.inl a9
    · refine Or.inr ⟨g', hg', ?_⟩
      rw [e (1684 + 11 * g' + 0) (by omega)]
      exact a9
  exact ⟨Iv0_c (e 0 (by omega)) i0, hF, IvRn_c (fun i h1 h2 => e i (by omega)) i2, IvPr_c (by rw [e 0 (by omega)]; exact Int32.lt_irrefl) (fun i h1 h2 => e i (by omega)) i3, hH, IvG_0 (fun i h1 h2 => e i (by omega)) i5, IvLn_c (fun i h1 h2 => e i (by omega)) i6, IvJb_c (fun i h1 h2 => e i (by omega)) i7, IvTb_c (fun i h1 h2 => e i (by omega)) i8, IvRw_c (e _ (by omega)) i9, IvXs_c (fun i h1 h2 => e i (by omega)) i10⟩
theorem kH_3 {h : Nat} {x : Int32} (hI : Iv c W) (hh : h < hn W) (h0 : LkA 4 k E A T W) : LkA 4 k E (up A 12 (72 + h) x) T (upd W (1684 + 11 * h + 2) x) := by
  obtain ⟨i0, i1, i2, i3, i4, i5, i6, i7, i8, i9, i10⟩ := hI
  obtain ⟨l0, l1, l2, l3, l4, l5, l6, l7⟩ := h0
  have h24 := i4.2.1
  have e : ∀ j, j ≠ 1684 + 11 * h + 2 → upd W (1684 + 11 * h + 2) x j = W j := fun j hj => upd_o hj
  have hA : ∀ r, outK k r → up A 12 (72 + h) x r = A r := fun r hr => up_ne (by have := hr.1; omega)
  refine ⟨l0.trans (e 0 (by omega)).symm, LkL_c (fun i h1 h2 => e i (by omega)) l1, LkM_c i3.2.1 (fun i h1 h2 => e i (by omega)) l2, LkG_c (fun i hi => e i (by omega)) l3, LkP_c (fun i h1 h2 => e i (by omega)) l4, LkR_c (fun i h1 h2 => e i (by omega)) l5, ?_, LkX_A (LkX_c i10.2.1 (fun i h1 h2 => e i (by omega)) l7) hA⟩
  obtain ⟨m1, m2, m3, m4⟩ := l6
  unfold LkH
  rw [hn_c (e 1683 (by omega)), e 1683 (by omega), show up A 12 (72 + h) x (4 + 8) = upd (A 12) (72 + h) x from up_eq]
  refine ⟨m1, fun g hg => vH_3 (fun g _ hg => m2 g hg) (by omega) g (by omega) hg, m3, fun g hg hk => ?_⟩
  rw [e _ (by omega)] at hk
  obtain ⟨a, e1, t⟩ := m4 g hg hk
  exact ⟨a, e1, TR_A (TR_c (fun i h1 h2 => e i (by unfold tx at h1; omega)) t) hA⟩
theorem jH_2 {h : Nat} {x : Int32} (hI : Iv c W) (hh : h < hn W) (hx : rg x 0 2000000000) : Iv c (upd W (1684 + 11 * h + 2) x) := by
  obtain ⟨i0, i1, i2, i3, i4, i5, i6, i7, i8, i9, i10⟩ := hI
  have h24 := i4.2.1
  have e : ∀ j, j ≠ 1684 + 11 * h + 2 → upd W (1684 + 11 * h + 2) x j = W j := fun j hj => upd_o hj
  have ef : ∀ g, fo (upd W (1684 + 11 * h + 2) x) g = fo W g := fun g => fo_congr (fun f hf => e _ (by omega)) g
  have hH : IvHs (upd W (1684 + 11 * h + 2) x) := by
    unfold IvHs
    rw [hn_c (e 1683 (by omega)), e 1683 (by omega)]
    refine ⟨i4.1, i4.2.1, fun g hg => ?_⟩
    have q := i4.2.2 g hg
    unfold IvH at q ⊢
    rw [ef]
    obtain ⟨a0, a1, a2, a3, a4, a5, a6, a7, a8, a9, a10⟩ := q
    have a10' : (W (1684 + 11 * g + 0) = 0 ∨ W (1684 + 11 * g + 0) = 1) → ∃ nl nc, WT (upd W (1684 + 11 * h + 2) x) (tx (12 + g)) nl nc := fun q => by
      obtain ⟨nl, nc, t⟩ := a10 q
      exact ⟨nl, nc, WT_c (fun i h1 h2 => e i (by unfold tx at h1; omega)) t⟩
    by_cases q : g = h
    · subst q
      rw [e (1684 + 11 * g + 0) (by omega), e (1684 + 11 * g + 1) (by omega), upd_s, e (1684 + 11 * g + 3) (by omega), e (1684 + 11 * g + 5) (by omega), e (1684 + 11 * g + 6) (by omega), e (1684 + 11 * g + 8) (by omega), e (1684 + 11 * g + 9) (by omega), e (1684 + 11 * g + 10) (by omega)]
      exact ⟨a0, a1, hx, a3, a4, a5, a6, a7, a8, a9, a10'⟩
    · rw [e (1684 + 11 * g + 0) (by omega), e (1684 + 11 * g + 1) (by omega), e (1684 + 11 * g + 2) (by omega), e (1684 + 11 * g + 3) (by omega), e (1684 + 11 * g + 5) (by omega), e (1684 + 11 * g + 6) (by omega), e (1684 + 11 * g + 8) (by omega), e (1684 + 11 * g + 9) (by omega), e (1684 + 11 * g + 10) (by omega)]
      exact ⟨a0, a1, a2, a3, a4, a5, a6, a7, a8, a9, a10'⟩
  have hF : ∀ g, g < 48 → IvF (upd W (1684 + 11 * h + 2) x) g := by
    intro g hg
    have q := i1 g hg
    unfold IvF at q ⊢
    rw [hn_c (e 1683 (by omega)), e (8 + 14 * g + 0) (by omega), e (8 + 14 * g + 1) (by omega), e (8 + 14 * g + 2) (by omega), e (8 + 14 * g + 3) (by omega), e (8 + 14 * g + 4) (by omega), e (8 + 14 * g + 5) (by omega), e (8 + 14 * g + 6) (by omega), e (8 + 14 * g + 7) (by omega), e (8 + 14 * g + 8) (by omega), e (8 + 14 * g + 10) (by omega), e (8 + 14 * g + 11) (by omega), e (8 + 14 * g + 12) (by omega), e (8 + 14 * g + 13) (by omega)]
    obtain ⟨a0, a1, a2, a3, a4, a5, a6, a7, a8, a9, a10⟩ := q
    refine ⟨a0, a1, a2, a3, a4, a5, a6, a7, a8, ?_, a10⟩
    rcases a9 with a9 | ⟨g', hg', a9⟩
    · exact Or.inl a9
    · refine Or.inr ⟨g', hg', ?_⟩
      rw [e (1684 + 11 * g' + 0) (by omega)]
      exact a9
  exact ⟨Iv0_c (e 0 (by omega)) i0, hF, IvRn_c (fun i h1 h2 => e i (by omega)) i2, IvPr_c (by rw [e 0 (by omega)]; exact Int32.lt_irrefl) (fun i h1 h2 => e i (by omega)) i3, hH, IvG_0 (fun i h1 h2 => e i (by omega)) i5, IvLn_c (fun i h1 h2 => e i (by omega)) i6, IvJb_c (fun i h1 h2 => e i (by omega)) i7, IvTb_c (fun i h1 h2 => e i (by omega)) i8, IvRw_c (e _ (by omega)) i9, IvXs_c (fun i h1 h2 => e i (by omega)) i10⟩
theorem kH_4 {h : Nat} {x : Int32} (hI : Iv c W) (hh : h < hn W) (h0 : LkA 4 k E A T W) : LkA 4 k E (up A 12 (96 + h) x) T (upd W (1684 + 11 * h + 3) x) := by
  obtain ⟨i0, i1, i2, i3, i4, i5, i6, i7, i8, i9, i10⟩ := hI
  obtain ⟨l0, l1, l2, l3, l4, l5, l6, l7⟩ := h0
  have h24 := i4.2.1
  have e : ∀ j, j ≠ 1684 + 11 * h + 3 → upd W (1684 + 11 * h + 3) x j = W j := fun j hj => upd_o hj
  have hA : ∀ r, outK k r → up A 12 (96 + h) x r = A r := fun r hr => up_ne (by have := hr.1; omega)
  refine ⟨l0.trans (e 0 (by omega)).symm, LkL_c (fun i h1 h2 => e i (by omega)) l1, LkM_c i3.2.1 (fun i h1 h2 => e i (by omega)) l2, LkG_c (fun i hi => e i (by omega)) l3, LkP_c (fun i h1 h2 => e i (by omega)) l4, LkR_c (fun i h1 h2 => e i (by omega)) l5, ?_, LkX_A (LkX_c i10.2.1 (fun i h1 h2 => e i (by omega)) l7) hA⟩
  obtain ⟨m1, m2, m3, m4⟩ := l6
  unfold LkH
  rw [hn_c (e 1683 (by omega)), e 1683 (by omega), show up A 12 (96 + h) x (4 + 8) = upd (A 12) (96 + h) x from up_eq]
  refine ⟨m1, fun g hg => vH_4 (fun g _ hg => m2 g hg) (by omega) g (by omega) hg, m3, fun g hg hk => ?_⟩
  rw [e _ (by omega)] at hk
  obtain ⟨a, e1, t⟩ := m4 g hg hk
  exact ⟨a, e1, TR_A (TR_c (fun i h1 h2 => e i (by unfold tx at h1; omega)) t) hA⟩
theorem jH_3 {h : Nat} {x : Int32} (hI : Iv c W) (hh : h < hn W) (hx : rg x 0 2000000000) : Iv c (upd W (1684 + 11 * h + 3) x) := by
  obtain ⟨i0, i1, i2, i3, i4, i5, i6, i7, i8, i9, i10⟩ := hI
  have h24 := i4.2.1
  have e : ∀ j, j ≠ 1684 + 11 * h + 3 → upd W (1684 + 11 * h + 3) x j = W j := fun j hj => upd_o hj
  have ef : ∀ g, fo (upd W (1684 + 11 * h + 3) x) g = fo W g := fun g => fo_congr (fun f hf => e _ (by omega)) g
  have hH : IvHs (upd W (1684 + 11 * h + 3) x) := by
    unfold IvHs
    rw [hn_c (e 1683 (by omega)), e 1683 (by omega)]
    refine ⟨i4.1, i4.2.1, fun g hg => ?_⟩
    have q := i4.2.2 g hg
    unfold IvH at q ⊢
    rw [ef]
    obtain ⟨a0, a1, a2, a3, a4, a5, a6, a7, a8, a9, a10⟩ := q
    have a10' : (W (1684 + 11 * g + 0) = 0 ∨ W (1684 + 11 * g + 0) = 1) → ∃ nl nc, WT (upd W (1684 + 11 * h + 3) x) (tx (12 + g)) nl nc := fun q => by
      obtain ⟨nl, nc, t⟩ := a10 q
      exact ⟨nl, nc, WT_c (fun i h1 h2 => e i (by unfold tx at h1; omega)) t⟩
    by_cases q : g = h
    · subst q
      rw [e (1684 + 11 * g + 0) (by omega), e (1684 + 11 * g + 1) (by omega), e (1684 + 11 * g + 2) (by omega), upd_s, e (1684 + 11 * g + 5) (by omega), e (1684 + 11 * g + 6) (by omega), e (1684 + 11 * g + 8) (by omega), e (1684 + 11 * g + 9) (by omega), e (1684 + 11 * g + 10) (by omega)]
      exact ⟨a0, a1, a2, hx, a4, a5, a6, a7, a8, a9, a10'⟩
    · rw [e (1684 + 11 * g + 0) (by omega), e (1684 + 11 * g + 1) (by omega), e (1684 + 11 * g + 2) (by omega), e (1684 + 11 * g + 3) (by omega), e (1684 + 11 * g + 5) (by omega), e (1684 + 11 * g + 6) (by omega), e (1684 + 11 * g + 8) (by omega), e (1684 + 11 * g + 9) (by omega), e (1684 + 11 * g + 10) (by omega)]
      exact ⟨a0, a1, a2, a3, a4, a5, a6, a7, a8, a9, a10'⟩
  have hF : ∀ g, g < 48 → IvF (upd W (1684 + 11 * h + 3) x) g := by
    intro g hg
    have q := i1 g hg
    unfold IvF at q ⊢
    rw [hn_c (e 1683 (by omega)), e (8 + 14 * g + 0) (by omega), e (8 + 14 * g + 1) (by omega), e (8 + 14 * g + 2) (by omega), e (8 + 14 * g + 3) (by omega), e (8 + 14 * g + 4) (by omega), e (8 + 14 * g + 5) (by omega), e (8 + 14 * g + 6) (by omega), e (8 + 14 * g + 7) (by omega), e (8 + 14 * g + 8) (by omega), e (8 + 14 * g + 10) (by omega), e (8 + 14 * g + 11) (by omega), e (8 + 14 * g + 12) (by omega), e (8 + 14 * g + 13) (by omega)]
    obtain ⟨a0, a1, a2, a3, a4, a5, a6, a7, a8, a9, a10⟩ := q
    refine ⟨a0, a1, a2, a3, a4, a5, a6, a7, a8, ?_, a10⟩
    rcases a9 with a9 | ⟨g', hg', a9⟩
    · exact Or.inl a9
    · refine Or.inr ⟨g', hg', ?_⟩
      rw [e (1684 + 11 * g' + 0) (by omega)]
      exact a9
  exact ⟨Iv0_c (e 0 (by omega)) i0, hF, IvRn_c (fun i h1 h2 => e i (by omega)) i2, IvPr_c (by rw [e 0 (by omega)]; exact Int32.lt_irrefl) (fun i h1 h2 => e i (by omega)) i3, hH, IvG_0 (fun i h1 h2 => e i (by omega)) i5, IvLn_c (fun i h1 h2 => e i (by omega)) i6, IvJb_c (fun i h1 h2 => e i (by omega)) i7, IvTb_c (fun i h1 h2 => e i (by omega)) i8, IvRw_c (e _ (by omega)) i9, IvXs_c (fun i h1 h2 => e i (by omega)) i10⟩
theorem kH_5 {h : Nat} {x : Int32} (hI : Iv c W) (hh : h < hn W) (h0 : LkA 4 k E A T W) : LkA 4 k E (up A 12 (120 + h) x) T (upd W (1684 + 11 * h + 4) x) := by
  obtain ⟨i0, i1, i2, i3, i4, i5, i6, i7, i8, i9, i10⟩ := hI
  obtain ⟨l0, l1, l2, l3, l4, l5, l6, l7⟩ := h0
  have h24 := i4.2.1
  have e : ∀ j, j ≠ 1684 + 11 * h + 4 → upd W (1684 + 11 * h + 4) x j = W j := fun j hj => upd_o hj
  have hA : ∀ r, outK k r → up A 12 (120 + h) x r = A r := fun r hr => up_ne (by have := hr.1; omega)
  refine ⟨l0.trans (e 0 (by omega)).symm, LkL_c (fun i h1 h2 => e i (by omega)) l1, LkM_c i3.2.1 (fun i h1 h2 => e i (by omega)) l2, LkG_c (fun i hi => e i (by omega)) l3, LkP_c (fun i h1 h2 => e i (by omega)) l4, LkR_c (fun i h1 h2 => e i (by omega)) l5, ?_, LkX_A (LkX_c i10.2.1 (fun i h1 h2 => e i (by omega)) l7) hA⟩
  obtain ⟨m1, m2, m3, m4⟩ := l6
  unfold LkH
  rw [hn_c (e 1683 (by omega)), e 1683 (by omega), show up A 12 (120 + h) x (4 + 8) = upd (A 12) (120 + h) x from up_eq]
  refine ⟨m1, fun g hg => vH_5 (fun g _ hg => m2 g hg) (by omega) g (by omega) hg, m3, fun g hg hk => ?_⟩
  rw [e _ (by omega)] at hk
  obtain ⟨a, e1, t⟩ := m4 g hg hk
  exact ⟨a, e1, TR_A (TR_c (fun i h1 h2 => e i (by unfold tx at h1; omega)) t) hA⟩
theorem jH_4 {h : Nat} {x : Int32} (hI : Iv c W) (hh : h < hn W) (hx : True) : Iv c (upd W (1684 + 11 * h + 4) x) := by
  obtain ⟨i0, i1, i2, i3, i4, i5, i6, i7, i8, i9, i10⟩ := hI
  have h24 := i4.2.1
  have e : ∀ j, j ≠ 1684 + 11 * h + 4 → upd W (1684 + 11 * h + 4) x j = W j := fun j hj => upd_o hj
  have ef : ∀ g, fo (upd W (1684 + 11 * h + 4) x) g = fo W g := fun g => fo_congr (fun f hf => e _ (by omega)) g
  have hH : IvHs (upd W (1684 + 11 * h + 4) x) := by
    unfold IvHs
    rw [hn_c (e 1683 (by omega)), e 1683 (by omega)]
    refine ⟨i4.1, i4.2.1, fun g hg => ?_⟩
    have q := i4.2.2 g hg
    unfold IvH at q ⊢
    rw [ef]
    obtain ⟨a0, a1, a2, a3, a4, a5, a6, a7, a8, a9, a10⟩ := q
    have a10' : (W (1684 + 11 * g + 0) = 0 ∨ W (1684 + 11 * g + 0) = 1) → ∃ nl nc, WT (upd W (1684 + 11 * h + 4) x) (tx (12 + g)) nl nc := fun q => by
      obtain ⟨nl, nc, t⟩ := a10 q
      exact ⟨nl, nc, WT_c (fun i h1 h2 => e i (by unfold tx at h1; omega)) t⟩
    by_cases q : g = h
    · subst q
      rw [e (1684 + 11 * g + 0) (by omega), e (1684 + 11 * g + 1) (by omega), e (1684 + 11 * g + 2) (by omega), e (1684 + 11 * g + 3) (by omega), e (1684 + 11 * g + 5) (by omega), e (1684 + 11 * g + 6) (by omega), e (1684 + 11 * g + 8) (by omega), e (1684 + 11 * g + 9) (by omega), e (1684 + 11 * g + 10) (by omega)]
      exact ⟨a0, a1, a2, a3, a4, a5, a6, a7, a8, a9, a10'⟩
    · rw [e (1684 + 11 * g + 0) (by omega), e (1684 + 11 * g + 1) (by omega), e (1684 + 11 * g + 2) (by omega), e (1684 + 11 * g + 3) (by omega), e (1684 + 11 * g + 5) (by omega), e (1684 + 11 * g + 6) (by omega), e (1684 + 11 * g + 8) (by omega), e (1684 + 11 * g + 9) (by omega), e (1684 + 11 * g + 10) (by omega)]
      exact ⟨a0, a1, a2, a3, a4, a5, a6, a7, a8, a9, a10'⟩
  have hF : ∀ g, g < 48 → IvF (upd W (1684 + 11 * h + 4) x) g := by
    intro g hg
    have q := i1 g hg
    unfold IvF at q ⊢
    rw [hn_c (e 1683 (by omega)), e (8 + 14 * g + 0) (by omega), e (8 + 14 * g + 1) (by omega), e (8 + 14 * g + 2) (by omega), e (8 + 14 * g + 3) (by omega), e (8 + 14 * g + 4) (by omega), e (8 + 14 * g + 5) (by omega), e (8 + 14 * g + 6) (by omega), e (8 + 14 * g + 7) (by omega), e (8 + 14 * g + 8) (by omega), e (8 + 14 * g + 10) (by omega), e (8 + 14 * g + 11) (by omega), e (8 + 14 * g + 12) (by omega), e (8 + 14 * g + 13) (by omega)]
    obtain ⟨a0, a1, a2, a3, a4, a5, a6, a7, a8, a9, a10⟩ := q
    refine ⟨a0, a1, a2, a3, a4, a5, a6, a7, a8, ?_, a10⟩
    rcases a9 with a9 | ⟨g', hg', a9⟩
    · exact Or.inl a9
    · refine Or.inr ⟨g', hg', ?_⟩
      rw [e (1684 + 11 * g' + 0) (by omega)]
      exact a9
  exact ⟨Iv0_c (e 0 (by omega)) i0, hF, IvRn_c (fun i h1 h2 => e i (by omega)) i2, IvPr_c (by rw [e 0 (by omega)]; exact Int32.lt_irrefl) (fun i h1 h2 => e i (by omega)) i3, hH, IvG_0 (fun i h1 h2 => e i (by omega)) i5, IvLn_c (fun i h1 h2 => e i (by omega)) i6, IvJb_c (fun i h1 h2 => e i (by omega)) i7, IvTb_c (fun i h1 h2 => e i (by omega)) i8, IvRw_c (e _ (by omega)) i9, IvXs_c (fun i h1 h2 => e i (by omega)) i10⟩
theorem kH_7 {h : Nat} {x : Int32} (hI : Iv c W) (hh : h < hn W) (h0 : LkA 4 k E A T W) : LkA 4 k E (up A 12 (168 + h) x) T (upd W (1684 + 11 * h + 5) x) := by
  obtain ⟨i0, i1, i2, i3, i4, i5, i6, i7, i8, i9, i10⟩ := hI
  obtain ⟨l0, l1, l2, l3, l4, l5, l6, l7⟩ := h0
  have h24 := i4.2.1
  have e : ∀ j, j ≠ 1684 + 11 * h + 5 → upd W (1684 + 11 * h + 5) x j = W j := fun j hj => upd_o hj
  have hA : ∀ r, outK k r → up A 12 (168 + h) x r = A r := fun r hr => up_ne (by have := hr.1; omega)
  refine ⟨l0.trans (e 0 (by omega)).symm, LkL_c (fun i h1 h2 => e i (by omega)) l1, LkM_c i3.2.1 (fun i h1 h2 => e i (by omega)) l2, LkG_c (fun i hi => e i (by omega)) l3, LkP_c (fun i h1 h2 => e i (by omega)) l4, LkR_c (fun i h1 h2 => e i (by omega)) l5, ?_, LkX_A (LkX_c i10.2.1 (fun i h1 h2 => e i (by omega)) l7) hA⟩
  obtain ⟨m1, m2, m3, m4⟩ := l6
  unfold LkH
  rw [hn_c (e 1683 (by omega)), e 1683 (by omega), show up A 12 (168 + h) x (4 + 8) = upd (A 12) (168 + h) x from up_eq]
  refine ⟨m1, fun g hg => vH_7 (fun g _ hg => m2 g hg) (by omega) g (by omega) hg, m3, fun g hg hk => ?_⟩
  rw [e _ (by omega)] at hk
  obtain ⟨a, e1, t⟩ := m4 g hg hk
  exact ⟨a, e1, TR_A (TR_c (fun i h1 h2 => e i (by unfold tx at h1; omega)) t) hA⟩
theorem jH_5 {h : Nat} {x : Int32} (hI : Iv c W) (hh : h < hn W) (hx : rg x (-2000000000) 2000000000) : Iv c (upd W (1684 + 11 * h + 5) x) := by
  obtain ⟨i0, i1, i2, i3, i4, i5, i6, i7, i8, i9, i10⟩ := hI
  have h24 := i4.2.1
  have e : ∀ j, j ≠ 1684 + 11 * h + 5 → upd W (1684 + 11 * h + 5) x j = W j := fun j hj => upd_o hj
  have ef : ∀ g, fo (upd W (1684 + 11 * h + 5) x) g = fo W g := fun g => fo_congr (fun f hf => e _ (by omega)) g
  have hH : IvHs (upd W (1684 + 11 * h + 5) x) := by
    unfold IvHs
    rw [hn_c (e 1683 (by omega)), e 1683 (by omega)]
    refine ⟨i4.1, i4.2.1, fun g hg => ?_⟩
    have q := i4.2.2 g hg
    unfold IvH at q ⊢
    rw [ef]
    obtain ⟨a0, a1, a2, a3, a4, a5, a6, a7, a8, a9, a10⟩ := q
    have a10' : (W (1684 + 11 * g + 0) = 0 ∨ W (1684 + 11 * g + 0) = 1) → ∃ nl nc, WT (upd W (1684 + 11 * h + 5) x) (tx (12 + g)) nl nc := fun q => by
      obtain ⟨nl, nc, t⟩ := a10 q
      exact ⟨nl, nc, WT_c (fun i h1 h2 => e i (by unfold tx at h1; omega)) t⟩
    by_cases q : g = h
    · subst q
      rw [e (1684 + 11 * g + 0) (by omega), e (1684 + 11 * g + 1) (by omega), e (1684 + 11 * g + 2) (by omega), e (1684 + 11 * g + 3) (by omega), upd_s, e (1684 + 11 * g + 6) (by omega), e (1684 + 11 * g + 8) (by omega), e (1684 + 11 * g + 9) (by omega), e (1684 + 11 * g + 10) (by omega)]
      exact ⟨a0, a1, a2, a3, hx, a5, a6, a7, a8, a9, a10'⟩
    · rw [e (1684 + 11 * g + 0) (by omega), e (1684 + 11 * g + 1) (by omega), e (1684 + 11 * g + 2) (by omega), e (1684 + 11 * g + 3) (by omega), e (1684 + 11 * g + 5) (by omega), e (1684 + 11 * g + 6) (by omega), e (1684 + 11 * g + 8) (by omega), e (1684 + 11 * g + 9) (by omega), e (1684 + 11 * g + 10) (by omega)]
      exact ⟨a0, a1, a2, a3, a4, a5, a6, a7, a8, a9, a10'⟩
  have hF : ∀ g, g < 48 → IvF (upd W (1684 + 11 * h + 5) x) g := by
    intro g hg
    have q := i1 g hg
    unfold IvF at q ⊢
    rw [hn_c (e 1683 (by omega)), e (8 + 14 * g + 0) (by omega), e (8 + 14 * g + 1) (by omega), e (8 + 14 * g + 2) (by omega), e (8 + 14 * g + 3) (by omega), e (8 + 14 * g + 4) (by omega), e (8 + 14 * g + 5) (by omega), e (8 + 14 * g + 6) (by omega), e (8 + 14 * g + 7) (by omega), e (8 + 14 * g + 8) (by omega), e (8 + 14 * g + 10) (by omega), e (8 + 14 * g + 11) (by omega), e (8 + 14 * g + 12) (by omega), e (8 + 14 * g + 13) (by omega)]
    obtain ⟨a0, a1, a2, a3, a4, a5, a6, a7, a8, a9, a10⟩ := q
    refine ⟨a0, a1, a2, a3, a4, a5, a6, a7, a8, ?_, a10⟩
    rcases a9 with a9 | ⟨g', hg', a9⟩
    · exact Or.inl a9
    · refine Or.inr ⟨g', hg', ?_⟩
      rw [e (1684 + 11 * g' + 0) (by omega)]
      exact a9
  exact ⟨Iv0_c (e 0 (by omega)) i0, hF, IvRn_c (fun i h1 h2 => e i (by omega)) i2, IvPr_c (by rw [e 0 (by omega)]; exact Int32.lt_irrefl) (fun i h1 h2 => e i (by omega)) i3, hH, IvG_0 (fun i h1 h2 => e i (by omega)) i5, IvLn_c (fun i h1 h2 => e i (by omega)) i6, IvJb_c (fun i h1 h2 => e i (by omega)) i7, IvTb_c (fun i h1 h2 => e i (by omega)) i8, IvRw_c (e _ (by omega)) i9, IvXs_c (fun i h1 h2 => e i (by omega)) i10⟩
theorem kH_8 {h : Nat} {x : Int32} (hI : Iv c W) (hh : h < hn W) (h0 : LkA 4 k E A T W) : LkA 4 k E (up A 12 (192 + h) x) T (upd W (1684 + 11 * h + 6) x) := by
  obtain ⟨i0, i1, i2, i3, i4, i5, i6, i7, i8, i9, i10⟩ := hI
  obtain ⟨l0, l1, l2, l3, l4, l5, l6, l7⟩ := h0
  have h24 := i4.2.1
  have e : ∀ j, j ≠ 1684 + 11 * h + 6 → upd W (1684 + 11 * h + 6) x j = W j := fun j hj => upd_o hj
  have hA : ∀ r, outK k r → up A 12 (192 + h) x r = A r := fun r hr => up_ne (by have := hr.1; omega)
  refine ⟨l0.trans (e 0 (by omega)).symm, LkL_c (fun i h1 h2 => e i (by omega)) l1, LkM_c i3.2.1 (fun i h1 h2 => e i (by omega)) l2, LkG_c (fun i hi => e i (by omega)) l3, LkP_c (fun i h1 h2 => e i (by omega)) l4, LkR_c (fun i h1 h2 => e i (by omega)) l5, ?_, LkX_A (LkX_c i10.2.1 (fun i h1 h2 => e i (by omega)) l7) hA⟩
  obtain ⟨m1, m2, m3, m4⟩ := l6
  unfold LkH
  rw [hn_c (e 1683 (by omega)), e 1683 (by omega), show up A 12 (192 + h) x (4 + 8) = upd (A 12) (192 + h) x from up_eq]
  refine ⟨m1, fun g hg => vH_8 (fun g _ hg => m2 g hg) (by omega) g (by omega) hg, m3, fun g hg hk => ?_⟩
  rw [e _ (by omega)] at hk
  obtain ⟨a, e1, t⟩ := m4 g hg hk
  exact ⟨a, e1, TR_A (TR_c (fun i h1 h2 => e i (by unfold tx at h1; omega)) t) hA⟩
theorem jH_6 {h : Nat} {x : Int32} (hI : Iv c W) (hh : h < hn W) (hx : rg x 0 2000000000) : Iv c (upd W (1684 + 11 * h + 6) x) := by
  obtain ⟨i0, i1, i2, i3, i4, i5, i6, i7, i8, i9, i10⟩ := hI
  have h24 := i4.2.1
  have e : ∀ j, j ≠ 1684 + 11 * h + 6 → upd W (1684 + 11 * h + 6) x j = W j := fun j hj => upd_o hj
  have ef : ∀ g, fo (upd W (1684 + 11 * h + 6) x) g = fo W g := fun g => fo_congr (fun f hf => e _ (by omega)) g
  have hH : IvHs (upd W (1684 + 11 * h + 6) x) := by
    unfold IvHs
    rw [hn_c (e 1683 (by omega)), e 1683 (by omega)]
    refine ⟨i4.1, i4.2.1, fun g hg => ?_⟩
    have q := i4.2.2 g hg
    unfold IvH at q ⊢
    rw [ef]
    obtain ⟨a0, a1, a2, a3, a4, a5, a6, a7, a8, a9, a10⟩ := q
    have a10' : (W (1684 + 11 * g + 0) = 0 ∨ W (1684 + 11 * g + 0) = 1) → ∃ nl nc, WT (upd W (1684 + 11 * h + 6) x) (tx (12 + g)) nl nc := fun q => by
      obtain ⟨nl, nc, t⟩ := a10 q
      exact ⟨nl, nc, WT_c (fun i h1 h2 => e i (by unfold tx at h1; omega)) t⟩
    by_cases q : g = h
    · subst q
      rw [e (1684 + 11 * g + 0) (by omega), e (1684 + 11 * g + 1) (by omega), e (1684 + 11 * g + 2) (by omega), e (1684 + 11 * g + 3) (by omega), e (1684 + 11 * g + 5) (by omega), upd_s, e (1684 + 11 * g + 8) (by omega), e (1684 + 11 * g + 9) (by omega), e (1684 + 11 * g + 10) (by omega)]
      exact ⟨a0, a1, a2, a3, a4, hx, a6, a7, a8, a9, a10'⟩
    · rw [e (1684 + 11 * g + 0) (by omega), e (1684 + 11 * g + 1) (by omega), e (1684 + 11 * g + 2) (by omega), e (1684 + 11 * g + 3) (by omega), e (1684 + 11 * g + 5) (by omega), e (1684 + 11 * g + 6) (by omega), e (1684 + 11 * g + 8) (by omega), e (1684 + 11 * g + 9) (by omega), e (1684 + 11 * g + 10) (by omega)]
      exact ⟨a0, a1, a2, a3, a4, a5, a6, a7, a8, a9, a10'⟩
  have hF : ∀ g, g < 48 → IvF (upd W (1684 + 11 * h + 6) x) g := by
    intro g hg
    have q := i1 g hg
    unfold IvF at q ⊢
    rw [hn_c (e 1683 (by omega)), e (8 + 14 * g + 0) (by omega), e (8 + 14 * g + 1) (by omega), e (8 + 14 * g + 2) (by omega), e (8 + 14 * g + 3) (by omega), e (8 + 14 * g + 4) (by omega), e (8 + 14 * g + 5) (by omega), e (8 + 14 * g + 6) (by omega), e (8 + 14 * g + 7) (by omega), e (8 + 14 * g + 8) (by omega), e (8 + 14 * g + 10) (by omega), e (8 + 14 * g + 11) (by omega), e (8 + 14 * g + 12) (by omega), e (8 + 14 * g + 13) (by omega)]
    obtain ⟨a0, a1, a2, a3, a4, a5, a6, a7, a8, a9, a10⟩ := q
    refine ⟨a0, a1, a2, a3, a4, a5, a6, a7, a8, ?_, a10⟩
    rcases a9 with a9 | ⟨g', hg', a9⟩
    · exact Or.inl a9
    · refine Or.inr ⟨g', hg', ?_⟩
      rw [e (1684 + 11 * g' + 0) (by omega)]
      exact a9
  exact ⟨Iv0_c (e 0 (by omega)) i0, hF, IvRn_c (fun i h1 h2 => e i (by omega)) i2, IvPr_c (by rw [e 0 (by omega)]; exact Int32.lt_irrefl) (fun i h1 h2 => e i (by omega)) i3, hH, IvG_0 (fun i h1 h2 => e i (by omega)) i5, IvLn_c (fun i h1 h2 => e i (by omega)) i6, IvJb_c (fun i h1 h2 => e i (by omega)) i7, IvTb_c (fun i h1 h2 => e i (by omega)) i8, IvRw_c (e _ (by omega)) i9, IvXs_c (fun i h1 h2 => e i (by omega)) i10⟩
theorem kH_9 {h : Nat} {x : Int32} (hI : Iv c W) (hh : h < hn W) (h0 : LkA 4 k E A T W) : LkA 4 k E (up A 12 (216 + h) x) T (upd W (1684 + 11 * h + 7) x) := by
  obtain ⟨i0, i1, i2, i3, i4, i5, i6, i7, i8, i9, i10⟩ := hI
  obtain ⟨l0, l1, l2, l3, l4, l5, l6, l7⟩ := h0
  have h24 := i4.2.1
  have e : ∀ j, j ≠ 1684 + 11 * h + 7 → upd W (1684 + 11 * h + 7) x j = W j := fun j hj => upd_o hj
  have hA : ∀ r, outK k r → up A 12 (216 + h) x r = A r := fun r hr => up_ne (by have := hr.1; omega)
  refine ⟨l0.trans (e 0 (by omega)).symm, LkL_c (fun i h1 h2 => e i (by omega)) l1, LkM_c i3.2.1 (fun i h1 h2 => e i (by omega)) l2, LkG_c (fun i hi => e i (by omega)) l3, LkP_c (fun i h1 h2 => e i (by omega)) l4, LkR_c (fun i h1 h2 => e i (by omega)) l5, ?_, LkX_A (LkX_c i10.2.1 (fun i h1 h2 => e i (by omega)) l7) hA⟩
  obtain ⟨m1, m2, m3, m4⟩ := l6
  unfold LkH
  rw [hn_c (e 1683 (by omega)), e 1683 (by omega), show up A 12 (216 + h) x (4 + 8) = upd (A 12) (216 + h) x from up_eq]
  refine ⟨m1, fun g hg => vH_9 (fun g _ hg => m2 g hg) (by omega) g (by omega) hg, m3, fun g hg hk => ?_⟩
  rw [e _ (by omega)] at hk
  obtain ⟨a, e1, t⟩ := m4 g hg hk
  exact ⟨a, e1, TR_A (TR_c (fun i h1 h2 => e i (by unfold tx at h1; omega)) t) hA⟩
theorem jH_7 {h : Nat} {x : Int32} (hI : Iv c W) (hh : h < hn W) (hx : True) : Iv c (upd W (1684 + 11 * h + 7) x) := by
  obtain ⟨i0, i1, i2, i3, i4, i5, i6, i7, i8, i9, i10⟩ := hI
  have h24 := i4.2.1
  have e : ∀ j, j ≠ 1684 + 11 * h + 7 → upd W (1684 + 11 * h + 7) x j = W j := fun j hj => upd_o hj
  have ef : ∀ g, fo (upd W (1684 + 11 * h + 7) x) g = fo W g := fun g => fo_congr (fun f hf => e _ (by omega)) g
  have hH : IvHs (upd W (1684 + 11 * h + 7) x) := by
    unfold IvHs
    rw [hn_c (e 1683 (by omega)), e 1683 (by omega)]
    refine ⟨i4.1, i4.2.1, fun g hg => ?_⟩
    have q := i4.2.2 g hg
    unfold IvH at q ⊢
    rw [ef]
    obtain ⟨a0, a1, a2, a3, a4, a5, a6, a7, a8, a9, a10⟩ := q
    have a10' : (W (1684 + 11 * g + 0) = 0 ∨ W (1684 + 11 * g + 0) = 1) → ∃ nl nc, WT (upd W (1684 + 11 * h + 7) x) (tx (12 + g)) nl nc := fun q => by
      obtain ⟨nl, nc, t⟩ := a10 q
      exact ⟨nl, nc, WT_c (fun i h1 h2 => e i (by unfold tx at h1; omega)) t⟩
    by_cases q : g = h
    · subst q
      rw [e (1684 + 11 * g + 0) (by omega), e (1684 + 11 * g + 1) (by omega), e (1684 + 11 * g + 2) (by omega), e (1684 + 11 * g + 3) (by omega), e (1684 + 11 * g + 5) (by omega), e (1684 + 11 * g + 6) (by omega), e (1684 + 11 * g + 8) (by omega), e (1684 + 11 * g + 9) (by omega), e (1684 + 11 * g + 10) (by omega)]
      exact ⟨a0, a1, a2, a3, a4, a5, a6, a7, a8, a9, a10'⟩
    · rw [e (1684 + 11 * g + 0) (by omega), e (1684 + 11 * g + 1) (by omega), e (1684 + 11 * g + 2) (by omega), e (1684 + 11 * g + 3) (by omega), e (1684 + 11 * g + 5) (by omega), e (1684 + 11 * g + 6) (by omega), e (1684 + 11 * g + 8) (by omega), e (1684 + 11 * g + 9) (by omega), e (1684 + 11 * g + 10) (by omega)]
      exact ⟨a0, a1, a2, a3, a4, a5, a6, a7, a8, a9, a10'⟩
  have hF : ∀ g, g < 48 → IvF (upd W (1684 + 11 * h + 7) x) g := by
    intro g hg
    have q := i1 g hg
    unfold IvF at q ⊢
    rw [hn_c (e 1683 (by omega)), e (8 + 14 * g + 0) (by omega), e (8 + 14 * g + 1) (by omega), e (8 + 14 * g + 2) (by omega), e (8 + 14 * g + 3) (by omega), e (8 + 14 * g + 4) (by omega), e (8 + 14 * g + 5) (by omega), e (8 + 14 * g + 6) (by omega), e (8 + 14 * g + 7) (by omega), e (8 + 14 * g + 8) (by omega), e (8 + 14 * g + 10) (by omega), e (8 + 14 * g + 11) (by omega), e (8 + 14 * g + 12) (by omega), e (8 + 14 * g + 13) (by omega)]
    obtain ⟨a0, a1, a2, a3, a4, a5, a6, a7, a8, a9, a10⟩ := q
    refine ⟨a0, a1, a2, a3, a4, a5, a6, a7, a8, ?_, a10⟩
    rcases a9 with a9 | ⟨g', hg', a9⟩
    · exact Or.inl a9
    · refine Or.inr ⟨g', hg', ?_⟩
      rw [e (1684 + 11 * g' + 0) (by omega)]
      exact a9
  exact ⟨Iv0_c (e 0 (by omega)) i0, hF, IvRn_c (fun i h1 h2 => e i (by omega)) i2, IvPr_c (by rw [e 0 (by omega)]; exact Int32.lt_irrefl) (fun i h1 h2 => e i (by omega)) i3, hH, IvG_0 (fun i h1 h2 => e i (by omega)) i5, IvLn_c (fun i h1 h2 => e i (by omega)) i6, IvJb_c (fun i h1 h2 => e i (by omega)) i7, IvTb_c (fun i h1 h2 => e i (by omega)) i8, IvRw_c (e _ (by omega)) i9, IvXs_c (fun i h1 h2 => e i (by omega)) i10⟩
theorem kH_10 {h : Nat} {x : Int32} (hI : Iv c W) (hh : h < hn W) (h0 : LkA 4 k E A T W) : LkA 4 k E (up A 12 (240 + h) x) T (upd W (1684 + 11 * h + 8) x) := by
  obtain ⟨i0, i1, i2, i3, i4, i5, i6, i7, i8, i9, i10⟩ := hI
  obtain ⟨l0, l1, l2, l3, l4, l5, l6, l7⟩ := h0
  have h24 := i4.2.1
  have e : ∀ j, j ≠ 1684 + 11 * h + 8 → upd W (1684 + 11 * h + 8) x j = W j := fun j hj => upd_o hj
  have hA : ∀ r, outK k r → up A 12 (240 + h) x r = A r := fun r hr => up_ne (by have := hr.1; omega)
  refine ⟨l0.trans (e 0 (by omega)).symm, LkL_c (fun i h1 h2 => e i (by omega)) l1, LkM_c i3.2.1 (fun i h1 h2 => e i (by omega)) l2, LkG_c (fun i hi => e i (by omega)) l3, LkP_c (fun i h1 h2 => e i (by omega)) l4, LkR_c (fun i h1 h2 => e i (by omega)) l5, ?_, LkX_A (LkX_c i10.2.1 (fun i h1 h2 => e i (by omega)) l7) hA⟩
  obtain ⟨m1, m2, m3, m4⟩ := l6
  unfold LkH
  rw [hn_c (e 1683 (by omega)), e 1683 (by omega), show up A 12 (240 + h) x (4 + 8) = upd (A 12) (240 + h) x from up_eq]
  refine ⟨m1, fun g hg => vH_10 (fun g _ hg => m2 g hg) (by omega) g (by omega) hg, m3, fun g hg hk => ?_⟩
  rw [e _ (by omega)] at hk
  obtain ⟨a, e1, t⟩ := m4 g hg hk
  exact ⟨a, e1, TR_A (TR_c (fun i h1 h2 => e i (by unfold tx at h1; omega)) t) hA⟩
theorem jH_8 {h : Nat} {x : Int32} (hI : Iv c W) (hh : h < hn W) (hx : x = 1) : Iv c (upd W (1684 + 11 * h + 8) x) := by
  obtain ⟨i0, i1, i2, i3, i4, i5, i6, i7, i8, i9, i10⟩ := hI
  have h24 := i4.2.1
  have e : ∀ j, j ≠ 1684 + 11 * h + 8 → upd W (1684 + 11 * h + 8) x j = W j := fun j hj => upd_o hj
  have ef : ∀ g, fo (upd W (1684 + 11 * h + 8) x) g = fo W g := fun g => fo_congr (fun f hf => e _ (by omega)) g
  have hH : IvHs (upd W (1684 + 11 * h + 8) x) := by
    unfold IvHs
    rw [hn_c (e 1683 (by omega)), e 1683 (by omega)]
    refine ⟨i4.1, i4.2.1, fun g hg => ?_⟩
    have q := i4.2.2 g hg
    unfold IvH at q ⊢
    rw [ef]
    obtain ⟨a0, a1, a2, a3, a4, a5, a6, a7, a8, a9, a10⟩ := q
    have a10' : (W (1684 + 11 * g + 0) = 0 ∨ W (1684 + 11 * g + 0) = 1) → ∃ nl nc, WT (upd W (1684 + 11 * h + 8) x) (tx (12 + g)) nl nc := fun q => by
      obtain ⟨nl, nc, t⟩ := a10 q
      exact ⟨nl, nc, WT_c (fun i h1 h2 => e i (by unfold tx at h1; omega)) t⟩
    by_cases q : g = h
    · subst q
      rw [e (1684 + 11 * g + 0) (by omega), e (1684 + 11 * g + 1) (by omega), e (1684 + 11 * g + 2) (by omega), e (1684 + 11 * g + 3) (by omega), e (1684 + 11 * g + 5) (by omega), e (1684 + 11 * g + 6) (by omega), upd_s, e (1684 + 11 * g + 9) (by omega), e (1684 + 11 * g + 10) (by omega)]
      exact ⟨a0, a1, a2, a3, a4, a5, Or.inr hx, fun _ _ => hx, a8, a9, a10'⟩
    · rw [e (1684 + 11 * g + 0) (by omega), e (1684 + 11 * g + 1) (by omega), e (1684 + 11 * g + 2) (by omega), e (1684 + 11 * g + 3) (by omega), e (1684 + 11 * g + 5) (by omega), e (1684 + 11 * g + 6) (by omega), e (1684 + 11 * g + 8) (by omega), e (1684 + 11 * g + 9) (by omega), e (1684 + 11 * g + 10) (by omega)]
      exact ⟨a0, a1, a2, a3, a4, a5, a6, a7, a8, a9, a10'⟩
  have hF : ∀ g, g < 48 → IvF (upd W (1684 + 11 * h + 8) x) g := by
    intro g hg
    have q := i1 g hg
    unfold IvF at q ⊢
    rw [hn_c (e 1683 (by omega)), e (8 + 14 * g + 0) (by omega), e (8 + 14 * g + 1) (by omega), e (8 + 14 * g + 2) (by omega), e (8 + 14 * g + 3) (by omega), e (8 + 14 * g + 4) (by omega), e (8 + 14 * g + 5) (by omega), e (8 + 14 * g + 6) (by omega), e (8 + 14 * g + 7) (by omega), e (8 + 14 * g + 8) (by omega), e (8 + 14 * g + 10) (by omega), e (8 + 14 * g + 11) (by omega), e (8 + 14 * g + 12) (by omega), e (8 + 14 * g + 13) (by omega)]
    obtain ⟨a0, a1, a2, a3, a4, a5, a6, a7, a8, a9, a10⟩ := q
    refine ⟨a0, a1, a2, a3, a4, a5, a6, a7, a8, ?_, a10⟩
    rcases a9 with a9 | ⟨g', hg', a9⟩
    · exact Or.inl a9
    · refine Or.inr ⟨g', hg', ?_⟩
      rw [e (1684 + 11 * g' + 0) (by omega)]
      exact a9
  exact ⟨Iv0_c (e 0 (by omega)) i0, hF, IvRn_c (fun i h1 h2 => e i (by omega)) i2, IvPr_c (by rw [e 0 (by omega)]; exact Int32.lt_irrefl) (fun i h1 h2 => e i (by omega)) i3, hH, IvG_0 (fun i h1 h2 => e i (by omega)) i5, IvLn_c (fun i h1 h2 => e i (by omega)) i6, IvJb_c (fun i h1 h2 => e i (by omega)) i7, IvTb_c (fun i h1 h2 => e i (by omega)) i8, IvRw_c (e _ (by omega)) i9, IvXs_c (fun i h1 h2 => e i (by omega)) i10⟩
theorem kG_0 {x : Int32} (hI : Iv c W) (h0 : LkA 4 k E A T W) : LkA 4 k E (up A 22 0 x) T (upd W 1 x) := by
  obtain ⟨i0, i1, i2, i3, i4, i5, i6, i7, i8, i9, i10⟩ := hI
  obtain ⟨l0, l1, l2, l3, l4, l5, l6, l7⟩ := h0
  have e : ∀ j, j ≠ 1 → upd W 1 x j = W j := fun j hj => upd_o hj
  have hA : ∀ r, outK k r → up A 22 0 x r = A r := fun r hr => up_ne (by have := hr.1; omega)
  refine ⟨l0.trans (e 0 (by omega)).symm, LkL_c (fun i h1 h2 => e i (by omega)) l1, LkM_c i3.2.1 (fun i h1 h2 => e i (by omega)) l2, ?_, LkP_c (fun i h1 h2 => e i (by omega)) l4, LkR_c (fun i h1 h2 => e i (by omega)) l5, LkH_A (LkH_c i4.2.1 (fun i hi => e i (by omega)) l6) hA, LkX_A (LkX_c i10.2.1 (fun i h1 h2 => e i (by omega)) l7) hA⟩
  obtain ⟨⟨m0, m1, m2, m3, m4, m5, m6, m8⟩, n1, n2⟩ := l3
  refine ⟨⟨?_, ?_, ?_, ?_, ?_, ?_, ?_, ?_⟩, fun i hi => by rw [e _ (by omega)]; exact n1 i hi, fun l hl => by rw [e _ (by omega), e _ (by omega), e _ (by omega)]; exact n2 l hl⟩
  · rw [upd_s]; exact up_ii
  · rw [e _ (by omega)]; exact (up_rr (by decide)).trans m1
  · rw [e _ (by omega)]; exact (up_rr (by decide)).trans m2
  · rw [e _ (by omega)]; exact (up_rr (by decide)).trans m3
  · rw [e _ (by omega)]; exact (up_rr (by decide)).trans m4
  · rw [e _ (by omega)]; exact (up_rr (by decide)).trans m5
  · rw [e _ (by omega)]; exact (up_rr (by decide)).trans m6
  · rw [e _ (by omega)]; exact (up_rr (by decide)).trans m8
theorem jG_1 {x : Int32} (hI : Iv c W) (hx : rg x (-2000000000) 2000000000) : Iv c (upd W 1 x) := by
  obtain ⟨i0, i1, i2, i3, i4, i5, i6, i7, i8, i9, i10⟩ := hI
  have e : ∀ j, j ≠ 1 → upd W 1 x j = W j := fun j hj => upd_o hj
  have hG : IvGs c (upd W 1 x) := by
    obtain ⟨a1, a2, a3, a4, a5, a6⟩ := i5
    unfold IvGs
    rw [upd_s, e 2 (by omega), e 3 (by omega), e 4 (by omega), e 7 (by omega), e 6 (by omega)]
    exact ⟨hx, a2, a3, a4, a5, a6⟩
  exact ⟨Iv0_c (e 0 (by omega)) i0, IvF_c (fun i hi => e i (by omega)) i4.2.1 i1, IvRn_c (fun i h1 h2 => e i (by omega)) i2, IvPr_c (by rw [e 0 (by omega)]; exact Int32.lt_irrefl) (fun i h1 h2 => e i (by omega)) i3, IvHs_c (fun i hi => e i (by omega)) i4, hG, IvLn_c (fun i h1 h2 => e i (by omega)) i6, IvJb_c (fun i h1 h2 => e i (by omega)) i7, IvTb_c (fun i h1 h2 => e i (by omega)) i8, IvRw_c (e _ (by omega)) i9, IvXs_c (fun i h1 h2 => e i (by omega)) i10⟩
theorem kG_1 {x : Int32} (hI : Iv c W) (h0 : LkA 4 k E A T W) : LkA 4 k E (up A 22 1 x) T (upd W 2 x) := by
  obtain ⟨i0, i1, i2, i3, i4, i5, i6, i7, i8, i9, i10⟩ := hI
  obtain ⟨l0, l1, l2, l3, l4, l5, l6, l7⟩ := h0
  have e : ∀ j, j ≠ 2 → upd W 2 x j = W j := fun j hj => upd_o hj
  have hA : ∀ r, outK k r → up A 22 1 x r = A r := fun r hr => up_ne (by have := hr.1; omega)
  refine ⟨l0.trans (e 0 (by omega)).symm, LkL_c (fun i h1 h2 => e i (by omega)) l1, LkM_c i3.2.1 (fun i h1 h2 => e i (by omega)) l2, ?_, LkP_c (fun i h1 h2 => e i (by omega)) l4, LkR_c (fun i h1 h2 => e i (by omega)) l5, LkH_A (LkH_c i4.2.1 (fun i hi => e i (by omega)) l6) hA, LkX_A (LkX_c i10.2.1 (fun i h1 h2 => e i (by omega)) l7) hA⟩
  obtain ⟨⟨m0, m1, m2, m3, m4, m5, m6, m8⟩, n1, n2⟩ := l3
  refine ⟨⟨?_, ?_, ?_, ?_, ?_, ?_, ?_, ?_⟩, fun i hi => by rw [e _ (by omega)]; exact n1 i hi, fun l hl => by rw [e _ (by omega), e _ (by omega), e _ (by omega)]; exact n2 l hl⟩
  · rw [e _ (by omega)]; exact (up_rr (by decide)).trans m0
  · rw [upd_s]; exact up_ii
  · rw [e _ (by omega)]; exact (up_rr (by decide)).trans m2
  · rw [e _ (by omega)]; exact (up_rr (by decide)).trans m3
  · rw [e _ (by omega)]; exact (up_rr (by decide)).trans m4
  · rw [e _ (by omega)]; exact (up_rr (by decide)).trans m5
  · rw [e _ (by omega)]; exact (up_rr (by decide)).trans m6
  · rw [e _ (by omega)]; exact (up_rr (by decide)).trans m8
theorem jG_2 {x : Int32} (hI : Iv c W) (hx : rg x (-2000000000) 2000000000) : Iv c (upd W 2 x) := by
  obtain ⟨i0, i1, i2, i3, i4, i5, i6, i7, i8, i9, i10⟩ := hI
  have e : ∀ j, j ≠ 2 → upd W 2 x j = W j := fun j hj => upd_o hj
  have hG : IvGs c (upd W 2 x) := by
    obtain ⟨a1, a2, a3, a4, a5, a6⟩ := i5
    unfold IvGs
    rw [e 1 (by omega), upd_s, e 3 (by omega), e 4 (by omega), e 7 (by omega), e 6 (by omega)]
    exact ⟨a1, hx, a3, a4, a5, a6⟩
  exact ⟨Iv0_c (e 0 (by omega)) i0, IvF_c (fun i hi => e i (by omega)) i4.2.1 i1, IvRn_c (fun i h1 h2 => e i (by omega)) i2, IvPr_c (by rw [e 0 (by omega)]; exact Int32.lt_irrefl) (fun i h1 h2 => e i (by omega)) i3, IvHs_c (fun i hi => e i (by omega)) i4, hG, IvLn_c (fun i h1 h2 => e i (by omega)) i6, IvJb_c (fun i h1 h2 => e i (by omega)) i7, IvTb_c (fun i h1 h2 => e i (by omega)) i8, IvRw_c (e _ (by omega)) i9, IvXs_c (fun i h1 h2 => e i (by omega)) i10⟩
theorem kG_2 {x : Int32} (hI : Iv c W) (h0 : LkA 4 k E A T W) : LkA 4 k E (up A 22 2 x) T (upd W 3 x) := by
  obtain ⟨i0, i1, i2, i3, i4, i5, i6, i7, i8, i9, i10⟩ := hI
  obtain ⟨l0, l1, l2, l3, l4, l5, l6, l7⟩ := h0
  have e : ∀ j, j ≠ 3 → upd W 3 x j = W j := fun j hj => upd_o hj
  have hA : ∀ r, outK k r → up A 22 2 x r = A r := fun r hr => up_ne (by have := hr.1; omega)
  refine ⟨l0.trans (e 0 (by omega)).symm, LkL_c (fun i h1 h2 => e i (by omega)) l1, LkM_c i3.2.1 (fun i h1 h2 => e i (by omega)) l2, ?_, LkP_c (fun i h1 h2 => e i (by omega)) l4, LkR_c (fun i h1 h2 => e i (by omega)) l5, LkH_A (LkH_c i4.2.1 (fun i hi => e i (by omega)) l6) hA, LkX_A (LkX_c i10.2.1 (fun i h1 h2 => e i (by omega)) l7) hA⟩
  obtain ⟨⟨m0, m1, m2, m3, m4, m5, m6, m8⟩, n1, n2⟩ := l3
  refine ⟨⟨?_, ?_, ?_, ?_, ?_, ?_, ?_, ?_⟩, fun i hi => by rw [e _ (by omega)]; exact n1 i hi, fun l hl => by rw [e _ (by omega), e _ (by omega), e _ (by omega)]; exact n2 l hl⟩
  · rw [e _ (by omega)]; exact (up_rr (by decide)).trans m0
  · rw [e _ (by omega)]; exact (up_rr (by decide)).trans m1
  · rw [upd_s]; exact up_ii
  · rw [e _ (by omega)]; exact (up_rr (by decide)).trans m3
  · rw [e _ (by omega)]; exact (up_rr (by decide)).trans m4
  · rw [e _ (by omega)]; exact (up_rr (by decide)).trans m5
  · rw [e _ (by omega)]; exact (up_rr (by decide)).trans m6
  · rw [e _ (by omega)]; exact (up_rr (by decide)).trans m8
theorem jG_3 {x : Int32} (hI : Iv c W) (hx : rg x (-2000000000) 2000000000) : Iv c (upd W 3 x) := by
  obtain ⟨i0, i1, i2, i3, i4, i5, i6, i7, i8, i9, i10⟩ := hI
  have e : ∀ j, j ≠ 3 → upd W 3 x j = W j := fun j hj => upd_o hj
  have hG : IvGs c (upd W 3 x) := by
    obtain ⟨a1, a2, a3, a4, a5, a6⟩ := i5
    unfold IvGs
    rw [e 1 (by omega), e 2 (by omega), upd_s, e 4 (by omega), e 7 (by omega), e 6 (by omega)]
    exact ⟨a1, a2, hx, a4, a5, a6⟩
  exact ⟨Iv0_c (e 0 (by omega)) i0, IvF_c (fun i hi => e i (by omega)) i4.2.1 i1, IvRn_c (fun i h1 h2 => e i (by omega)) i2, IvPr_c (by rw [e 0 (by omega)]; exact Int32.lt_irrefl) (fun i h1 h2 => e i (by omega)) i3, IvHs_c (fun i hi => e i (by omega)) i4, hG, IvLn_c (fun i h1 h2 => e i (by omega)) i6, IvJb_c (fun i h1 h2 => e i (by omega)) i7, IvTb_c (fun i h1 h2 => e i (by omega)) i8, IvRw_c (e _ (by omega)) i9, IvXs_c (fun i h1 h2 => e i (by omega)) i10⟩
theorem kG_3 {x : Int32} (hI : Iv c W) (h0 : LkA 4 k E A T W) : LkA 4 k E (up A 22 3 x) T (upd W 4 x) := by
  obtain ⟨i0, i1, i2, i3, i4, i5, i6, i7, i8, i9, i10⟩ := hI
  obtain ⟨l0, l1, l2, l3, l4, l5, l6, l7⟩ := h0
  have e : ∀ j, j ≠ 4 → upd W 4 x j = W j := fun j hj => upd_o hj
  have hA : ∀ r, outK k r → up A 22 3 x r = A r := fun r hr => up_ne (by have := hr.1; omega)
  refine ⟨l0.trans (e 0 (by omega)).symm, LkL_c (fun i h1 h2 => e i (by omega)) l1, LkM_c i3.2.1 (fun i h1 h2 => e i (by omega)) l2, ?_, LkP_c (fun i h1 h2 => e i (by omega)) l4, LkR_c (fun i h1 h2 => e i (by omega)) l5, LkH_A (LkH_c i4.2.1 (fun i hi => e i (by omega)) l6) hA, LkX_A (LkX_c i10.2.1 (fun i h1 h2 => e i (by omega)) l7) hA⟩
  obtain ⟨⟨m0, m1, m2, m3, m4, m5, m6, m8⟩, n1, n2⟩ := l3
  refine ⟨⟨?_, ?_, ?_, ?_, ?_, ?_, ?_, ?_⟩, fun i hi => by rw [e _ (by omega)]; exact n1 i hi, fun l hl => by rw [e _ (by omega), e _ (by omega), e _ (by omega)]; exact n2 l hl⟩
  · rw [e _ (by omega)]; exact (up_rr (by decide)).trans m0
  · rw [e _ (by omega)]; exact (up_rr (by decide)).trans m1
  · rw [e _ (by omega)]; exact (up_rr (by decide)).trans m2
  · rw [upd_s]; exact up_ii
  · rw [e _ (by omega)]; exact (up_rr (by decide)).trans m4
  · rw [e _ (by omega)]; exact (up_rr (by decide)).trans m5
  · rw [e _ (by omega)]; exact (up_rr (by decide)).trans m6
  · rw [e _ (by omega)]; exact (up_rr (by decide)).trans m8
theorem jG_4 {x : Int32} (hI : Iv c W) (hx : rg x (-2000000000) 2000000000) : Iv c (upd W 4 x) := by
  obtain ⟨i0, i1, i2, i3, i4, i5, i6, i7, i8, i9, i10⟩ := hI
  have e : ∀ j, j ≠ 4 → upd W 4 x j = W j := fun j hj => upd_o hj
  have hG : IvGs c (upd W 4 x) := by
    obtain ⟨a1, a2, a3, a4, a5, a6⟩ := i5
    unfold IvGs
    rw [e 1 (by omega), e 2 (by omega), e 3 (by omega), upd_s, e 7 (by omega), e 6 (by omega)]
    exact ⟨a1, a2, a3, hx, a5, a6⟩
  exact ⟨Iv0_c (e 0 (by omega)) i0, IvF_c (fun i hi => e i (by omega)) i4.2.1 i1, IvRn_c (fun i h1 h2 => e i (by omega)) i2, IvPr_c (by rw [e 0 (by omega)]; exact Int32.lt_irrefl) (fun i h1 h2 => e i (by omega)) i3, IvHs_c (fun i hi => e i (by omega)) i4, hG, IvLn_c (fun i h1 h2 => e i (by omega)) i6, IvJb_c (fun i h1 h2 => e i (by omega)) i7, IvTb_c (fun i h1 h2 => e i (by omega)) i8, IvRw_c (e _ (by omega)) i9, IvXs_c (fun i h1 h2 => e i (by omega)) i10⟩
theorem kG_4 {x : Int32} (hI : Iv c W) (h0 : LkA 4 k E A T W) : LkA 4 k E (up A 22 4 x) T (upd W 7 x) := by
  obtain ⟨i0, i1, i2, i3, i4, i5, i6, i7, i8, i9, i10⟩ := hI
  obtain ⟨l0, l1, l2, l3, l4, l5, l6, l7⟩ := h0
  have e : ∀ j, j ≠ 7 → upd W 7 x j = W j := fun j hj => upd_o hj
  have hA : ∀ r, outK k r → up A 22 4 x r = A r := fun r hr => up_ne (by have := hr.1; omega)
  refine ⟨l0.trans (e 0 (by omega)).symm, LkL_c (fun i h1 h2 => e i (by omega)) l1, LkM_c i3.2.1 (fun i h1 h2 => e i (by omega)) l2, ?_, LkP_c (fun i h1 h2 => e i (by omega)) l4, LkR_c (fun i h1 h2 => e i (by omega)) l5, LkH_A (LkH_c i4.2.1 (fun i hi => e i (by omega)) l6) hA, LkX_A (LkX_c i10.2.1 (fun i h1 h2 => e i (by omega)) l7) hA⟩
  obtain ⟨⟨m0, m1, m2, m3, m4, m5, m6, m8⟩, n1, n2⟩ := l3
  refine ⟨⟨?_, ?_, ?_, ?_, ?_, ?_, ?_, ?_⟩, fun i hi => by rw [e _ (by omega)]; exact n1 i hi, fun l hl => by rw [e _ (by omega), e _ (by omega), e _ (by omega)]; exact n2 l hl⟩
  · rw [e _ (by omega)]; exact (up_rr (by decide)).trans m0
  · rw [e _ (by omega)]; exact (up_rr (by decide)).trans m1
  · rw [e _ (by omega)]; exact (up_rr (by decide)).trans m2
  · rw [e _ (by omega)]; exact (up_rr (by decide)).trans m3
  · rw [upd_s]; exact up_ii
  · rw [e _ (by omega)]; exact (up_rr (by decide)).trans m5
  · rw [e _ (by omega)]; exact (up_rr (by decide)).trans m6
  · rw [e _ (by omega)]; exact (up_rr (by decide)).trans m8
theorem jG_7 {x : Int32} (hI : Iv c W) (hx : rg x (-2000000000) 2000000000) : Iv c (upd W 7 x) := by
  obtain ⟨i0, i1, i2, i3, i4, i5, i6, i7, i8, i9, i10⟩ := hI
  have e : ∀ j, j ≠ 7 → upd W 7 x j = W j := fun j hj => upd_o hj
  have hG : IvGs c (upd W 7 x) := by
    obtain ⟨a1, a2, a3, a4, a5, a6⟩ := i5
    unfold IvGs
    rw [e 1 (by omega), e 2 (by omega), e 3 (by omega), e 4 (by omega), upd_s, e 6 (by omega)]
    exact ⟨a1, a2, a3, a4, hx, a6⟩
  exact ⟨Iv0_c (e 0 (by omega)) i0, IvF_c (fun i hi => e i (by omega)) i4.2.1 i1, IvRn_c (fun i h1 h2 => e i (by omega)) i2, IvPr_c (by rw [e 0 (by omega)]; exact Int32.lt_irrefl) (fun i h1 h2 => e i (by omega)) i3, IvHs_c (fun i hi => e i (by omega)) i4, hG, IvLn_c (fun i h1 h2 => e i (by omega)) i6, IvJb_c (fun i h1 h2 => e i (by omega)) i7, IvTb_c (fun i h1 h2 => e i (by omega)) i8, IvRw_c (e _ (by omega)) i9, IvXs_c (fun i h1 h2 => e i (by omega)) i10⟩
theorem kG_5 {x : Int32} (hI : Iv c W) (h0 : LkA 4 k E A T W) : LkA 4 k E (up A 22 5 x) T (upd W 5 x) := by
  obtain ⟨i0, i1, i2, i3, i4, i5, i6, i7, i8, i9, i10⟩ := hI
  obtain ⟨l0, l1, l2, l3, l4, l5, l6, l7⟩ := h0
  have e : ∀ j, j ≠ 5 → upd W 5 x j = W j := fun j hj => upd_o hj
  have hA : ∀ r, outK k r → up A 22 5 x r = A r := fun r hr => up_ne (by have := hr.1; omega)
  refine ⟨l0.trans (e 0 (by omega)).symm, LkL_c (fun i h1 h2 => e i (by omega)) l1, LkM_c i3.2.1 (fun i h1 h2 => e i (by omega)) l2, ?_, LkP_c (fun i h1 h2 => e i (by omega)) l4, LkR_c (fun i h1 h2 => e i (by omega)) l5, LkH_A (LkH_c i4.2.1 (fun i hi => e i (by omega)) l6) hA, LkX_A (LkX_c i10.2.1 (fun i h1 h2 => e i (by omega)) l7) hA⟩
  obtain ⟨⟨m0, m1, m2, m3, m4, m5, m6, m8⟩, n1, n2⟩ := l3
  refine ⟨⟨?_, ?_, ?_, ?_, ?_, ?_, ?_, ?_⟩, fun i hi => by rw [e _ (by omega)]; exact n1 i hi, fun l hl => by rw [e _ (by omega), e _ (by omega), e _ (by omega)]; exact n2 l hl⟩
  · rw [e _ (by omega)]; exact (up_rr (by decide)).trans m0
  · rw [e _ (by omega)]; exact (up_rr (by decide)).trans m1
  · rw [e _ (by omega)]; exact (up_rr (by decide)).trans m2
  · rw [e _ (by omega)]; exact (up_rr (by decide)).trans m3
  · rw [e _ (by omega)]; exact (up_rr (by decide)).trans m4
  · rw [upd_s]; exact up_ii
  · rw [e _ (by omega)]; exact (up_rr (by decide)).trans m6
  · rw [e _ (by omega)]; exact (up_rr (by decide)).trans m8
theorem jG_5 {x : Int32} (hI : Iv c W) (hx : True) : Iv c (upd W 5 x) := by
  obtain ⟨i0, i1, i2, i3, i4, i5, i6, i7, i8, i9, i10⟩ := hI
  have e : ∀ j, j ≠ 5 → upd W 5 x j = W j := fun j hj => upd_o hj
  have hG : IvGs c (upd W 5 x) := by
    obtain ⟨a1, a2, a3, a4, a5, a6⟩ := i5
    unfold IvGs
    rw [e 1 (by omega), e 2 (by omega), e 3 (by omega), e 4 (by omega), e 7 (by omega), e 6 (by omega)]
    exact ⟨a1, a2, a3, a4, a5, a6⟩
  exact ⟨Iv0_c (e 0 (by omega)) i0, IvF_c (fun i hi => e i (by omega)) i4.2.1 i1, IvRn_c (fun i h1 h2 => e i (by omega)) i2, IvPr_c (by rw [e 0 (by omega)]; exact Int32.lt_irrefl) (fun i h1 h2 => e i (by omega)) i3, IvHs_c (fun i hi => e i (by omega)) i4, hG, IvLn_c (fun i h1 h2 => e i (by omega)) i6, IvJb_c (fun i h1 h2 => e i (by omega)) i7, IvTb_c (fun i h1 h2 => e i (by omega)) i8, IvRw_c (e _ (by omega)) i9, IvXs_c (fun i h1 h2 => e i (by omega)) i10⟩
theorem kG_6 {x : Int32} (hI : Iv c W) (h0 : LkA 4 k E A T W) : LkA 4 k E (up A 22 6 x) T (upd W 6 x) := by
  obtain ⟨i0, i1, i2, i3, i4, i5, i6, i7, i8, i9, i10⟩ := hI
  obtain ⟨l0, l1, l2, l3, l4, l5, l6, l7⟩ := h0
  have e : ∀ j, j ≠ 6 → upd W 6 x j = W j := fun j hj => upd_o hj
  have hA : ∀ r, outK k r → up A 22 6 x r = A r := fun r hr => up_ne (by have := hr.1; omega)
  refine ⟨l0.trans (e 0 (by omega)).symm, LkL_c (fun i h1 h2 => e i (by omega)) l1, LkM_c i3.2.1 (fun i h1 h2 => e i (by omega)) l2, ?_, LkP_c (fun i h1 h2 => e i (by omega)) l4, LkR_c (fun i h1 h2 => e i (by omega)) l5, LkH_A (LkH_c i4.2.1 (fun i hi => e i (by omega)) l6) hA, LkX_A (LkX_c i10.2.1 (fun i h1 h2 => e i (by omega)) l7) hA⟩
  obtain ⟨⟨m0, m1, m2, m3, m4, m5, m6, m8⟩, n1, n2⟩ := l3
  refine ⟨⟨?_, ?_, ?_, ?_, ?_, ?_, ?_, ?_⟩, fun i hi => by rw [e _ (by omega)]; exact n1 i hi, fun l hl => by rw [e _ (by omega), e _ (by omega), e _ (by omega)]; exact n2 l hl⟩
  · rw [e _ (by omega)]; exact (up_rr (by decide)).trans m0
  · rw [e _ (by omega)]; exact (up_rr (by decide)).trans m1
  · rw [e _ (by omega)]; exact (up_rr (by decide)).trans m2
  · rw [e _ (by omega)]; exact (up_rr (by decide)).trans m3
  · rw [e _ (by omega)]; exact (up_rr (by decide)).trans m4
  · rw [e _ (by omega)]; exact (up_rr (by decide)).trans m5
  · rw [upd_s]; exact up_ii
  · rw [e _ (by omega)]; exact (up_rr (by decide)).trans m8
theorem jG_6 {c' : Nat} (hc : c ≤ c') {x : Int32} (hI : Iv c W) (hx : ∃ m, m ≤ c' ∧ x = nI m) : Iv c' (upd W 6 x) := by
  obtain ⟨i0, i1, i2, i3, i4, i5, i6, i7, i8, i9, i10⟩ := hI
  have e : ∀ j, j ≠ 6 → upd W 6 x j = W j := fun j hj => upd_o hj
  have hG : IvGs c' (upd W 6 x) := by
    obtain ⟨a1, a2, a3, a4, a5, a6⟩ := i5
    unfold IvGs
    rw [e 1 (by omega), e 2 (by omega), e 3 (by omega), e 4 (by omega), e 7 (by omega), upd_s]
    exact ⟨a1, a2, a3, a4, a5, hx⟩
  exact ⟨Iv0_c (e 0 (by omega)) i0, IvF_c (fun i hi => e i (by omega)) i4.2.1 i1, IvRn_c (fun i h1 h2 => e i (by omega)) i2, IvPr_c (by rw [e 0 (by omega)]; exact Int32.lt_irrefl) (fun i h1 h2 => e i (by omega)) i3, IvHs_c (fun i hi => e i (by omega)) i4, hG, IvLn_c (fun i h1 h2 => e i (by omega)) i6, IvJb_c (fun i h1 h2 => e i (by omega)) i7, IvTb_c (fun i h1 h2 => e i (by omega)) i8, IvRw_c (e _ (by omega)) i9, IvXs_c (fun i h1 h2 => e i (by omega)) i10⟩
theorem u40_4 {B : fA} {i : Nat} {x : Int32} : up B 4 i x 40 = B 40 := up_ne (by decide)
theorem u40_5 {B : fA} {i : Nat} {x : Int32} : up B 5 i x 40 = B 40 := up_ne (by decide)
theorem u40_6 {B : fA} {i : Nat} {x : Int32} : up B 6 i x 40 = B 40 := up_ne (by decide)
theorem u40_7 {B : fA} {i : Nat} {x : Int32} : up B 7 i x 40 = B 40 := up_ne (by decide)
theorem u40_8 {B : fA} {i : Nat} {x : Int32} : up B 8 i x 40 = B 40 := up_ne (by decide)
theorem u40_9 {B : fA} {i : Nat} {x : Int32} : up B 9 i x 40 = B 40 := up_ne (by decide)
theorem u40_10 {B : fA} {i : Nat} {x : Int32} : up B 10 i x 40 = B 40 := up_ne (by decide)
theorem u40_11 {B : fA} {i : Nat} {x : Int32} : up B 11 i x 40 = B 40 := up_ne (by decide)
theorem u40_12 {B : fA} {i : Nat} {x : Int32} : up B 12 i x 40 = B 40 := up_ne (by decide)
theorem u40_13 {B : fA} {i : Nat} {x : Int32} : up B 13 i x 40 = B 40 := up_ne (by decide)
theorem u40_14 {B : fA} {i : Nat} {x : Int32} : up B 14 i x 40 = B 40 := up_ne (by decide)
theorem u40_15 {B : fA} {i : Nat} {x : Int32} : up B 15 i x 40 = B 40 := up_ne (by decide)
theorem u40_16 {B : fA} {i : Nat} {x : Int32} : up B 16 i x 40 = B 40 := up_ne (by decide)
theorem u40_17 {B : fA} {i : Nat} {x : Int32} : up B 17 i x 40 = B 40 := up_ne (by decide)
theorem u40_18 {B : fA} {i : Nat} {x : Int32} : up B 18 i x 40 = B 40 := up_ne (by decide)
theorem u40_19 {B : fA} {i : Nat} {x : Int32} : up B 19 i x 40 = B 40 := up_ne (by decide)
theorem u40_20 {B : fA} {i : Nat} {x : Int32} : up B 20 i x 40 = B 40 := up_ne (by decide)
theorem u40_21 {B : fA} {i : Nat} {x : Int32} : up B 21 i x 40 = B 40 := up_ne (by decide)
theorem u40_22 {B : fA} {i : Nat} {x : Int32} : up B 22 i x 40 = B 40 := up_ne (by decide)
theorem u40_23 {B : fA} {i : Nat} {x : Int32} : up B 23 i x 40 = B 40 := up_ne (by decide)
theorem u40_24 {B : fA} {i : Nat} {x : Int32} : up B 24 i x 40 = B 40 := up_ne (by decide)
theorem u40_25 {B : fA} {i : Nat} {x : Int32} : up B 25 i x 40 = B 40 := up_ne (by decide)
theorem u40_26 {B : fA} {i : Nat} {x : Int32} : up B 26 i x 40 = B 40 := up_ne (by decide)
theorem u40_27 {B : fA} {i : Nat} {x : Int32} : up B 27 i x 40 = B 40 := up_ne (by decide)
theorem u40_28 {B : fA} {i : Nat} {x : Int32} : up B 28 i x 40 = B 40 := up_ne (by decide)
theorem u40_29 {B : fA} {i : Nat} {x : Int32} : up B 29 i x 40 = B 40 := up_ne (by decide)
theorem u40_30 {B : fA} {i : Nat} {x : Int32} : up B 30 i x 40 = B 40 := up_ne (by decide)
theorem u40_31 {B : fA} {i : Nat} {x : Int32} : up B 31 i x 40 = B 40 := up_ne (by decide)
theorem u40_32 {B : fA} {i : Nat} {x : Int32} : up B 32 i x 40 = B 40 := up_ne (by decide)
theorem u40_33 {B : fA} {i : Nat} {x : Int32} : up B 33 i x 40 = B 40 := up_ne (by decide)
theorem u40_34 {B : fA} {i : Nat} {x : Int32} : up B 34 i x 40 = B 40 := up_ne (by decide)
theorem u40_35 {B : fA} {i : Nat} {x : Int32} : up B 35 i x 40 = B 40 := up_ne (by decide)
theorem u40_36 {B : fA} {i : Nat} {x : Int32} : up B 36 i x 40 = B 40 := up_ne (by decide)
theorem u40_37 {B : fA} {i : Nat} {x : Int32} : up B 37 i x 40 = B 40 := up_ne (by decide)
theorem u40_38 {B : fA} {i : Nat} {x : Int32} : up B 38 i x 40 = B 40 := up_ne (by decide)
theorem u40_39 {B : fA} {i : Nat} {x : Int32} : up B 39 i x 40 = B 40 := up_ne (by decide)
theorem u40_46 {B : fA} {i : Nat} {x : Int32} : up B 46 i x 40 = B 40 := up_ne (by decide)
theorem u40_47 {B : fA} {i : Nat} {x : Int32} : up B 47 i x 40 = B 40 := up_ne (by decide)
end Steps
