/-! the seasons -/
section YearM
variable {S : sT} {d c : Nat} {k : Value} {E : List dsc} {A : fA} {L : fL} {T : fT} {W : fW}
theorem it_0 {stp : fW → Nat → fW} {N n : Nat} (h : ∀ V f, f < N → stp V f 0 = V 0) (hn : n ≤ N) (W : fW) : itW stp n W 0 = W 0 := by
  induction n with
  | zero => rfl
  | succ n ih =>
    show stp (itW stp n W) n 0 = W 0
    rw [h _ n (by omega)]
    exact ih (by omega)
theorem su_0 : suF W 0 = W 0 := by
  unfold suF roW
  rw [upd_o (by omega)]
  unfold wrN
  rw [if_neg (by omega), if_neg (by omega), sh_lo (by omega)]
  refine it_0 (N := 48) (fun V f hf => ?_) (Nat.le_refl _) W
  unfold smF slF
  cases holW (hvF V (rainW W (W 0 / 4).toNatClampNeg) f) f with
  | none => exact hv_o (by omega) (by omega) (by omega) (by omega)
  | some h =>
    show seF _ h _ 0 = _
    rw [se_o (by omega) (by omega) (by omega)]
    exact hv_o (by omega) (by omega) (by omega) (by omega)
theorem au_0 {h : Nat} : auF W h 0 = W 0 := by
  unfold auF
  split
  · rfl
  · split
    · split
      · unfold reW; rw [ad_o (by omega), ad_o (by omega)]
      · rfl
    · unfold pyW reW pyB
      rw [ad_o (by omega), ad_o (by omega), upd_o (by omega), ad_o (by omega)]
      exact pyA_o (by omega)
theorem dg_0 {h : Nat} : dgF W h 0 = W 0 := by
  unfold dgF
  split
  · rw [dk_o (by omega)]
    unfold dgB dgA
    rw [com_o (by omega) (by omega), ad_o (by omega), ad_o (by omega)]
  · rfl
theorem el_0 {h : Nat} : elF W h 0 = W 0 := by
  unfold elF
  split
  · unfold ouF
    rw [lvN_hi (Nat.le_refl _) (by omega)]
    exact ou_o (by omega) (by omega) (by omega) (by omega)
  · rfl
theorem wn_0 : wnF W 0 = W 0 := by
  unfold wnF wnD
  rw [it_0 (N := hn (pcF (wnC (wnB (wnA W))))) (fun V f _ => el_0) (Nat.le_refl _)]
  unfold pcF
  rw [ad_o (by omega), ad_o (by omega)]
  unfold wnC
  rw [it_0 (stp := lnF) (N := ln (wnB (wnA W))) (fun V f _ => (upd_o (by omega)).trans (ad_o (by omega))) (Nat.le_refl _)]
  unfold wnB
  rw [it_0 (N := hn (wnA W)) (fun V f _ => dg_0) (Nat.le_refl _)]
  unfold wnA
  rw [it_0 (N := 48) (fun V f _ => go_o (by omega) (by omega) (by omega)) (Nat.le_refl _), it_0 (N := 48) (fun V f _ => bg_o (by omega)) (Nat.le_refl _)]
/-- what a season does -/
def psF (W : fW) : fW := if W 0 - W 0 / 4 * 4 = 0 then itW spF 48 W else if W 0 - W 0 / 4 * 4 = 1 then suF W else if W 0 - W 0 / 4 * 4 = 2 then itW auF (hn W) W else wnF W
theorem ps_0 : psF W 0 = W 0 := by
  unfold psF
  split
  · exact it_0 (N := 48) (fun V f _ => sp_o (by omega)) (Nat.le_refl _) W
  · split
    · exact su_0
    · split
      · exact it_0 (N := hn W) (fun V f _ => au_0) (Nat.le_refl _) W
      · exact wn_0
def nxW (W : fW) : fW := upd (psF W) 0 (psF W 0 + 1)
theorem j0 {x : Int32} (hI : Iv c W) (hx : rg x 0 400) (hl : ¬ x < W 0) : Iv c (upd W 0 x) := by
  have e : ∀ i, i ≠ 0 → upd W 0 x i = W i := fun i hi => upd_o hi
  obtain ⟨i0, i1, i2, i3, i4, i5, i6, i7, i8, i9, i10⟩ := hI
  refine ⟨?_, ?_, IvRn_c (fun i h1 h2 => e i (by omega)) i2, IvPr_c ?_ (fun i h1 h2 => e i (by omega)) i3, IvHs_c (fun i hi => e i (by omega)) i4, IvG_0 (fun i h1 h2 => e i (by omega)) i5, IvLn_c (fun i h1 h2 => e i (by omega)) i6, IvJb_c (fun i h1 h2 => e i (by omega)) i7, IvTb_c (fun i h1 h2 => e i (by omega)) i8, IvRw_c (e _ (by omega)) i9, IvXs_c (fun i h1 h2 => e i (by omega)) i10⟩
  · rw [upd_s]; exact hx
  · intro f hf
    have q := i1 f hf
    unfold IvF at q ⊢
    rw [hn_c (e 1683 (by omega)), e (8 + 14 * f + 0) (by omega), e (8 + 14 * f + 1) (by omega), e (8 + 14 * f + 2) (by omega), e (8 + 14 * f + 3) (by omega), e (8 + 14 * f + 4) (by omega), e (8 + 14 * f + 5) (by omega), e (8 + 14 * f + 6) (by omega), e (8 + 14 * f + 7) (by omega), e (8 + 14 * f + 8) (by omega), e (8 + 14 * f + 10) (by omega), e (8 + 14 * f + 11) (by omega), e (8 + 14 * f + 12) (by omega), e (8 + 14 * f + 13) (by omega)]
    obtain ⟨a0, a1, a2, a3, a4, a5, a6, a7, a8, a9, a10⟩ := q
    refine ⟨a0, a1, a2, a3, a4, a5, a6, a7, a8, ?_, a10⟩
    rcases a9 with a9 | ⟨g, hg, a9⟩
    · exact Or.inl a9
    · refine Or.inr ⟨g, hg, ?_⟩
      rw [e (1684 + 11 * g + 0) (by omega)]
      exact a9
  · rw [upd_s]; exact hl
theorem k0 {x : Int32} (hI : Iv c W) (h0 : LkA 4 k E A T W) : LkA 4 k E (up A 4 7 x) T (upd W 0 x) := by
  have e : ∀ i, i ≠ 0 → upd W 0 x i = W i := fun i hi => upd_o hi
  obtain ⟨i0, i1, i2, i3, i4, i5, i6, i7, i8, i9, i10⟩ := hI
  obtain ⟨l0, l1, l2, l3, l4, l5, l6, l7⟩ := h0
  have hA : ∀ r, 49 ≤ r → up A 4 7 x r = A r := fun r hr => up_ne (by omega)
  refine ⟨?_, LkL_c (fun i h1 h2 => e i (by omega)) l1, LkM_c i3.2.1 (fun i h1 h2 => e i (by omega)) l2, LkG_c (fun i hi => e i (by omega)) l3, LkP_c (fun i h1 h2 => e i (by omega)) l4, LkR_c (fun i h1 h2 => e i (by omega)) l5, LkH_A (LkH_c i4.2.1 (fun i hi => e i (by omega)) l6) (fun r hr => hA r hr.1), LkX_A (LkX_c i10.2.1 (fun i h1 h2 => e i (by omega)) l7) (fun r hr => hA r hr.1)⟩
  rw [upd_s]
  exact up_ii
theorem se_c (hI : Iv c W) (h : ¬ 400 ≤ W 0) : rg (psF W 0 + 1) 0 400 ∧ ¬ psF W 0 + 1 < psF W 0 := by
  rw [ps_0]
  obtain ⟨n, hn, hn2, en⟩ := rg_of (b := 400) hI.1
  rw [en] at h ⊢
  have : n < 400 := by
    rcases Nat.lt_or_ge n 400 with q | q
    · exact q
    · exact absurd (show (400 : Int32) ≤ nI n by rw [show n = 400 by omega]; decide) h
  rw [nI_p1]
  exact ⟨rg_nI (by omega) (by omega), nI_nlt (by omega) (by omega)⟩
theorem c_lp (hT : Tj c k E T A W) : ex S (d + 2) 182 [.ref 4] (Hh k E A L T) = some (.inl none, Hh k E (upR A 36 (prR W (A 36) (pn W))) L T) ∧ Ti c k E T (upR A 36 (prR W (A 36) (pn W))) W := by
  have s7 : A 4 7 = W 0 := hT.2.1.1
  refine ⟨?_, hT.1, Lk_36 hT.2.1, PrOk_of hT.2.2⟩
  rw [x_X0_learnPrices, g_X0_learnPrices_0]
  simp -implicitDefEqProofs only [hv_4_3, hg_4_7, s7, dv_4, hv_4_8, hc_16, c_learnP hT.2.1.2.2.1 hT.1.2.2.2.1, q_U]
theorem c_pass (hT : Tj c k E T A W) (h400 : ¬ 400 ≤ W 0) : ∃ A' L', ex S (d + 7) 228 [.ref 38] (Hh k E A L T) = some (.inl none, Hh k E A' L' T) ∧ Tj c k E T A' (nxW W) ∧ Fr A A' := by
  obtain ⟨e1, t1⟩ := c_lp (S := S) (d := d + 4) (L := L) hT
  have f1 : Fr A (upR A 36 (prR W (A 36) (pn W))) := Fr_36
  obtain ⟨r1, r2⟩ := se_c hT.1 h400
  generalize upR A 36 (prR W (A 36) (pn W)) = B at *
  have s7 : B 4 7 = W 0 := t1.2.1.1
  have fin : ∀ (C : fA) (M : fL), Tj c k E T C (psF W) → Fr A C → ∃ A' L', (gV (Hh k E C M T) (.ref 38) 13 0 fun w2 => nl w2 (gI (Hh k E C M T) w2 3 7 fun y3 => pF (Hh k E C M T) w2 3 7 (.int (y3 + 1)) fun h4 => some (.inl none, h4))) = some (.inl none, Hh k E A' L' T) ∧ Tj c k E T A' (nxW W) ∧ Fr A A' := by
    intro C M hC hF
    have q7 : C 4 7 = psF W 0 := hC.2.1.1
    have hf : Fr C (up C 4 7 (psF W 0 + 1)) := Fr_up (by decide) (by decide)
    refine ⟨up C 4 7 (psF W 0 + 1), M, ?_, Tj_up hC (j0 hC.1 r1 r2) (k0 hC.1 hC.2.1) hf, Fr_tr hF hf⟩
    simp -implicitDefEqProofs only [hv_38_0, hg_4_7, q7, hp_4_7, q_nr]
  rw [x_X10_pass, g_X10_pass_0]
  simp -implicitDefEqProofs only [hv_38_0, hc_4, e1, q_U, hg_4_7, s7, dv_4]
  unfold psF at fin
  by_cases q0 : W 0 - W 0 / 4 * 4 = 0
  · simp -implicitDefEqProofs only [if_pos q0] at fin
    rw [if_pos q0, g_X10_pass_44]
    obtain ⟨A', z1, z2, z3⟩ := c_spring (S := S) (d := d + 1) (L := L) t1
    simp -implicitDefEqProofs only [hc_38, z1, q_U]
    exact fin A' L (Ti_j z2) (Fr_tr f1 z3)
  · simp -implicitDefEqProofs only [if_neg q0] at fin
    rw [if_neg q0]
    by_cases q1 : W 0 - W 0 / 4 * 4 = 1
    · simp -implicitDefEqProofs only [if_pos q1] at fin
      rw [if_pos q1, g_X10_pass_51]
      obtain ⟨A', z1, z2, z3⟩ := c_summer (S := S) (d := d + 1) (L := L) t1
      simp -implicitDefEqProofs only [hc_38, z1, q_U]
      exact fin A' L (Ti_j z2) (Fr_tr f1 z3)
    · simp -implicitDefEqProofs only [if_neg q1] at fin
      rw [if_neg q1]
      by_cases q2 : W 0 - W 0 / 4 * 4 = 2
      · simp -implicitDefEqProofs only [if_pos q2] at fin
        rw [if_pos q2, g_X10_pass_58]
        obtain ⟨A', L', z1, z2, z3⟩ := c_autumn (S := S) (d := d) (L := L) t1
        simp -implicitDefEqProofs only [hc_38, z1, q_U]
        exact fin A' L' (Ti_j z2) (Fr_tr f1 z3)
      · simp -implicitDefEqProofs only [if_neg q2] at fin
        rw [if_neg q2, g_X10_pass_65]
        obtain ⟨A1, a1, a2, a3⟩ := c_breed (S := S) (d := d + 1) (L := L) t1
        obtain ⟨A2, b1, b2, b3⟩ := c_older (S := S) (d := d + 1) (L := L) a2
        have b2' : Tj c k E T A2 (wnA W) := Ti_j b2
        obtain ⟨A3, c1, c2, c3, -⟩ := c_digM (S := S) (d := d) (L := L) b2'
        obtain ⟨A4, d1, d2, d3⟩ := c_payL (S := S) (d := d + 3) (L := L) c2
        obtain ⟨L5, e2⟩ := c_charges (S := S) (d := d + 1) (L := L) d2.1 d2.2.1 d2.2.2
        have t5 : Tj c k E T (upR A4 36 (prR (itW lnF (ln (itW dgF (hn (wnA W)) (wnA W))) (itW dgF (hn (wnA W)) (wnA W))) (A4 36) (pn (itW lnF (ln (itW dgF (hn (wnA W)) (wnA W))) (itW dgF (hn (wnA W)) (wnA W)))))) (itW lnF (ln (itW dgF (hn (wnA W)) (wnA W))) (itW dgF (hn (wnA W)) (wnA W))) := Tj_up d2 d2.1 (Lk_36 d2.2.1) Fr_36
        have f5 : Fr A4 (upR A4 36 (prR (itW lnF (ln (itW dgF (hn (wnA W)) (wnA W))) (itW dgF (hn (wnA W)) (wnA W))) (A4 36) (pn (itW lnF (ln (itW dgF (hn (wnA W)) (wnA W))) (itW dgF (hn (wnA W)) (wnA W)))))) := Fr_36
        obtain ⟨A6, g1, g2, g3⟩ := c_payC (S := S) (d := d + 3) (L := L5) t5
        obtain ⟨A7, L7, i1, i2, i3⟩ := c_endL (S := S) (d := d) (L := L5) g2
        have i2' : Tj c k E T A7 (wnF W) := i2
        simp -implicitDefEqProofs only [hc_38, a1, q_U, b1, c1, hv_38_3, hc_22, d1, hv_38_0, hc_4, e2, q_I, g1, i1]
        have key := fin A7 L7 i2' (Fr_tr (Fr_tr (Fr_tr f1 (Fr_tr a3 b3)) (Fr_tr (Fr_tr c3 d3) (Fr_tr f5 g3))) i3)
        simp -implicitDefEqProofs only [hv_38_0] at key
        exact key
/-- so many seasons, till 400 -/
def snN (W : fW) : Nat → fW
  | 0 => W
  | n + 1 => if 400 ≤ snN W n 0 then snN W n else nxW (snN W n)
theorem sn_stop {n m : Nat} (h : n ≤ m) (hs : 400 ≤ snN W n 0) : snN W m = snN W n := by
  induction m with
  | zero => rw [show n = 0 by omega]
  | succ m ih =>
    by_cases q : n = m + 1
    · rw [q]
    · have := ih (by omega)
      show (if 400 ≤ snN W m 0 then snN W m else nxW (snN W m)) = snN W n
      rw [this, if_pos hs]
theorem c_sea {n : Nat} (hn40 : n ≤ 40) (hT : Tj c k E T A W) : ∃ A' L', bd S (ex S (d + 7)) dflT E_X11_seasons 99999 9 [some (.ref 0), some (.int (nI n)), some (.int 0)] [] (Hh k E A L T) = some (.inl (some (.int (snN W n 0))), Hh k E A' L' T) ∧ Tj c k E T A' (snN W n) ∧ Fr A A' := by
  refine loop_Q (α := fA × fL) (F := fun g i s => bd S (ex S (d + 7)) dflT E_X11_seasons g 9 [some (.ref 0), some (.int (nI n)), some (.int (nI i))] [] (Hh k E s.1 s.2 T)) (N := n) (P := fun i s => Tj c k E T s.1 (snN W i) ∧ Fr A s.1) (Q := fun r => ∃ A' L', r = some (.inl (some (.int (snN W n 0))), Hh k E A' L' T) ∧ Tj c k E T A' (snN W n) ∧ Fr A A') ?_ ?_ (s := (A, L)) ⟨hT, Fr_refl⟩ (by omega)
  · rintro g i ⟨B, M⟩ hi ⟨hB, hFr⟩
    simp only at hB hFr
    have g0 : ¬ nI n ≤ nI i := nI_ge hi (by omega)
    have s7 : B 4 7 = snN W i 0 := hB.2.1.1
    rw [g_X11_seasons_9]
    simp -implicitDefEqProofs only [if_neg g0, hv_0_1, hg_4_7, s7]
    by_cases q : 400 ≤ snN W i 0
    · left
      have e := sn_stop (W := W) (show i ≤ n by omega) q
      rw [if_pos q, e]
      exact ⟨B, M, rfl, hB, hFr⟩
    · right
      obtain ⟨A', L', z1, z2, z3⟩ := c_pass (S := S) (d := d) (L := M) hB q
      rw [if_neg q]
      simp -implicitDefEqProofs only [hv_0_2, hc_38, z1, q_U, nI_p1]
      refine ⟨(A', L'), rfl, ?_, Fr_tr hFr z3⟩
      show Tj c k E T A' (if 400 ≤ snN W i 0 then snN W i else nxW (snN W i))
      rw [if_neg q]; exact z2
  · rintro g ⟨B, M⟩ ⟨hB, hFr⟩
    simp only at hB hFr
    have s7 : B 4 7 = snN W n 0 := hB.2.1.1
    rw [g_X11_seasons_9]
    simp -implicitDefEqProofs only [if_pos (Int32.le_refl (nI n)), hv_0_1, hg_4_7, s7]
    exact ⟨B, M, rfl, hB, hFr⟩
theorem jNx (hI : Iv c W) (hp : Iv c (psF W)) (h400 : ¬ 400 ≤ W 0) : Iv c (nxW W) := by
  obtain ⟨r1, r2⟩ := se_c hI h400
  exact j0 hp r1 r2
theorem r_season1 {x1 x2 : Int32} (hI : Iv c (A 40)) (h400 : ¬ 400 ≤ A 40 0) (h12 : ¬ x1 ≤ x2) (g : Nat) : ∃ A' L', bd S (ex S (d + 9)) dflT E_X12_seasons (g + 2) 32 [some (.ref 39), some (.int x1), some (.int x2)] [] (Hh k E A L T) = bd S (ex S (d + 9)) dflT E_X12_seasons g 32 [some (.ref 39), some (.int x1), some (.int (x2 + 1))] [] (Hh k E A' L' T) ∧ A' 40 = nxW (A 40) ∧ Fg A A' ∧ Iv c (A' 40) ∧ ∀ r, r ≠ 44 → r ≠ 45 → L' r = L r := by
  rw [show g + 2 = (g + 1) + 1 from rfl, g_X12_seasons_32]
  simp -implicitDefEqProofs only [if_neg h12, hc_39, r_season, q_I, if_neg h400, dv_4]
  have fin : ∀ (C : fA) (M : fL), C 40 = psF (A 40) → Iv c (C 40) → Fg A C → (∀ r, r ≠ 44 → r ≠ 45 → M r = L r) → ∃ A' L', (gV (Hh k E C M T) (.ref 39) 15 1 fun w2 => nl w2 (aI (Hh k E C M T) w2 0 0 fun y3 => sI (Hh k E C M T) w2 0 0 (y3 + 1) fun h4 => bd S (ex S (d + 9)) dflT E_X12_seasons g 32 [some (.ref 39), some (.int x1), some (.int (x2 + 1))] [] h4)) = bd S (ex S (d + 9)) dflT E_X12_seasons g 32 [some (.ref 39), some (.int x1), some (.int (x2 + 1))] [] (Hh k E A' L' T) ∧ A' 40 = nxW (A 40) ∧ Fg A A' ∧ Iv c (A' 40) ∧ ∀ r, r ≠ 44 → r ≠ 45 → L' r = L r := by
    intro C M hC hJ hF hM
    have e40 : up C 40 0 (psF (A 40) 0 + 1) 40 = nxW (A 40) := by rw [up40, hC]; rfl
    refine ⟨up C 40 0 (psF (A 40) 0 + 1), M, ?_, e40, Fg_tr hF Fg_up, ?_, hM⟩
    · simp -implicitDefEqProofs only [hv_39_1, aw_40_0, sw_40_0, hC, q_nr]
    · rw [e40]; exact jNx hI (by rw [← hC]; exact hJ) h400
  unfold psF at fin
  by_cases q0 : A 40 0 - A 40 0 / 4 * 4 = 0
  · simp -implicitDefEqProofs only [if_pos q0] at fin
    rw [if_pos q0, g_X12_seasons_80]
    obtain ⟨A', z1, z2, z3, z4⟩ := r_spring (S := S) (d := d + 4) (k := k) (E := E) (A := A) (L := L) (T := T) hI
    simp -implicitDefEqProofs only [hc_39, z1, q_U]
    exact fin A' L z2 z4 z3 (fun _ _ _ => rfl)
  · simp -implicitDefEqProofs only [if_neg q0] at fin
    rw [if_neg q0]
    by_cases q1 : A 40 0 - A 40 0 / 4 * 4 = 1
    · simp -implicitDefEqProofs only [if_pos q1] at fin
      rw [if_pos q1, g_X12_seasons_87]
      obtain ⟨A', z1, z2, z3, z4⟩ := r_summer (S := S) (d := d + 4) (k := k) (E := E) (A := A) (L := L) (T := T) hI
      simp -implicitDefEqProofs only [hc_39, z1, q_U]
      exact fin A' L z2 z4 z3 (fun _ _ _ => rfl)
    · simp -implicitDefEqProofs only [if_neg q1] at fin
      rw [if_neg q1]
      by_cases q2 : A 40 0 - A 40 0 / 4 * 4 = 2
      · simp -implicitDefEqProofs only [if_pos q2] at fin
        rw [if_pos q2, g_X12_seasons_94]
        obtain ⟨A', L', z1, z2, z3, z4, z5⟩ := r_autumn (S := S) (d := d + 2) (k := k) (E := E) (A := A) (L := L) (T := T) hI
        simp -implicitDefEqProofs only [hc_39, z1, q_U]
        exact fin A' L' z2 z4 z3 z5
      · simp -implicitDefEqProofs only [if_neg q2] at fin
        rw [if_neg q2, g_X12_seasons_101]
        obtain ⟨A', L', z1, z2, z3, z4, z5⟩ := r_winter (S := S) (d := d) (k := k) (E := E) (A := A) (L := L) (T := T) hI
        simp -implicitDefEqProofs only [hc_39, z1, q_U]
        exact fin A' L' z2 z4 z3 z5
theorem r_sea {n : Nat} (hn40 : n ≤ 40) (hI : Iv c (A 40)) : ∃ A' L', bd S (ex S (d + 9)) dflT E_X12_seasons 99999 32 [some (.ref 39), some (.int (nI n)), some (.int 0)] [] (Hh k E A L T) = some (.inl (some (.int (snN (A 40) n 0))), Hh k E A' L' T) ∧ A' 40 = snN (A 40) n ∧ Fg A A' ∧ Iv c (A' 40) ∧ ∀ r, r ≠ 44 → r ≠ 45 → L' r = L r := by
  refine loop_QK (K := 2) (α := fA × fL) (F := fun g i s => bd S (ex S (d + 9)) dflT E_X12_seasons g 32 [some (.ref 39), some (.int (nI n)), some (.int (nI i))] [] (Hh k E s.1 s.2 T)) (N := n) (P := fun i s => s.1 40 = snN (A 40) i ∧ Fg A s.1 ∧ Iv c (s.1 40) ∧ ∀ r, r ≠ 44 → r ≠ 45 → s.2 r = L r) (Q := fun r => ∃ A' L', r = some (.inl (some (.int (snN (A 40) n 0))), Hh k E A' L' T) ∧ A' 40 = snN (A 40) n ∧ Fg A A' ∧ Iv c (A' 40) ∧ ∀ r, r ≠ 44 → r ≠ 45 → L' r = L r) ?_ ?_ (s := (A, L)) ⟨rfl, Fg_refl, hI, fun _ _ _ => rfl⟩ (by omega)
  · rintro g i ⟨B, M⟩ hi ⟨hB, hFr, hJ, hM⟩
    simp only at hB hFr hJ hM
    have g0 : ¬ nI n ≤ nI i := nI_ge hi (by omega)
    by_cases q : 400 ≤ snN (A 40) i 0
    · left
      have e := sn_stop (W := A 40) (show i ≤ n by omega) q
      have q' : 400 ≤ B 40 0 := by rw [hB]; exact q
      rw [show g + 2 = (g + 1) + 1 from rfl, g_X12_seasons_32]
      simp -implicitDefEqProofs only [if_neg g0, hc_39, r_season, q_I, if_pos q']
      exact ⟨B, M, by rw [e, hB], by rw [e, hB], hFr, hJ, hM⟩
    · right
      obtain ⟨A', L', z1, z2, z3, z4, z5⟩ := r_season1 (S := S) (d := d) (k := k) (E := E) (A := B) (L := M) (T := T) (x1 := nI n) (x2 := nI i) hJ (by rw [hB]; exact q) g0 g
      refine ⟨(A', L'), g, Nat.le_refl _, by rw [nI_p1] at z1; exact z1, ?_, Fg_tr hFr z3, z4, fun r x1 x2 => (z5 r x1 x2).trans (hM r x1 x2)⟩
      show A' 40 = if 400 ≤ snN (A 40) i 0 then snN (A 40) i else nxW (snN (A 40) i)
      rw [if_neg q, z2, hB]
  · rintro g ⟨B, M⟩ ⟨hB, hFr, hJ, hM⟩
    simp only at hB hFr hJ hM
    rw [show g + 2 = (g + 1) + 1 from rfl, g_X12_seasons_32]
    simp -implicitDefEqProofs only [if_pos (Int32.le_refl (nI n)), hc_39, r_season, q_I]
    exact ⟨B, M, by rw [hB], hB, hFr, hJ, hM⟩
theorem p_seasons (hR : Rel c k E A T) (x : Int32) : PK c S (d + 10) k E A T 229 256 [.int x] cdA := by
  have hI := Rel_w hR
  by_cases q : wi x 0 40
  · obtain ⟨n, hn, rfl⟩ := wi_n (M := 40) (by decide) q
    obtain ⟨h36a, h36b⟩ := Rel_36 hR
    have hJ : Iv c (snN (A 40) n) := by
      obtain ⟨A', L', -, t, -⟩ := c_sea (S := S) (d := d) (L := fun _ _ => 0) hn (W := A 40) ⟨hI, hR.2.1, h36a, h36b⟩
      exact t.1
    refine PK_v (v := some (.int (snN (A 40) n 0))) (V := snN (A 40) n) hR (Iv_c (Nat.le_succ c) hJ) (fun L => ?_) (fun B M hB => ?_)
    · obtain ⟨A', L', z1, z2, z3⟩ := c_sea (S := S) (d := d + 2) (L := L) hn (W := A 40) ⟨hI, hR.2.1, h36a, h36b⟩
      refine ⟨A', L', ?_, z3, z2.2.1⟩
      rw [x_X11_seasons, g_X11_seasons_0, c_in1 q, q_U, z1]
    · obtain ⟨A', L', z1, z2, z3, z4, z5⟩ := r_sea (S := S) (d := d) (k := k) (E := E) (A := up B 39 0 0) (L := M) (T := T) (c := c) hn (by rw [u40_39, hB]; exact hI)
      rw [u40_39, hB] at z1 z2
      refine ⟨A', L', ?_, z5 48 (by decide) (by decide), z3, z2⟩
      simp -implicitDefEqProofs only [x_X12_seasons, g_X12_seasons_0, hp_39_0, r_in1 q, q_I, i1_0, if_false, hc_39, r_thr0, i0_0, if_true, z1]
  · refine PK_e (e := 1) (x := 1) hR rfl (fun L => ?_) (fun M => ⟨some (.int 0), rfl, ?_⟩)
    · rw [x_X11_seasons, g_X11_seasons_0, c_in0 q, q_Ue]
    · simp -implicitDefEqProofs only [x_X12_seasons, g_X12_seasons_0, hp_39_0, r_in0 q, q_I, hc_39, r_thr1, i0_0, i1_0, if_true, if_false, up_up]
end YearM
