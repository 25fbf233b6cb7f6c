/-! RAIN and PRICES -/
section MarketB
variable {S : sT} {d c : Nat} {k : Value} {E : List dsc} {A : fA} {L : fL} {T : fT} {W : fW}
/-- what was told of a year's rain; the rain -/
def toldW (W : fW) (y : Int32) : Int32 := if y < 0 then 0 else if 100 < y then 0 else W (680 + 2 * y.toNatClampNeg)
def rainW (W : fW) (y : Nat) : Int32 := if W (680 + 2 * y + 1) = 1 then toldW W (nI y) else (toldW W (nI y - 1) + toldW W (nI y + 1)) / 2
theorem r_told {y : Int32} : ex S (d + 2) 42 [.ref 39, .int y] (Hh k E A L T) = some (.inl (some (.int (toldW (A 40) y))), Hh k E A L T) := by
  rw [x_X12_rainTold, g_X12_rainTold_0]
  unfold toldW
  by_cases q : wi y 0 100
  · rw [r_in1 q]
    obtain ⟨n, hn, rfl⟩ := wi_n (M := 100) (by decide) q
    simp -implicitDefEqProofs only [q_I, i1_0, if_false, hv_39_1, ix_680, an_40 (show 680 + 2 * n < 35877 by omega), if_neg q.1, if_neg q.2, nI_clamp (show n < 2 ^ 31 by omega)]
  · rw [r_in0 q]
    simp -implicitDefEqProofs only [q_I, i0_0, if_true]
    by_cases q1 : y < 0
    · rw [if_pos q1]
    · by_cases q2 : 100 < y
      · rw [if_neg q1, if_pos q2]
      · exact absurd ⟨q1, q2⟩ q
theorem r_rainOf {y : Nat} (hy : y < 101) : ex S (d + 3) 43 [.ref 39, .int (nI y)] (Hh k E A L T) = some (.inl (some (.int (rainW (A 40) y))), Hh k E A L T) := by
  rw [x_X12_rainOf, g_X12_rainOf_0]
  unfold rainW
  simp -implicitDefEqProofs only [hv_39_1, ix_680, nI_p1, an_40 (show 680 + 2 * y + 1 < 35877 by omega), hc_39, r_told, q_I, dv_2]
  split <;> rfl
theorem c_told {y : Int32} (hM : LkM (A 16) (A 17) (A 18) (A 19) (A 20) (A 21) W) (hI : Iv c W) : ex S (d + 1) 38 [.ref 16, .int y] (Hh k E A L T) = some (.inl (some (.int (toldW W y))), Hh k E A L T) := by
  rw [x_X4_toldRain, g_X4_toldRain_0]
  unfold toldW
  by_cases h0 : y < 0
  · simp -implicitDefEqProofs only [if_pos h0]
  · by_cases h1 : 100 < y
    · simp -implicitDefEqProofs only [if_neg h0, if_pos h1]
    · obtain ⟨n, hn, rfl⟩ := wi_n (M := 100) (by decide) ⟨h0, h1⟩
      simp -implicitDefEqProofs only [if_neg h0, if_neg h1, hv_16_1, nI_clamp (show n < 2 ^ 31 by omega), an_17 (show n < 101 by omega), hM.2.1 n (by omega)]
      rcases hI.2.2.1 n (by omega) with ⟨e1, e2⟩ | ⟨e1, e2⟩
      · simp -implicitDefEqProofs only [e1, if_true]
        rw [if_neg]
        intro e; rw [e] at e2; exact absurd e2.2 (by decide)
      · have e3 : (if W (680 + 2 * n + 1) = 1 then W (680 + 2 * n) else 99) = 99 := if_neg (by rw [e1]; decide)
        rw [e3, if_pos rfl, e2]
theorem c_rainOf {y : Nat} (hM : LkM (A 16) (A 17) (A 18) (A 19) (A 20) (A 21) W) (hI : Iv c W) (hy : y < 101) : ex S (d + 2) 39 [.ref 16, .int (nI y)] (Hh k E A L T) = some (.inl (some (.int (rainW W y))), Hh k E A L T) := by
  rw [x_X4_rainOf, g_X4_rainOf_0, if_neg (nI_pos (by omega)), if_neg (show ¬ (100 : Int32) < nI y from nI_nlt (a := 100) (by omega) (by decide))]
  simp -implicitDefEqProofs only [hv_16_1, an_17 hy, hc_16, c_told hM hI, q_I, dv_2, hM.2.1 y hy]
  unfold rainW
  rcases hI.2.2.1 y hy with ⟨e1, e2⟩ | ⟨e1, e2⟩
  · simp -implicitDefEqProofs only [e1, if_true]
    rw [if_neg]
    intro e; rw [e] at e2; exact absurd e2.2 (by decide)
  · have e3 : (if W (680 + 2 * y + 1) = 1 then W (680 + 2 * y) else 99) = 99 := if_neg (by rw [e1]; decide)
    rw [e3, if_pos rfl, if_neg (by rw [e1]; decide)]
/-- what the codes of thrown things are in the law -/
def cd0 (e : Nat) : Int32 := 0
def cdA (e : Nat) : Int32 := if e = 1 then 1 else 0
theorem p_fell (hR : Rel c k E A T) (x : Int32) : PI c S (d + 5) k E A T 40 44 [.int x] cdA := by
  by_cases q : wi x 0 100
  · obtain ⟨y, hy, rfl⟩ := wi_n (M := 100) (by decide) q
    refine ⟨k, E, A, T, up A 39 0 0, Rel_thr hR 0, Or.inl ⟨some (.int (rainW (A 40) y)), rfl, fun L => ⟨L, ?_⟩, fun L => ⟨L, ?_, rfl⟩, up_ii⟩⟩
    · simp -implicitDefEqProofs only [x_X11_fell, g_X11_fell_0, c_in1 q, q_U, hv_0_1, hv_4_3, hc_16, c_rainOf (Rel_m hR) (Rel_w hR) (show y < 101 by omega), q_I]
    · simp -implicitDefEqProofs only [x_X12_fell, g_X12_fell_0, hp_39_0, r_in1 q, q_I, i1_0, if_false, hc_39, r_thr0, i0_0, if_true, r_rainOf (show y < 101 by omega)]
      rfl
  · refine ⟨k, E, A, T, up A 39 0 1, Rel_thr hR 1, Or.inr ⟨1, by decide, fun L => ⟨L, ?_⟩, fun L => ⟨L, some (.int 0), rfl, ?_, rfl⟩, up_ii⟩⟩
    · simp -implicitDefEqProofs only [x_X11_fell, g_X11_fell_0, c_in0 q, q_Ue]
    · simp -implicitDefEqProofs only [x_X12_fell, g_X12_fell_0, hp_39_0, r_in0 q, q_I, i0_0, if_true, hc_39, r_thr1, i1_0, if_false, up_up]
/-- rain is told -/
theorem Rel_rain (hR : Rel c k E A T) {y : Nat} (hy : y < 101) {x v b : Int32} (hv : b = 1 ∧ rg v (-5) 5 ∧ x = v ∨ b = 0 ∧ v = 0 ∧ x = 99) : Rel (c + 1) k E (up (up (up (up A 17 y x) 39 0 0) 40 (680 + 2 * y) v) 40 (680 + 2 * y + 1) b) T := by
  obtain ⟨i0, i1, i2, i3, i4, i5, i6, i7, i8, i9, i10⟩ := Rel_w hR
  obtain ⟨l0, l1, l2, l3, l4, l5, l6, l7⟩ := hR.2.1
  have e : ∀ j, (j < 680 ∨ 882 ≤ j) → (up (up (up (up A 17 y x) 39 0 0) 40 (680 + 2 * y) v) 40 (680 + 2 * y + 1) b) 40 j = A 40 j := by
    intro j hj; rw [up_rr (by omega), up_rr (by omega), up_ne (by omega), up_ne (by omega)]
  have hA : ∀ r, 49 ≤ r → (up (up (up (up A 17 y x) 39 0 0) 40 (680 + 2 * y) v) 40 (680 + 2 * y + 1) b) r = A r := by
    intro r hr; rw [up_ne (by omega), up_ne (by omega), up_ne (by omega), up_ne (by omega)]
  have e1 : (up (up (up (up A 17 y x) 39 0 0) 40 (680 + 2 * y) v) 40 (680 + 2 * y + 1) b) 40 (680 + 2 * y + 1) = b := up_ii
  have e2 : (up (up (up (up A 17 y x) 39 0 0) 40 (680 + 2 * y) v) 40 (680 + 2 * y + 1) b) 40 (680 + 2 * y) = v := by rw [up_rr (by omega), up_ii]
  have e3 : ∀ z, z ≠ y → (up (up (up (up A 17 y x) 39 0 0) 40 (680 + 2 * y) v) 40 (680 + 2 * y + 1) b) 40 (680 + 2 * z + 1) = A 40 (680 + 2 * z + 1) ∧ (up (up (up (up A 17 y x) 39 0 0) 40 (680 + 2 * y) v) 40 (680 + 2 * y + 1) b) 40 (680 + 2 * z) = A 40 (680 + 2 * z) := by
    intro z hz; constructor <;> rw [up_rr (by omega), up_rr (by omega), up_ne (by omega), up_ne (by omega)]
  have e4 : (up (up (up (up A 17 y x) 39 0 0) 40 (680 + 2 * y) v) 40 (680 + 2 * y + 1) b) 17 = upd (A 17) y x := by rw [up_ne (by omega), up_ne (by omega), up_ne (by omega), up_eq]
  refine Rel_new hR ⟨Iv0_c (e 0 (by omega)) i0, IvF_c (fun i hi => e i (by omega)) i4.2.1 i1, ?_, IvPr_c (by rw [e 0 (by omega)]; exact Int32.lt_irrefl) (fun i h1 h2 => e i (by omega)) i3, IvHs_c (fun i hi => e i (by omega)) i4, IvGs_c (fun i h1 h2 => e i (by omega)) i5, IvLn_c (fun i h1 h2 => e i (by omega)) i6, IvJb_c (fun i h1 h2 => e i (by omega)) i7, IvTb_c (fun i h1 h2 => e i (by omega)) i8, IvRw_c (e _ (by omega)) i9, IvXs_c (fun i h1 h2 => e i (by omega)) i10⟩ ⟨l0.trans (e 0 (by omega)).symm, LkL_c (fun i h1 h2 => e i (by omega)) l1, ?_, LkG_c (fun i hi => e i (by omega)) l3, LkP_c (fun i h1 h2 => e i (by omega)) l4, LkR_c (fun i h1 h2 => e i (by omega)) l5, LkH_A (LkH_c i4.2.1 (fun i hi => e i (by omega)) l6) (fun r hr => hA r hr.1), LkX_A (LkX_c i10.2.1 (fun i h1 h2 => e i (by omega)) l7) (fun r hr => hA r hr.1)⟩ rfl rfl rfl rfl rfl rfl ⟨rfl, rfl⟩ rfl hA
  · intro z hz
    by_cases q : z = y
    · subst q
      rw [e1, e2]
      rcases hv with ⟨h1, h2, h3⟩ | ⟨h1, h2, h3⟩
      · exact Or.inl ⟨h1, h2⟩
      · exact Or.inr ⟨h1, h2⟩
    · rw [(e3 z q).1, (e3 z q).2]; exact i2 z hz
  · obtain ⟨m1, m2, m3⟩ := l2
    refine ⟨m1.trans (e 882 (by omega)).symm, fun z hz => ?_, fun j hj => ?_⟩
    · show (up (up (up (up A 17 y x) 39 0 0) 40 (680 + 2 * y) v) 40 (680 + 2 * y + 1) b) 17 z = _
      rw [e4]
      by_cases q : z = y
      · subst q
        rw [e1, e2, upd_s]
        rcases hv with ⟨h1, h2, h3⟩ | ⟨h1, h2, h3⟩
        · rw [h1, if_pos rfl]; exact h3
        · rw [h1, if_neg (by decide)]; exact h3
      · rw [(e3 z q).1, (e3 z q).2, upd_o q]; exact m2 z hz
    · rw [pn_c (e 882 (by omega))] at hj
      have := i3.2.1
      rw [e _ (by omega), e _ (by omega), e _ (by omega), e _ (by omega)]
      exact m3 j hj
theorem c_setRain {y : Nat} {x : Int32} (hy : y < 101) : ex S (d + 1) 34 [.ref 16, .int (nI y), .int x] (Hh k E A L T) = some (.inl none, Hh k E (up A 17 y x) L T) := by
  simp -implicitDefEqProofs only [x_X4_setRain, g_X4_setRain_0, hv_16_1, sn_17 hy]
theorem p_rain (hR : Rel c k E A T) (x n b : Int32) : PI c S (d + 5) k E A T 35 37 [.int x, .int n, .int b] cdA := by
  by_cases q : wi x 0 100
  · obtain ⟨y, hy, rfl⟩ := wi_n (M := 100) (by decide) q
    by_cases hb : b = 0
    · refine ⟨k, E, up A 17 y 99, T, _, Rel_rain hR (y := y) (by omega) (x := 99) (v := 0) (b := 0) (Or.inr ⟨rfl, rfl, rfl⟩), Or.inl ⟨none, rfl, fun L => ⟨L, ?_⟩, fun L => ⟨L, ?_, rfl⟩, ?_⟩⟩
      · simp -implicitDefEqProofs only [x_X11_rain, g_X11_rain_0, c_in1 q, q_U, if_pos hb, hv_0_1, hv_4_3, hc_16, c_setRain (show y < 101 by omega)]
      · simp -implicitDefEqProofs only [x_X12_rain, g_X12_rain_0, g_X12_rain_35, g_X12_rain_63, hp_39_0, r_in1 q, q_I, i1_0, if_false, if_pos hb, hc_39, r_thr0, i0_0, if_true, hv_39_1, ix_680, nI_p1, sn_40 (show 680 + 2 * y < 35877 by omega), sn_40 (show 680 + 2 * y + 1 < 35877 by omega)]
      · rw [up_ne (by decide), up_ne (by decide), up_ii]
    · by_cases q2 : wi n (-5) 5
      · refine ⟨k, E, up A 17 y n, T, _, Rel_rain hR (y := y) (by omega) (x := n) (v := n) (b := 1) (Or.inl ⟨rfl, rg_wi q2, rfl⟩), Or.inl ⟨none, rfl, fun L => ⟨L, ?_⟩, fun L => ⟨L, ?_, rfl⟩, ?_⟩⟩
        · simp -implicitDefEqProofs only [x_X11_rain, g_X11_rain_0, c_in1 q, c_in1 q2, q_U, if_neg hb, hv_0_1, hv_4_3, hc_16, c_setRain (show y < 101 by omega)]
        · simp -implicitDefEqProofs only [x_X12_rain, g_X12_rain_0, g_X12_rain_35, g_X12_rain_63, hp_39_0, r_in1 q, r_in1 q2, q_I, i1_0, if_false, if_neg hb, hc_39, r_thr0, i0_0, if_true, hv_39_1, ix_680, nI_p1, sn_40 (show 680 + 2 * y < 35877 by omega), sn_40 (show 680 + 2 * y + 1 < 35877 by omega)]
        · rw [up_ne (by decide), up_ne (by decide), up_ii]
      · refine ⟨k, E, A, T, up A 39 0 1, Rel_thr hR 1, Or.inr ⟨1, by decide, fun L => ⟨L, ?_⟩, fun L => ⟨L, none, rfl, ?_, rfl⟩, up_ii⟩⟩
        · simp -implicitDefEqProofs only [x_X11_rain, g_X11_rain_0, c_in1 q, c_in0 q2, q_U, q_Ue, if_neg hb]
        · simp -implicitDefEqProofs only [x_X12_rain, g_X12_rain_0, g_X12_rain_35, hp_39_0, r_in1 q, r_in0 q2, q_I, i1_0, if_false, if_neg hb, hc_39, r_thr1, i0_0, if_true, up_up]
  · refine ⟨k, E, A, T, up A 39 0 1, Rel_thr hR 1, Or.inr ⟨1, by decide, fun L => ⟨L, ?_⟩, fun L => ⟨L, none, rfl, ?_, rfl⟩, up_ii⟩⟩
    · simp -implicitDefEqProofs only [x_X11_rain, g_X11_rain_0, c_in0 q, q_Ue]
    · simp -implicitDefEqProofs only [x_X12_rain, g_X12_rain_0, g_X12_rain_35, hp_39_0, r_in0 q, q_I, i0_0, if_true, hc_39, r_thr1, i1_0, if_false, up_up]
/-- the price of a crop in a year by what was told till a season -/
def knF (W : fW) (cr y s : Int32) : Nat → Int32
  | 0 => 10
  | n + 1 => if W (883 + 4 * n) = cr then (if W (883 + 4 * n + 1) = y then (if s < W (883 + 4 * n + 3) then knF W cr y s n else W (883 + 4 * n + 2)) else knF W cr y s n) else knF W cr y s n
theorem knF_s (W : fW) (cr y s : Int32) (n : Nat) : knF W cr y s (n + 1) = if W (883 + 4 * n) = cr then (if W (883 + 4 * n + 1) = y then (if s < W (883 + 4 * n + 3) then knF W cr y s n else W (883 + 4 * n + 2)) else knF W cr y s n) else knF W cr y s n := rfl
theorem r_known {x1 x2 x3 : Int32} (hp : A 40 882 = nI (pn (A 40)) ∧ pn (A 40) ≤ 200) : ex S (d + 1) 53 [.ref 39, .int x1, .int x2, .int x3] (Hh k E A L T) = some (.inl (some (.int (knF (A 40) x1 x2 x3 (pn (A 40))))), Hh k E A L T) := by
  rw [x_X12_knownOf, g_X12_knownOf_0]
  obtain ⟨h1, h2⟩ := hp
  refine loop_Q (α := Int32) (F := fun m i v => bd S (ex S d) dflT E_X12_knownOf m 9 [some (.ref 39), some (.int x1), some (.int x2), some (.int x3), some (.int v), some (.int (nI (883 + 4 * i)))] [] (Hh k E A L T)) (N := pn (A 40)) (P := fun i v => v = knF (A 40) x1 x2 x3 i) (Q := fun r => r = some (.inl (some (.int (knF (A 40) x1 x2 x3 (pn (A 40))))), Hh k E A L T)) ?_ ?_ (s := 10) rfl (by omega)
  · intro n i v hi hv
    right
    have g0 : ¬ nI (883 + 4 * pn (A 40)) ≤ nI (883 + 4 * i) := nI_ge (by omega) (by omega)
    simp -implicitDefEqProofs only [g_X12_knownOf_9, hv_39_1, aw_40_882, h1, ix_883, if_neg g0, nI_p1, nI_p2, nI_p3, nI_p4, an_40 (show 883 + 4 * i < 35877 by omega), an_40 (show 883 + 4 * i + 1 < 35877 by omega), an_40 (show 883 + 4 * i + 2 < 35877 by omega), an_40 (show 883 + 4 * i + 3 < 35877 by omega)]
    refine ⟨knF (A 40) x1 x2 x3 (i + 1), ?_, rfl⟩
    rw [show 883 + 4 * (i + 1) = 883 + 4 * i + 4 by omega]
    unfold knF
    subst hv
    repeat' split
    all_goals rfl
  · intro n v hv
    subst hv
    simp -implicitDefEqProofs only [g_X12_knownOf_9, hv_39_1, aw_40_882, h1, ix_883]
    rw [if_pos (nI_le (Nat.le_refl _) (by omega))]
theorem c_priceAt {x1 x2 x3 : Int32} (hM : LkM (A 16) (A 17) (A 18) (A 19) (A 20) (A 21) W) (hp : W 882 = nI (pn W) ∧ pn W ≤ 200) : ex S (d + 1) 50 [.ref 16, .int x1, .int x2, .int x3] (Hh k E A L T) = some (.inl (some (.int (knF W x1 x2 x3 (pn W)))), Hh k E A L T) := by
  rw [x_X4_priceAt, g_X4_priceAt_0]
  obtain ⟨h1, h2⟩ := hp
  obtain ⟨m1, m2, m3⟩ := hM
  simp -implicitDefEqProofs only [hg_16_0, m1, h1]
  refine loop_Q (α := Unit) (F := fun m i _ => bd S (ex S d) dflT E_X4_priceAt m 8 [some (.ref 16), some (.int x1), some (.int x2), some (.int x3), some (.int (nI (pn W - i) - 1))] [] (Hh k E A L T)) (N := pn W) (P := fun i _ => knF W x1 x2 x3 (pn W) = knF W x1 x2 x3 (pn W - i)) (Q := fun r => r = some (.inl (some (.int (knF W x1 x2 x3 (pn W)))), Hh k E A L T)) ?_ ?_ (s := ()) rfl (by omega)
  · intro n i _ hi hv
    obtain ⟨j, hj⟩ : ∃ j, pn W - i = j + 1 := ⟨pn W - i - 1, by omega⟩
    have hj2 : pn W - (i + 1) = j := by omega
    obtain ⟨a1, a2, a3, a4⟩ := m3 j (by omega)
    rw [hj] at hv
    have g0 : ¬ nI j < 0 := nI_pos (by omega)
    have g1 : nI j + (-1) = nI j - 1 := (Int32.sub_eq_add_neg _ _).symm
    simp -implicitDefEqProofs only [hj, hj2, nI_pred, g_X4_priceAt_8, if_neg g0, hv_16_2, hv_16_3, hv_16_4, hv_16_5, an_18 (show j < 200 by omega), an_19 (show j < 200 by omega), an_20 (show j < 200 by omega), an_21 (show j < 200 by omega), a1, a2, a3, a4]
    rw [knF_s] at hv
    by_cases c1 : W (883 + 4 * j) = x1
    · by_cases c2 : W (883 + 4 * j + 1) = x2
      · by_cases c3 : x3 < W (883 + 4 * j + 3)
        · right; refine ⟨(), ?_, ?_⟩
          · rw [if_pos c1, if_pos c2, if_pos c3, g1]
          · rw [if_pos c1, if_pos c2, if_pos c3] at hv; exact hv
        · left
          rw [if_pos c1, if_pos c2, if_neg c3] at hv
          rw [if_pos c1, if_pos c2, if_neg c3, hv]
      · right; refine ⟨(), ?_, ?_⟩
        · rw [if_pos c1, if_neg c2, g1]
        · rw [if_pos c1, if_neg c2] at hv; exact hv
    · right; refine ⟨(), ?_, ?_⟩
      · rw [if_neg c1, g1]
      · rw [if_neg c1] at hv; exact hv
  · intro n _ hv
    rw [Nat.sub_self] at hv
    simp -implicitDefEqProofs only [Nat.sub_self, g_X4_priceAt_8]
    rw [if_pos (by decide), hv]
    rfl
theorem p_known (hR : Rel c k E A T) (x1 x2 x3 : Int32) : PI c S (d + 5) k E A T 51 54 [.int x1, .int x2, .int x3] cdA := by
  have hp : A 40 882 = nI (pn (A 40)) ∧ pn (A 40) ≤ 200 := ⟨(Rel_w hR).2.2.2.1.1, (Rel_w hR).2.2.2.1.2.1⟩
  by_cases q : wi x1 1 4
  · by_cases q2 : wi x2 0 100
    · refine ⟨k, E, A, T, up A 39 0 0, Rel_thr hR 0, Or.inl ⟨some (.int (knF (A 40) x1 x2 x3 (pn (A 40)))), rfl, fun L => ⟨L, ?_⟩, fun L => ⟨L, ?_, rfl⟩, up_ii⟩⟩
      · simp -implicitDefEqProofs only [x_X11_known, g_X11_known_0, c_in1 q, c_in1 q2, q_U, hv_0_1, hv_4_3, hc_16, c_priceAt (Rel_m hR) hp, q_I]
      · simp -implicitDefEqProofs only [x_X12_known, g_X12_known_0, hp_39_0, r_in1 q, r_in1 q2, q_I, i1_0, if_false, hc_39, r_thr0, i0_0, if_true, r_known (A := up A 39 0 0) hp]
        rfl
    · refine ⟨k, E, A, T, up A 39 0 1, Rel_thr hR 1, Or.inr ⟨1, by decide, fun L => ⟨L, ?_⟩, fun L => ⟨L, some (.int 0), rfl, ?_, rfl⟩, up_ii⟩⟩
      · simp -implicitDefEqProofs only [x_X11_known, g_X11_known_0, c_in1 q, c_in0 q2, q_U, q_Ue]
      · simp -implicitDefEqProofs only [x_X12_known, g_X12_known_0, hp_39_0, r_in1 q, r_in0 q2, q_I, i0_0, if_true, hc_39, r_thr1, i1_0, if_false, up_up]
  · refine ⟨k, E, A, T, up A 39 0 1, Rel_thr hR 1, Or.inr ⟨1, by decide, fun L => ⟨L, ?_⟩, fun L => ⟨L, some (.int 0), rfl, ?_, rfl⟩, up_ii⟩⟩
    · simp -implicitDefEqProofs only [x_X11_known, g_X11_known_0, c_in0 q, q_Ue]
    · simp -implicitDefEqProofs only [x_X12_known, g_X12_known_0, hp_39_0, r_in0 q, q_I, i0_0, if_true, hc_39, r_thr1, i1_0, if_false, up_up]
end MarketB
