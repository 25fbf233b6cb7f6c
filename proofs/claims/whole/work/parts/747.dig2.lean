/-! winter: the mines in the reference; loans; charges -/
section YearJ
variable {S : sT} {d c : Nat} {k : Value} {E : List dsc} {A : fA} {L : fL} {T : fT} {W : fW}
theorem sub_z {a b : Nat} (ha : a < 2 ^ 31) (hb : b < 2 ^ 31) : (nI a - nI b = 0) ↔ b = a := by
  constructor
  · intro h
    have h2 : nI a = nI b := by
      have := congrArg (· + nI b) h
      simp -implicitDefEqProofs only [Int32.sub_add_cancel, Int32.zero_add] at this
      exact this
    exact ((nI_eq ha hb).mp h2).symm
  · rintro rfl; exact Int32.sub_self _
theorem sub_p {a b : Nat} : nI a - nI b + (-1) = nI a - nI (b + 1) := by
  rw [← nI_p1]
  simp -implicitDefEqProofs only [Int32.sub_eq_add_neg, Int32.neg_add, Int32.add_assoc]
theorem q_h5d {a : Nat} {x y z : Int32} {j : Int64} {κ : rO} : h8f [.int x, .long j, .int y, .int z, .ref a] κ = κ := if_pos (Nat.le_of_ble_eq_true rfl)
theorem r_sink {h t i : Nat} {x2 x3 x4 x5 : Int32} (h31 : h < 2 ^ 31) (ht : t < 2 ^ 30) (g n0 : Nat) (hg : g + 1 + 48 ≤ n0) : ∃ A' g', g ≤ g' ∧ bd S (ex S (d + 7)) dflT E_X12_digs n0 109 [some (.ref 39), some (.int (nI h)), some (.int x2), some (.int x3), some (.int x4), some (.int x5), some (.int (nI t)), some (.int 0)] [] (Hh k E A L T) = bd S (ex S (d + 7)) dflT E_X12_digs g' 84 [some (.ref 39), some (.int (nI h)), some (.int x2), some (.int x3), some (.int x4), some (.int (x5 + 1)), some (.int (nI t - nI (cnH (A 40) h 48))), some (.int (nI 48))] [] (Hh k E A' L T) ∧ A' 40 = snkN (A 40) h t 48 ∧ Fg A A' := by
  obtain ⟨B, g', hg', f1, f2, f3⟩ := loop_RK (K := 1) (α := fA) (F := fun g f B => bd S (ex S (d + 7)) dflT E_X12_digs g 109 [some (.ref 39), some (.int (nI h)), some (.int x2), some (.int x3), some (.int x4), some (.int x5), some (.int (nI t - nI (cnH (A 40) h f))), some (.int (nI f))] [] (Hh k E B L T)) (N := 48) (P := fun f B => B 40 = snkN (A 40) h t f ∧ Fg A B) (s := A) (by
    rintro g f B hf ⟨hB, hFr⟩
    have g0 : ¬ (48 : Int32) ≤ nI f := nI_ge (b := 48) hf (by decide)
    have e10 : B 40 (8 + 14 * f + 10) = A 40 (8 + 14 * f + 10) := by rw [hB]; exact snk_o (by omega) (Or.inr (Or.inr (fun g => by omega)))
    have hc := cnH_le (W := A 40) (h := h) (n := f)
    have es : snkN (A 40) h t (f + 1) = if A 40 (8 + 14 * f + 10) = nI h ∧ cnH (A 40) h f = t then upd (B 40) (8 + 14 * f + 8) (m9 (B 40 (8 + 14 * f + 8) + 1)) else B 40 := by rw [hB]; rfl
    have em : ∀ x : Int32, (if x < 9 then x else 9) = m9 x := fun x => rfl
    rw [es, g_X12_digs_109]
    simp -implicitDefEqProofs only [if_neg g0, hc_39, ro_10 hf, e10, q_I]
    by_cases q : A 40 (8 + 14 * f + 10) = nI h
    · have ec : cnH (A 40) h (f + 1) = cnH (A 40) h f + 1 := by rw [cnH_s, if_pos q]
      rw [if_pos q, ec, sub_p]
      by_cases q2 : cnH (A 40) h f = t
      · rw [if_pos ((sub_z (by omega) (by omega)).mpr q2), if_pos ⟨q, q2⟩]
        simp -implicitDefEqProofs only [hv_39_1, ra_8, q_I, hc_39, ro_8 hf, em, sn_40 (show 8 + 14 * f + 8 < 35877 by omega), nI_p1]
        exact ⟨_, g, Nat.le_refl _, rfl, by rw [up40], Fg_tr hFr Fg_up⟩
      · rw [if_neg (fun z => q2 ((sub_z (by omega) (by omega)).mp z)), if_neg (fun z => q2 z.2), nI_p1]
        exact ⟨B, g, Nat.le_refl _, rfl, rfl, hFr⟩
    · have ec : cnH (A 40) h (f + 1) = cnH (A 40) h f := by rw [cnH_s, if_neg q]; rfl
      rw [if_neg q, ec, if_neg (fun z => q z.1), nI_p1]
      exact ⟨B, g, Nat.le_refl _, rfl, rfl, hFr⟩) ⟨rfl, Fg_refl⟩ (g + 1) n0 (by omega)
  have f1' : bd S (ex S (d + 7)) dflT E_X12_digs n0 109 [some (.ref 39), some (.int (nI h)), some (.int x2), some (.int x3), some (.int x4), some (.int x5), some (.int (nI t - 0)), some (.int 0)] [] (Hh k E A L T) = _ := f1
  rw [Int32.sub_zero] at f1'
  obtain ⟨g2, rfl⟩ : ∃ g2, g' = g2 + 1 := ⟨g' - 1, by omega⟩
  rw [f1', g_X12_digs_109, if_pos (by decide)]
  exact ⟨B, g2, by omega, rfl, f2, f3⟩
theorem r_digs {h : Nat} (hI : Iv c (A 40)) (hh : h < hn (A 40)) (hk : A 40 (1684 + 11 * h + 0) = 4) (hf : ¬ fo (A 40) h = 0) : ∃ A', ex S (d + 8) 250 [.ref 39, .int (nI h)] (Hh k E A L T) = some (.inl none, Hh k E A' L T) ∧ A' 40 = dgF (A 40) h ∧ Fg A A' := by
  have h2 : h < 24 := by have := hI.2.2.2.2.1.2.1; omega
  obtain ⟨n, m, n1, m1, m2, m3, en, em, e69⟩ := tons_c hI hh hk
  obtain ⟨j1, j2⟩ := jDgA hI hh hk
  have fl := fo_lt (A 40) h
  have fm : fo (A 40) h ≤ 48 := cntF_le _ _
  have eb : tnB (A 40) h = n / 100 := by unfold tnB; rw [en, nI_clamp (by omega)]
  have ee : tnB (dgB (A 40) h) h = m / 100 := by unfold tnB; rw [em, nI_clamp (by omega)]
  have eF : dgF (A 40) h = dkN (dgB (A 40) h) h (fo (A 40) h) (n / 100) (m / 100 - n / 100) := by unfold dgF; rw [if_pos ⟨hk, hf⟩, eb, ee]
  have d1 : A 40 (1684 + 11 * h + 6) / 100 = nI (n / 100) := by rw [en, show (100 : Int32) = nI 100 from rfl, pk_div (by omega) (by decide) (by decide)]
  have d2 : nI m / 100 = nI (m / 100) := by rw [show (100 : Int32) = nI 100 from rfl, pk_div (by omega) (by decide) (by decide)]
  have u40 : up A 40 (1684 + 11 * h + 6) (kp ((A 40 (1684 + 11 * h + 6)).toInt64 + (A 40 (1684 + 11 * h + 9)).toInt64)) 40 = adW (A 40) (1684 + 11 * h + 6) (A 40 (1684 + 11 * h + 9)).toInt64 := up40
  obtain ⟨B, b1, b2, b3⟩ := r_comes (S := S) (d := d) (k := k) (E := E) (L := L) (T := T) (A := up A 40 (1684 + 11 * h + 6) (kp ((A 40 (1684 + 11 * h + 6)).toInt64 + (A 40 (1684 + 11 * h + 9)).toInt64))) (th := 3) (x := coM (A 40) h) (c := c) (by rw [u40]; exact j1)
  rw [u40] at b2
  have b10 : B 40 (1684 + 11 * h + 10) = A 40 (1684 + 11 * h + 10) := by rw [b2, com_o (by omega) (by omega), ad_o (by omega)]
  have b5 : B 40 (1684 + 11 * h + 5) = adW (A 40) (1684 + 11 * h + 6) (A 40 (1684 + 11 * h + 9)).toInt64 (1684 + 11 * h + 5) := by rw [b2, com_o (by omega) (by omega)]
  have ec : A 40 (1684 + 11 * h + 9) * A 40 (1684 + 11 * h + 10) = coM (A 40) h := rfl
  have c40 : up B 40 (1684 + 11 * h + 5) (kp ((adW (A 40) (1684 + 11 * h + 6) (A 40 (1684 + 11 * h + 9)).toInt64 (1684 + 11 * h + 5)).toInt64 + (coM (A 40) h).toInt64)) 40 = dgB (A 40) h := by
    rw [up40, b2]
    unfold dgB dgA adW
    rw [com_upd (i := 1684 + 11 * h + 5) (by omega) (by omega) (by omega) (by omega)]
  have e10 : upd (A 40) (1684 + 11 * h + 6) (kp ((A 40 (1684 + 11 * h + 6)).toInt64 + (A 40 (1684 + 11 * h + 9)).toInt64)) (1684 + 11 * h + 10) = A 40 (1684 + 11 * h + 10) := upd_o (by omega)
  rw [x_X12_digs, g_X12_digs_0, eF]
  simp -implicitDefEqProofs only [hc_39, ri_9 h2, ri_6 h2, q_I, dv_100, e69, rs_6 h2, q_U, ri_10 h2, up40, e10, ec, b1, ri_5 h2, b5, q_h5d, b10, rs_5 h2, r_fieldsOf, d1]
  have hFg : Fg A (up B 40 (1684 + 11 * h + 5) (kp ((adW (A 40) (1684 + 11 * h + 6) (A 40 (1684 + 11 * h + 9)).toInt64 (1684 + 11 * h + 5)).toInt64 + (coM (A 40) h).toInt64))) := Fg_tr (Fg_tr Fg_up b3) Fg_up
  have ef : fo (upd (B 40) (1684 + 11 * h + 5) (kp ((adW (A 40) (1684 + 11 * h + 6) (A 40 (1684 + 11 * h + 9)).toInt64 (1684 + 11 * h + 5)).toInt64 + (coM (A 40) h).toInt64))) h = fo (A 40) h := by
    rw [← up40, c40]; exact fo_dg h2
  rw [ef]
  generalize up B 40 (1684 + 11 * h + 5) (kp ((adW (A 40) (1684 + 11 * h + 6) (A 40 (1684 + 11 * h + 9)).toInt64 (1684 + 11 * h + 5)).toInt64 + (coM (A 40) h).toInt64)) = C at *
  refine loop_QK (K := 52) (α := fA × Option Value × Option Value) (F := fun g i s => bd S (ex S (d + 7)) dflT E_X12_digs g 84 [some (.ref 39), some (.int (nI h)), some (.int (A 40 (1684 + 11 * h + 9))), some (.int (nI (n / 100))), some (.int (nI (fo (A 40) h))), some (.int (nI (n / 100 + i))), s.2.1, s.2.2] [] (Hh k E s.1 L T)) (N := m / 100 - n / 100) (P := fun i s => s.1 40 = dkN (dgB (A 40) h) h (fo (A 40) h) (n / 100) i ∧ Fg A s.1) (Q := fun r => ∃ A', r = some (.inl none, Hh k E A' L T) ∧ A' 40 = dkN (dgB (A 40) h) h (fo (A 40) h) (n / 100) (m / 100 - n / 100) ∧ Fg A A') ?_ ?_ (s := (C, none, none)) ⟨c40, hFg⟩ (m := 99999) (by omega)
  · rintro g i ⟨B, o1, o2⟩ hi ⟨hB, hFr⟩
    simp only at hB hFr
    right
    have e6 : B 40 (1684 + 11 * h + 6) = nI m := by rw [hB, dk_o (by omega)]; exact em
    rw [show dkN (dgB (A 40) h) h (fo (A 40) h) (n / 100) (i + 1) = snkN (dkN (dgB (A 40) h) h (fo (A 40) h) (n / 100) i) h ((n / 100 + i) % fo (A 40) h) 48 from rfl, ← hB]
    have hmod : (n / 100 + i) % fo (A 40) h < fo (A 40) h := Nat.mod_lt _ (by omega)
    obtain ⟨A', g', z0, z1, z2, z3⟩ := r_sink (S := S) (d := d) (k := k) (E := E) (A := B) (L := L) (T := T) (h := h) (t := (n / 100 + i) % fo (A 40) h) (i := i) (x2 := A 40 (1684 + 11 * h + 9)) (x3 := nI (n / 100)) (x4 := nI (fo (A 40) h)) (x5 := nI (n / 100 + i)) (by omega) (by omega) g (g + 51) (by omega)
    rw [show g + 52 = (g + 51) + 1 from rfl, g_X12_digs_84]
    simp -implicitDefEqProofs only [hc_39, ri_6 h2, e6, q_I, dv_100, d2, if_neg (show ¬ nI (m / 100) ≤ nI (n / 100 + i) from nI_ge (by omega) (by omega)), dv_ne (show nI (fo (A 40) h) ≠ 0 from fun z => hf ((nI_eq (b := 0) fl (by decide)).mp z)), pk_rem (show n / 100 + i < 2 ^ 31 by omega) (show 0 < fo (A 40) h by omega) fl, z1, nI_p1]
    exact ⟨(A', _, _), g', z0, rfl, z2, Fg_tr hFr z3⟩
  · rintro g ⟨B, o1, o2⟩ ⟨hB, hFr⟩
    simp only at hB hFr
    have e6 : B 40 (1684 + 11 * h + 6) = nI m := by rw [hB, dk_o (by omega)]; exact em
    have ex : n / 100 + (m / 100 - n / 100) = m / 100 := by omega
    rw [show g + 52 = (g + 51) + 1 from rfl, g_X12_digs_84]
    simp -implicitDefEqProofs only [hc_39, ri_6 h2, e6, q_I, dv_100, d2, ex, if_pos (Int32.le_refl (nI (m / 100)))]
    exact ⟨B, rfl, hB, hFr⟩
/-- loans: interest and part -/
def inJ (W : fW) (l : Nat) : Int64 := ((W (1949 + 4 * l)).toInt64 * (W (1949 + 4 * l + 1)).toInt64 + 9999) / 10000
def paL (W : fW) (l : Nat) : Int32 := if W (1949 + 4 * l + 2) < W (1949 + 4 * l) then W (1949 + 4 * l + 2) else W (1949 + 4 * l)
def lnF (W : fW) (l : Nat) : fW := upd (adW W 1 (-inJ W l - (paL W l).toInt64)) (1949 + 4 * l) (W (1949 + 4 * l) - paL W l)
theorem in_c {l : Nat} (hL : IvLn W) (hl : l < 12) : (inJ W l).toInt32.toInt64 = inJ W l := by
  obtain ⟨⟨a1, a2⟩, ⟨b1, b2⟩, -⟩ := hL.2.2 l hl
  have m1 : 0 ≤ (W (1949 + 4 * l)).toInt * (W (1949 + 4 * l + 1)).toInt := Int.mul_nonneg a1 b1
  have m2 : (W (1949 + 4 * l)).toInt * (W (1949 + 4 * l + 1)).toInt ≤ 100000 * 2000 := Int.mul_le_mul a2 b2 b1 (by decide)
  have m4 : ((W (1949 + 4 * l)).toInt64 * (W (1949 + 4 * l + 1)).toInt64).toInt = (W (1949 + 4 * l)).toInt * (W (1949 + 4 * l + 1)).toInt := by
    rw [m64 (by rw [w64, w64]; omega) (by rw [w64, w64]; omega), w64, w64]
  have m5 : ((W (1949 + 4 * l)).toInt64 * (W (1949 + 4 * l + 1)).toInt64 + 9999).toInt = (W (1949 + 4 * l)).toInt * (W (1949 + 4 * l + 1)).toInt + 9999 := by
    have e : (9999 : Int64).toInt = 9999 := rfl
    rw [a64 (by omega) (by omega), m4, e]
  have d1 : (inJ W l).toInt = ((W (1949 + 4 * l)).toInt * (W (1949 + 4 * l + 1)).toInt + 9999) / 10000 := by
    unfold inJ
    rw [Int64.toInt_div, m5, show (10000 : Int64).toInt = 10000 from rfl, Int.tdiv_eq_ediv_of_nonneg (by omega)]
    unfold Int.bmod; simp -implicitDefEqProofs only [Nat.reducePow]; split <;> omega
  exact r64 (by rw [d1]; exact ⟨by omega, by omega⟩)
theorem pa_c {l : Nat} (hL : IvLn W) (hl : l < 12) : rg (W (1949 + 4 * l) - paL W l) 0 100000 := by
  obtain ⟨h1, -, h3⟩ := hL.2.2 l hl
  obtain ⟨a, ha, ha2, ea⟩ := rg_of (b := 100000) h1
  obtain ⟨b, hb, hb2, eb⟩ := rg_of (b := 100000) h3
  unfold paL
  rw [ea, eb]
  by_cases q : b < a
  · rw [if_pos (nI_lt q (by omega)), sub_n (by omega) (by omega)]; exact rg_nI (by omega) (by omega)
  · rw [if_neg (by rw [nI_ltI (by omega) (by omega)]; exact q), Int32.sub_self]; unfold rg; decide
theorem jLn {l : Nat} (hI : Iv c W) (hl : l < 12) : Iv c (lnF W l) := by
  have j1 : Iv c (adW W 1 (-inJ W l - (paL W l).toInt64)) := jG_1 hI (kp_rg _)
  have hx := pa_c hI.2.2.2.2.2.2.1 hl
  have e : ∀ i, i ≠ 1949 + 4 * l → lnF W l i = adW W 1 (-inJ W l - (paL W l).toInt64) i := fun i hi => upd_o hi
  obtain ⟨i0, i1, i2, i3, i4, i5, i6, i7, i8, i9, i10⟩ := j1
  refine ⟨Iv0_c (e 0 (by omega)) i0, IvF_c (fun i hi => e i (by omega)) i4.2.1 i1, IvRn_c (fun i h1 h2 => e i (by omega)) i2, IvPr_c (by rw [e 0 (by omega)]; exact Int32.lt_irrefl) (fun i h1 h2 => e i (by omega)) i3, IvHs_c (fun i hi => e i (by omega)) i4, IvG_0 (fun i h1 h2 => e i (by omega)) i5, ?_, IvJb_c (fun i h1 h2 => e i (by omega)) i7, IvTb_c (fun i h1 h2 => e i (by omega)) i8, IvRw_c (e _ (by omega)) i9, IvXs_c (fun i h1 h2 => e i (by omega)) i10⟩
  obtain ⟨q1, q2, q3⟩ := i6
  have en : ln (lnF W l) = ln (adW W 1 (-inJ W l - (paL W l).toInt64)) := ln_c (e 1948 (by omega))
  refine ⟨by rw [en, e 1948 (by omega)]; exact q1, by rw [en]; exact q2, fun j hj => ?_⟩
  obtain ⟨w1, w2, w3⟩ := q3 j hj
  refine ⟨?_, by rw [e _ (by omega)]; exact w2, by rw [e _ (by omega)]; exact w3⟩
  by_cases q : j = l
  · subst q
    rw [show lnF W j (1949 + 4 * j) = _ from upd_s _ _ _]; exact hx
  · rw [e _ (by omega)]; exact w1
theorem ln_n {l : Nat} (hl : l < 12) : ln (lnF W l) = ln W := ln_c ((upd_o (by omega)).trans (ad_o (by omega)))
theorem ln_hn {l : Nat} (hl : l < 12) : hn (lnF W l) = hn W := hn_c ((upd_o (by omega)).trans (ad_o (by omega)))
theorem kLn {l : Nat} (hI : Iv c W) (hl : l < 12) (h0 : LkA 4 k E A T W) : LkA 4 k E (up (up A 22 0 (kp ((W 1).toInt64 + (-inJ W l - (paL W l).toInt64)))) 26 l (W (1949 + 4 * l) - paL W l)) T (lnF W l) := by
  have j1 : Iv c (adW W 1 (-inJ W l - (paL W l).toInt64)) := jG_1 hI (kp_rg _)
  have k1 : LkA 4 k E (up A 22 0 (kp ((W 1).toInt64 + (-inJ W l - (paL W l).toInt64)))) T (adW W 1 (-inJ W l - (paL W l).toInt64)) := kG_0 hI h0
  have e : ∀ i, i ≠ 1949 + 4 * l → lnF W l i = adW W 1 (-inJ W l - (paL W l).toInt64) i := fun i hi => upd_o hi
  have es : lnF W l (1949 + 4 * l) = W (1949 + 4 * l) - paL W l := upd_s _ _ _
  generalize up A 22 0 (kp ((W 1).toInt64 + (-inJ W l - (paL W l).toInt64))) = B at *
  generalize adW W 1 (-inJ W l - (paL W l).toInt64) = V at *
  generalize W (1949 + 4 * l) - paL W l = x at *
  obtain ⟨i0, i1, i2, i3, i4, i5, i6, i7, i8, i9, i10⟩ := j1
  obtain ⟨l0, l1, l2, l3, l4, l5, l6, l7⟩ := k1
  have hA : ∀ r, 49 ≤ r → up B 26 l x r = B r := fun r hr => up_ne (by omega)
  refine ⟨l0.trans (e 0 (by omega)).symm, LkL_c (fun i h1 h2 => e i (by omega)) l1, LkM_c i3.2.1 (fun i h1 h2 => e i (by omega)) l2, ?_, LkP_c (fun i h1 h2 => e i (by omega)) l4, LkR_c (fun i h1 h2 => e i (by omega)) l5, LkH_A (LkH_c i4.2.1 (fun i hi => e i (by omega)) l6) (fun r hr => hA r hr.1), LkX_A (LkX_c i10.2.1 (fun i h1 h2 => e i (by omega)) l7) (fun r hr => hA r hr.1)⟩
  obtain ⟨g1, g2, g3⟩ := l3
  refine ⟨?_, fun i hi => ?_, fun j hj => ?_⟩
  · rw [e 1 (by omega), e 2 (by omega), e 3 (by omega), e 4 (by omega), e 7 (by omega), e 5 (by omega), e 6 (by omega), e 1948 (by omega)]
    exact g1
  · rw [e _ (by omega)]; exact g2 i hi
  · obtain ⟨w1, w2, w3⟩ := g3 j hj
    refine ⟨?_, by rw [e _ (by omega)]; exact w2, by rw [e _ (by omega)]; exact w3⟩
    by_cases q : j = l
    · subst q
      show up B 26 j x 26 j = _
      rw [up_ii, es]
    · show up B 26 l x 26 j = _
      rw [up_rr q, e _ (by omega)]; exact w1
end YearJ
