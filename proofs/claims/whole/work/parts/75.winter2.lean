/-! winter: loans are paid, charges, leases end -/
section YearK
variable {S : sT} {d c : Nat} {k : Value} {E : List dsc} {A : fA} {L : fL} {T : fT} {W : fW}
theorem c_payL (hT : Tj c k E T A W) : ∃ A', ex S (d + 3) 216 [.ref 22] (Hh k E A L T) = some (.inl none, Hh k E A' L T) ∧ Tj c k E T A' (itW lnF (ln W) W) ∧ Fr A A' := by
  have h12 := hT.1.2.2.2.2.2.2.1.2.1
  rw [x_X3_payLoans, g_X3_payLoans_0]
  refine loop_Q (α := fA × Option Value × Option Value × Option Value) (F := fun g i s => bd S (ex S (d + 2)) dflT E_X3_payLoans g 2 [some (.ref 22), some (.int (nI i)), s.2.1, s.2.2.1, s.2.2.2] [] (Hh k E s.1 L T)) (N := ln W) (P := fun i s => Tj c k E T s.1 (itW lnF i W) ∧ Fr A s.1 ∧ ln (itW lnF i W) = ln W ∧ s.2.2.1 = none) (Q := fun r => ∃ A', r = some (.inl none, Hh k E A' L T) ∧ Tj c k E T A' (itW lnF (ln W) W) ∧ Fr A A') ?_ ?_ (s := (A, none, none, none)) ⟨hT, Fr_refl, rfl, rfl⟩ (by omega)
  · rintro g l ⟨B, o2, o3, o4⟩ hl ⟨hB, hFr, hN, hz⟩
    simp only at hB hFr hz
    subst hz
    right
    rw [show itW lnF (l + 1) W = lnF (itW lnF l W) l from rfl]
    generalize itW lnF l W = V at *
    obtain ⟨hI, h0, -⟩ := id hB
    have hl2 : l < 12 := by omega
    obtain ⟨⟨m0, -, -, -, -, -, -, m8⟩, -, m3⟩ : LkG (B 22) (B 23) (B 24) (B 25) (B 26) V := h0.2.2.2.1
    obtain ⟨w1, w2, w3⟩ := m3 l hl2
    have m8' : B 22 8 = nI (ln W) := by rw [← hN]; exact m8.trans hI.2.2.2.2.2.2.1.1
    have g0 : ¬ nI (ln W) ≤ nI l := nI_ge hl (by omega)
    have em : (if V (1949 + 4 * l) < V (1949 + 4 * l + 2) then V (1949 + 4 * l) else V (1949 + 4 * l + 2)) = paL V l := min_c _ _
    have ei : ((V (1949 + 4 * l)).toInt64 * (V (1949 + 4 * l + 1)).toInt64 + 9999) / 10000 = inJ V l := rfl
    have w1' : up B 22 0 (kp ((V 1).toInt64 + (-inJ V l - (paL V l).toInt64))) 26 l = V (1949 + 4 * l) := by rw [up_ne (by decide)]; exact w1
    rw [g_X3_payLoans_2]
    simp -implicitDefEqProofs only [hg_22_8, m8', if_neg g0, hv_22_11, hv_22_9, hv_22_10, an_26 hl2, an_24 hl2, an_25 hl2, w1, w2, w3, dvJ_10000, ei, em, hc_22]
    rw [c_addI (W := V) m0]
    simp -implicitDefEqProofs only [q_U, hv_22_11, q_nr, an_26 hl2, w1', sn_26 hl2, nI_p1]
    try rw [q_nr]
    have hf : Fr B (up (up B 22 0 (kp ((V 1).toInt64 + (-inJ V l - (paL V l).toInt64)))) 26 l (V (1949 + 4 * l) - paL V l)) := Fr_tr (Fr_up (by decide) (by decide)) (Fr_up (by decide) (by decide))
    exact ⟨(_, _, none, _), rfl, Tj_up hB (jLn hI hl2) (kLn hI hl2 h0) hf, Fr_tr hFr hf, (ln_n hl2).trans hN, rfl⟩
  · rintro g ⟨B, o2, o3, o4⟩ ⟨hB, hFr, hN, hz⟩
    simp only at hB hFr hz
    subst hz
    have m8' : B 22 8 = nI (ln W) := by rw [← hN]; exact hB.2.1.2.2.2.1.1.2.2.2.2.2.2.2.trans hB.1.2.2.2.2.2.2.1.1
    rw [g_X3_payLoans_2]
    simp -implicitDefEqProofs only [hg_22_8, m8', if_pos (Int32.le_refl (nI (ln W)))]
    exact ⟨B, rfl, hB, hFr⟩
theorem r_loan1 {l : Nat} (hI : Iv c (A 40)) (hl : l < 12) : ∃ A', ex S (d + 3) 251 [.ref 39, .int (nI (1949 + 4 * l))] (Hh k E A L T) = some (.inl none, Hh k E A' L T) ∧ A' 40 = lnF (A 40) l ∧ Fg A A' := by
  have a2 : nI (1949 + 4 * l) + 2 = nI (1949 + 4 * l + 2) := by rw [show (2 : Int32) = nI 2 from rfl, nI_add]
  have ei : ((A 40 (1949 + 4 * l)).toInt64 * (A 40 (1949 + 4 * l + 1)).toInt64 + 9999) / 10000 = inJ (A 40) l := rfl
  have em : (if A 40 (1949 + 4 * l + 2) < A 40 (1949 + 4 * l) then A 40 (1949 + 4 * l + 2) else A 40 (1949 + 4 * l)) = paL (A 40) l := rfl
  have e9 : upd (A 40) 1 (kp ((A 40 1).toInt64 + (-inJ (A 40) l - (paL (A 40) l).toInt64))) (1949 + 4 * l) = A 40 (1949 + 4 * l) := upd_o (by omega)
  rw [x_X12_paysLoan, g_X12_paysLoan_0]
  simp -implicitDefEqProofs only [hv_39_1, nI_p1, a2, an_40 (show 1949 + 4 * l < 35877 by omega), an_40 (show 1949 + 4 * l + 1 < 35877 by omega), an_40 (show 1949 + 4 * l + 2 < 35877 by omega), dvJ_10000, ei, in_c hI.2.2.2.2.2.2.1 hl, em, hc_39, r_inc, q_U, q_nr, up40, e9, sn_40 (show 1949 + 4 * l < 35877 by omega)]
  try rw [q_nr]
  exact ⟨_, rfl, by rw [up40, up40]; rfl, Fg_tr Fg_up Fg_up⟩
/-- charges -/
def pcF (W : fW) : fW := adW (adW W 1 (-chW W).toInt64) 4 (chW W).toInt64
theorem jPc (hI : Iv c W) : Iv c (pcF W) := jG_4 (jG_1 hI (kp_rg _)) (kp_rg _)
theorem c_payC (hT : Tj c k E T A W) : ∃ A', ex S (d + 3) 221 [.ref 22, .int (chW W)] (Hh k E A L T) = some (.inl none, Hh k E A' L T) ∧ Tj c k E T A' (pcF W) ∧ Fr A A' := by
  obtain ⟨hI, h0, -⟩ := id hT
  obtain ⟨⟨m0, -, -, m3, -⟩, -, -⟩ : LkG (A 22) (A 23) (A 24) (A 25) (A 26) W := h0.2.2.2.1
  have j1 : Iv c (adW W 1 (-chW W).toInt64) := jG_1 hI (kp_rg _)
  have k1 : LkA 4 k E (up A 22 0 (kp ((W 1).toInt64 + (-chW W).toInt64))) T (adW W 1 (-chW W).toInt64) := kG_0 hI h0
  have m3' : up A 22 0 (kp ((W 1).toInt64 + (-chW W).toInt64)) 22 3 = adW W 1 (-chW W).toInt64 4 := k1.2.2.2.1.1.2.2.2.1
  have k2 := kG_3 (x := kp ((adW W 1 (-chW W).toInt64 4).toInt64 + (chW W).toInt64)) j1 k1
  have hf : Fr A (up (up A 22 0 (kp ((W 1).toInt64 + (-chW W).toInt64))) 22 3 (kp ((adW W 1 (-chW W).toInt64 4).toInt64 + (chW W).toInt64))) := Fr_tr (Fr_up (by decide) (by decide)) (Fr_up (by decide) (by decide))
  refine ⟨_, ?_, Tj_up hT (jPc hI) k2 hf, hf⟩
  rw [x_X3_payCharges, g_X3_payCharges_0]
  simp -implicitDefEqProofs only [hc_22]
  rw [c_addI (W := W) m0]
  simp -implicitDefEqProofs only [q_U, hg_22_3, m3', c_capped, q_Ix, hp_22_3]
/-- what an outgoer is paid -/
def gpJ (W : fW) (h : Nat) : Int64 := if (oeW W h).toInt64 - (W (1684 + 11 * h + 2)).toInt64 - (W (1684 + 11 * h + 3)).toInt64 < 0 then 0 else (oeW W h).toInt64 - (W (1684 + 11 * h + 2)).toInt64 - (W (1684 + 11 * h + 3)).toInt64
def gpW (W : fW) (h : Nat) : Int32 := kp (gpJ W h)
def ouA (W : fW) (h : Nat) : fW := upd (upd (upd (adW W 1 (-gpW W h).toInt64) (1684 + 11 * h + 7) (gpW W h)) (1684 + 11 * h + 2) 0) (1684 + 11 * h + 3) 0
def ouF (W : fW) (h : Nat) : fW := lvN (ouA W h) h 48
theorem oe_rg (W : fW) (h : Nat) : rg (oeW W h) 0 2000000000 := by
  unfold oeW rg
  rw [kp_toInt]
  split
  · rw [show (0 : Int64).toInt = 0 from rfl]; omega
  · rename_i q
    rw [Int64.lt_iff_toInt_lt, show (0 : Int64).toInt = 0 from rfl] at q
    omega
theorem gp_c {h : Nat} (hI : Iv c W) (hh : h < hn W) : (gpJ W h).toInt32 = gpW W h ∧ kp (gpW W h).toInt64 = gpW W h := by
  obtain ⟨-, -, ⟨a1, a2⟩, ⟨p1, p2⟩, -⟩ := hI.2.2.2.2.1.2.2 h hh
  obtain ⟨o1, o2⟩ := oe_rg W h
  have e1 : ((oeW W h).toInt64 - (W (1684 + 11 * h + 2)).toInt64).toInt = (oeW W h).toInt - (W (1684 + 11 * h + 2)).toInt := by rw [s64 (by rw [w64, w64]; omega) (by rw [w64, w64]; omega), w64, w64]
  have e2 : ((oeW W h).toInt64 - (W (1684 + 11 * h + 2)).toInt64 - (W (1684 + 11 * h + 3)).toInt64).toInt = (oeW W h).toInt - (W (1684 + 11 * h + 2)).toInt - (W (1684 + 11 * h + 3)).toInt := by rw [s64 (by rw [e1, w64]; omega) (by rw [e1, w64]; omega), e1, w64]
  have hb : 0 ≤ (gpJ W h).toInt ∧ (gpJ W h).toInt ≤ 2000000000 := by
    unfold gpJ
    split
    · rw [show (0 : Int64).toInt = 0 from rfl]; omega
    · rename_i q
      rw [Int64.lt_iff_toInt_lt, e2, show (0 : Int64).toInt = 0 from rfl] at q
      rw [e2]; omega
  refine ⟨(kp_32 (by omega) (by omega)).symm, ?_⟩
  exact kp_id (kp_rg _)
theorem ou_hn {h : Nat} (hh : h < 24) : hn (ouA W h) = hn W := by unfold ouA; rw [hn_u (by omega), hn_u (by omega), hn_u (by omega), hn_a (by omega)]
theorem ou_o {h i : Nat} (h1 : i ≠ 1) (h7 : i ≠ 1684 + 11 * h + 7) (h2 : i ≠ 1684 + 11 * h + 2) (h3 : i ≠ 1684 + 11 * h + 3) : ouA W h i = W i := by unfold ouA; rw [upd_o h3, upd_o h2, upd_o h7, ad_o h1]
theorem jOuA {h : Nat} (hI : Iv c W) (hh : h < hn W) : Iv c (adW W 1 (-gpW W h).toInt64) ∧ Iv c (upd (adW W 1 (-gpW W h).toInt64) (1684 + 11 * h + 7) (gpW W h)) ∧ Iv c (upd (upd (adW W 1 (-gpW W h).toInt64) (1684 + 11 * h + 7) (gpW W h)) (1684 + 11 * h + 2) 0) ∧ Iv c (ouA W h) := by
  have h24 := hI.2.2.2.2.1.2.1
  have r0 : rg (0 : Int32) 0 2000000000 := by unfold rg; decide
  have j1 : Iv c (adW W 1 (-gpW W h).toInt64) := jG_1 hI (kp_rg _)
  have j2 := jH_7 (h := h) (x := gpW W h) j1 (by rw [hn_a (by omega)]; exact hh) trivial
  have j3 := jH_2 (h := h) (x := 0) j2 (by rw [hn_u (by omega), hn_a (by omega)]; exact hh) r0
  exact ⟨j1, j2, j3, jH_3 j3 (by rw [hn_u (by omega), hn_u (by omega), hn_a (by omega)]; exact hh) r0⟩
theorem jOu {h : Nat} (hI : Iv c W) (hh : h < hn W) (hk : W (1684 + 11 * h + 0) = 1 → W (1684 + 11 * h + 8) = 1) : Iv c (ouF W h) := by
  have h24 : h < 24 := by have := hI.2.2.2.2.1.2.1; omega
  refine jLv (jOuA hI hh).2.2.2 (by rw [ou_hn h24]; exact hh) ?_
  rw [ou_o (by omega) (by omega) (by omega) (by omega), ou_o (by omega) (by omega) (by omega) (by omega)]
  exact hk
theorem c_goOut {h : Nat} (hT : Tj c k E T A W) (hh : h < hn W) (hk : W (1684 + 11 * h + 0) = 0 ∨ W (1684 + 11 * h + 0) = 1) (hn1 : W (1684 + 11 * h + 0) = 1 → W (1684 + 11 * h + 8) = 1) : ∃ A' L', ex S (d + 5) 226 [.ref 38, .int (nI h)] (Hh k E A L T) = some (.inl none, Hh k E A' L' T) ∧ Tj c k E T A' (ouF W h) ∧ Fr A A' := by
  obtain ⟨hI, h0, h36⟩ := id hT
  have h2 := Tj_24 hT hh
  have hC := Tj_C hT hh
  obtain ⟨L1, e1, -⟩ := c_owedTo (S := S) (d := d) (L := L) hI h0 h36 hh hk
  have t1 : LkA 4 k E (upR A 36 (prR W (A 36) (pn W))) T W := Lk_36 h0
  have f1 : Fr A (upR A 36 (prR W (A 36) (pn W))) := Fr_36
  generalize upR A 36 (prR W (A 36) (pn W)) = B at *
  obtain ⟨j1, j2, j3, j4⟩ := jOuA hI hh
  have m0 : B 22 0 = W 1 := t1.2.2.2.1.1.1
  have k1 : LkA 4 k E (up B 22 0 (kp ((W 1).toInt64 + (-gpW W h).toInt64))) T (adW W 1 (-gpW W h).toInt64) := kG_0 hI t1
  have k2 := kH_9 (h := h) (x := gpW W h) j1 (by rw [hn_a (by omega)]; exact hh) k1
  have k3 := kH_3 (h := h) (x := 0) j2 (by rw [hn_u (by omega), hn_a (by omega)]; exact hh) k2
  have k4 := kH_4 (h := h) (x := 0) j3 (by rw [hn_u (by omega), hn_u (by omega), hn_a (by omega)]; exact hh) k3
  obtain ⟨A', z1, z2, z3⟩ := c_close (S := S) (d := d) (L := L1) (h := h) j4 k4 (by rw [ou_hn h2]; exact hh)
  have fr : Fr A A' := Fr_tr f1 (Fr_tr (Fr_tr (Fr_tr (Fr_up (by decide) (by decide)) (Fr_up (by decide) (by decide))) (Fr_tr (Fr_up (by decide) (by decide)) (Fr_up (by decide) (by decide)))) z3)
  refine ⟨A', L1, ?_, Tj_up hT (jOu hI hh hn1) z2 fr, fr⟩
  have es : (oeW W h).toInt64 - ((W (1684 + 11 * h + 2)).toInt64 + (W (1684 + 11 * h + 3)).toInt64) = (oeW W h).toInt64 - (W (1684 + 11 * h + 2)).toInt64 - (W (1684 + 11 * h + 3)).toInt64 := by
    simp -implicitDefEqProofs only [Int64.sub_eq_add_neg, Int64.neg_add, Int64.add_assoc]
  have ep : (if (oeW W h).toInt64 - (W (1684 + 11 * h + 2)).toInt64 - (W (1684 + 11 * h + 3)).toInt64 < 0 then 0 else (oeW W h).toInt64 - (W (1684 + 11 * h + 2)).toInt64 - (W (1684 + 11 * h + 3)).toInt64).toInt32 = gpW W h := (gp_c hI hh).1
  rw [x_X10_goOut, g_X10_goOut_0]
  simp -implicitDefEqProofs only [hv_38_2, hc_11, gH_3 hC h2, gH_4 hC h2, q_I, hv_38_0, hc_4, e1, hv_38_3, hc_22, es, ep]
  rw [c_addI (W := W) m0]
  simp -implicitDefEqProofs only [q_U, hv_38_2, hc_11, ts_9 h2, ts_3 h2, ts_4 h2, hv_38_0, hc_4, z1]
theorem r_goesOut {h : Nat} (hI : Iv c (A 40)) (hh : h < hn (A 40)) (hk : A 40 (1684 + 11 * h + 0) = 0 ∨ A 40 (1684 + 11 * h + 0) = 1) : ∃ A' L', ex S (d + 5) 254 [.ref 39, .int (nI h)] (Hh k E A L T) = some (.inl none, Hh k E A' L' T) ∧ A' 40 = ouF (A 40) h ∧ Fg A A' ∧ ∀ r, r ≠ 44 → r ≠ 45 → L' r = L r := by
  have h2 : h < 24 := by have := hI.2.2.2.2.1.2.1; omega
  obtain ⟨L1, e1, e2⟩ := r_owedTo (S := S) (d := d) (k := k) (E := E) (A := A) (L := L) (T := T) hI hh hk
  have ej : (if (oeW (A 40) h).toInt64 - (A 40 (1684 + 11 * h + 2)).toInt64 - (A 40 (1684 + 11 * h + 3)).toInt64 < 0 then 0 else (oeW (A 40) h).toInt64 - (A 40 (1684 + 11 * h + 2)).toInt64 - (A 40 (1684 + 11 * h + 3)).toInt64) = gpJ (A 40) h := rfl
  have ek : kp (gpJ (A 40) h) = gpW (A 40) h := rfl
  rw [x_X12_goesOut, g_X12_goesOut_0]
  simp -implicitDefEqProofs only [hc_39, e1, q_I, ri_2 h2, ri_3 h2, ej, r_kept, ek, r_inc, q_U, rs_7 h2, (gp_c hI hh).2, rs_2 h2, rs_3 h2, show kp 0 = 0 by decide, r_leaves]
  refine ⟨_, L1, rfl, ?_, Fg_tr (Fg_tr (Fg_tr Fg_up Fg_up) (Fg_tr Fg_up Fg_up)) Fg_upR, e2⟩
  rw [upR40, up40, up40, up40, up40]; rfl
/-- a lease is at its end -/
abbrev enW (W : fW) (h : Nat) : Prop := ¬ fo W h = 0 ∧ (W (1684 + 11 * h + 0) = 0 ∧ W (1684 + 11 * h + 4) ≤ W 0 ∨ W (1684 + 11 * h + 0) = 1 ∧ W (1684 + 11 * h + 8) = 1)
theorem c_atEnd {h : Nat} (hT : Tj c k E T A W) (hh : h < hn W) : (enW W h ∧ ex S (d + 4) 222 [.ref 38, .int (nI h)] (Hh k E A L T) = some (.inl (some (.int 1)), Hh k E A L T)) ∨ (¬ enW W h ∧ ex S (d + 4) 222 [.ref 38, .int (nI h)] (Hh k E A L T) = some (.inl (some (.int 0)), Hh k E A L T)) := by
  obtain ⟨hI, h0, -⟩ := id hT
  have h2 := Tj_24 hT hh
  have hC := Tj_C hT hh
  have s7 : A 4 7 = W 0 := h0.1
  have h8 := (hI.2.2.2.2.1.2.2 h hh).2.2.2.2.2.2.1
  rw [x_X10_isAtItsEnd, g_X10_isAtItsEnd_0]
  simp -implicitDefEqProofs only [hv_38_2, hc_11, c_isOver hC h2, q_I]
  by_cases q0 : fo W h = 0
  · right
    rw [show overW W h = 1 from if_pos q0, if_neg (by decide), q_z0]
    exact ⟨fun z => z.1 q0, rfl⟩
  · rw [show overW W h = 0 from if_neg q0, if_pos rfl]
    simp -implicitDefEqProofs only [hv_38_2, hc_11, gH_0 hC h2, q_I]
    by_cases k0 : W (1684 + 11 * h + 0) = 0
    · rw [if_pos k0]
      simp -implicitDefEqProofs only [hv_38_2, hc_11, gH_5 hC h2, q_I, hv_38_0, hg_4_7, s7]
      by_cases ql : W (1684 + 11 * h + 4) ≤ W 0
      · left
        rw [if_pos ql, q_z1]
        exact ⟨⟨q0, Or.inl ⟨k0, ql⟩⟩, rfl⟩
      · right
        rw [if_neg ql, g_X10_isAtItsEnd_46, if_neg (show ¬ W (1684 + 11 * h + 0) = 1 by rw [k0]; decide), q_z0]
        refine ⟨fun z => ?_, rfl⟩
        rcases z.2 with z | z
        · exact ql z.2
        · rw [k0] at z; exact absurd z.1 (by decide)
    · rw [if_neg k0, g_X10_isAtItsEnd_46]
      by_cases k1 : W (1684 + 11 * h + 0) = 1
      · rw [if_pos k1]
        simp -implicitDefEqProofs only [hv_38_2, hc_11, gH_10 hC h2, q_I]
        rcases h8 with h8 | h8
        · right
          rw [h8, if_pos rfl, q_z0]
          refine ⟨fun z => ?_, rfl⟩
          rcases z.2 with z | z
          · exact k0 z.1
          · rw [h8] at z; exact absurd z.2 (by decide)
        · left
          rw [h8, if_neg (by decide), q_z1]
          exact ⟨⟨q0, Or.inr ⟨k1, h8⟩⟩, rfl⟩
      · right
        rw [if_neg k1, q_z0]
        refine ⟨fun z => ?_, rfl⟩
        rcases z.2 with z | z
        · exact k0 z.1
        · exact k1 z.1
theorem en_k {h : Nat} (h1 : enW W h) : (W (1684 + 11 * h + 0) = 0 ∨ W (1684 + 11 * h + 0) = 1) ∧ (W (1684 + 11 * h + 0) = 1 → W (1684 + 11 * h + 8) = 1) := by
  rcases h1.2 with z | z
  · exact ⟨Or.inl z.1, fun q => by rw [z.1] at q; exact absurd q (by decide)⟩
  · exact ⟨Or.inr z.1, fun _ => z.2⟩
def elF (W : fW) (h : Nat) : fW := if enW W h then ouF W h else W
theorem el_hn {h : Nat} (hh : h < 24) : hn (elF W h) = hn W := by
  unfold elF
  split
  · unfold ouF; rw [hn_c (lvN_hi (Nat.le_refl _) (by omega)), ou_hn hh]
  · rfl
theorem jEl {h : Nat} (hI : Iv c W) (hh : h < hn W) : Iv c (elF W h) := by
  unfold elF
  split
  · rename_i q
    exact jOu hI hh (en_k q).2
  · exact hI
theorem c_endL (hT : Tj c k E T A W) : ∃ A' L', ex S (d + 6) 227 [.ref 38] (Hh k E A L T) = some (.inl none, Hh k E A' L' T) ∧ Tj c k E T A' (itW elF (hn W) W) ∧ Fr A A' := by
  have h24 := hT.1.2.2.2.2.1.2.1
  rw [x_X10_endLeases, g_X10_endLeases_0]
  refine loop_Q (α := fA × fL) (F := fun g i s => bd S (ex S (d + 5)) dflT E_X10_endLeases g 2 [some (.ref 38), some (.int (nI i))] [] (Hh k E s.1 s.2 T)) (N := hn W) (P := fun i s => Tj c k E T s.1 (itW elF i W) ∧ Fr A s.1 ∧ hn (itW elF i W) = hn W) (Q := fun r => ∃ A' L', r = some (.inl none, Hh k E A' L' T) ∧ Tj c k E T A' (itW elF (hn W) W) ∧ Fr A A') ?_ ?_ (s := (A, L)) ⟨hT, Fr_refl, rfl⟩ (by omega)
  · rintro g h ⟨B, M⟩ hh ⟨hB, hFr, hN⟩
    simp only at hB hFr
    right
    rw [show itW elF (h + 1) W = elF (itW elF h W) h from rfl]
    generalize itW elF h W = V at *
    have hhV : h < hn V := by rw [hN]; exact hh
    have h2 := Tj_24 hB hhV
    have l1 : B 11 0 = nI (hn W) := by rw [← hN]; exact hB.2.1.2.2.2.2.2.2.1.1.trans hB.1.2.2.2.2.1.1
    have g0 : ¬ nI (hn W) ≤ nI h := nI_ge hh (by omega)
    have hN' := (el_hn (W := V) h2).trans hN
    rw [g_X10_endLeases_2]
    simp -implicitDefEqProofs only [hv_38_2, hg_11_0, l1, if_neg g0, hc_38]
    rcases c_atEnd (S := S) (d := d + 1) (L := M) hB hhV with ⟨q, e⟩ | ⟨q, e⟩
    · obtain ⟨A', L', z1, z2, z3⟩ := c_goOut (S := S) (d := d) (L := M) hB hhV (en_k q).1 (en_k q).2
      have ee : elF V h = ouF V h := if_pos q
      rw [e]
      simp -implicitDefEqProofs only [q_I, i1_0, if_false, hc_38, z1, q_U, nI_p1]
      exact ⟨(A', L'), rfl, by rw [ee]; exact z2, Fr_tr hFr z3, hN'⟩
    · have ee : elF V h = V := if_neg q
      rw [e]
      simp -implicitDefEqProofs only [q_I, if_true, nI_p1]
      exact ⟨(B, M), rfl, by rw [ee]; exact hB, hFr, hN'⟩
  · rintro g ⟨B, M⟩ ⟨hB, hFr, hN⟩
    simp only at hB hFr
    have l1 : B 11 0 = nI (hn W) := by rw [← hN]; exact hB.2.1.2.2.2.2.2.2.1.1.trans hB.1.2.2.2.2.1.1
    rw [g_X10_endLeases_2]
    simp -implicitDefEqProofs only [hv_38_2, hg_11_0, l1, if_pos (Int32.le_refl (nI (hn W)))]
    exact ⟨B, M, rfl, hB, hFr⟩
end YearK
