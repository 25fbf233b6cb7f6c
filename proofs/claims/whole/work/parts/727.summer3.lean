/-! summer, whole -/
section YearD
variable {S : sT} {d c : Nat} {k : Value} {E : List dsc} {A : fA} {L : fL} {T : fT} {W : fW}
def suF (W : fW) : fW := roW (itW (smF (rainW W (W 0 / 4).toNatClampNeg)) 48 W)
theorem c_summer (h : Ti c k E T A W) : ∃ A', ex S (d + 5) 194 [.ref 38] (Hh k E A L T) = some (.inl none, Hh k E A' L T) ∧ Ti c k E T A' (suF W) ∧ Fr A A' := by
  obtain ⟨hI, h0, hO⟩ := id h
  obtain ⟨y, hy, ey⟩ := ye_c hI
  have hr := rain_rg hI.2.2.1 y
  have s7 : A 4 7 = W 0 := h0.1
  rw [x_X10_summer, g_X10_summer_0]
  simp -implicitDefEqProofs only [hv_38_0, hv_4_3, hg_4_7, s7, dv_4, hc_16, ey, c_rainOf h0.2.2.1 hI hy, q_I]
  unfold suF
  rw [ey, nI_clamp (by omega)]
  generalize rainW W y = rain at *
  refine loop_Q (α := fA) (F := fun g i B => bd S (ex S (d + 4)) dflT E_X10_summer g 22 [some (.ref 38), some (.int rain), some (.int (nI i))] [] (Hh k E B L T)) (N := 48) (P := fun i B => Ti c k E T B (itW (smF rain) i W) ∧ Fr A B) (Q := fun r => ∃ A', r = some (.inl none, Hh k E A' L T) ∧ Ti c k E T A' (roW (itW (smF rain) 48 W)) ∧ Fr A A') ?_ ?_ (s := A) ⟨h, Fr_refl⟩ (by decide)
  · rintro g f B hf ⟨hB, hFr⟩
    right
    have g0 : ¬ (48 : Int32) ≤ nI f := nI_ge (b := 48) hf (by decide)
    rw [show itW (smF rain) (f + 1) W = smF rain (itW (smF rain) f W) f from rfl]
    generalize itW (smF rain) f W = V at *
    obtain ⟨B1, b1, b2, b3⟩ := c_harvest (S := S) (d := d) (L := L) hB hf hr
    obtain ⟨B2, b4, b5, b6⟩ := c_sellH (S := S) (d := d) (L := L) b2 hf (hv_y (hB.1.2.1 f hf) hr)
    rw [g_X10_summer_22]
    simp -implicitDefEqProofs only [if_neg g0, hv_38_1, hc_9, b1, q_U, hc_38, b4, nI_p1]
    exact ⟨B2, rfl, b5, Fr_tr (Fr_tr hFr b3) b6⟩
  · rintro g B ⟨hB, hFr⟩
    generalize itW (smF rain) 48 W = V at *
    obtain ⟨B1, b1, b2, b3⟩ := c_rowAdd (S := S) (d := d + 1) (L := L) hB.1 hB.2.1
    have h4 := hB.1.2.2.2.2.2.2.2.2.2.1.2
    rw [g_X10_summer_22, if_pos (by decide)]
    simp -implicitDefEqProofs only [hv_38_0, hv_4_6, hv_38_1, hc_33, b1, q_U]
    refine ⟨B1, rfl, Ti_up hB (jRo hB.1) b2 (b3 36 (by decide) (by decide) (by decide)) (ro_lo h4 (by omega)) (fun i h1 h2 => ro_lo h4 (by omega)), Fr_tr hFr ⟨fun r hr => b3 r (by omega) (by omega) (by omega), by rw [b3 36 (by decide) (by decide) (by decide)], by rw [b3 36 (by decide) (by decide) (by decide)]⟩⟩
theorem r_smF {rain : Int32} {f : Nat} {o3 o4 o5 o6 o7 o8 : Option Value} (hI : Iv c (A 40)) (hf : f < 48) (hr : rg rain (-5) 5) (g : Nat) : ∃ A' g' p3 p4 p5 p6 p7 p8, g ≤ g' ∧ bd S (ex S (d + 4)) dflT E_X12_summer (g + 2) 11 [some (.ref 39), some (.int rain), some (.int (nI f)), o3, o4, o5, o6, o7, o8] [] (Hh k E A L T) = bd S (ex S (d + 4)) dflT E_X12_summer g' 11 [some (.ref 39), some (.int rain), some (.int (nI (f + 1))), p3, p4, p5, p6, p7, p8] [] (Hh k E A' L T) ∧ A' 40 = smF rain (A 40) f ∧ Fg A A' := by
  have g0 : ¬ (48 : Int32) ≤ nI f := nI_ge (b := 48) hf (by decide)
  have h24 := hI.2.2.2.2.1.2.1
  have hF := hI.2.1 f hf
  have ee : (if A 40 (8 + 14 * f + 6) / 4 < growW (A 40) f (A 40 (8 + 14 * f + 3)) rain then A 40 (8 + 14 * f + 6) / 4 else growW (A 40) f (A 40 (8 + 14 * f + 3)) rain) = eaW (A 40) rain f := rfl
  rw [show g + 2 = (g + 1) + 1 from rfl, g_X12_summer_11]
  simp -implicitDefEqProofs only [if_neg g0, hc_39, ro_3 hf, q_I, r_grow hf, ro_6 hf, dv_4, ee, hv_39_1, ra_9, ra_12, ra_13, sn_40 (show 8 + 14 * f + 9 < 35877 by omega), sn_40 (show 8 + 14 * f + 12 < 35877 by omega), sn_40 (show 8 + 14 * f + 13 < 35877 by omega), nI_p1]
  have e40 : up (up (up A 40 (8 + 14 * f + 9) (growW (A 40) f (A 40 (8 + 14 * f + 3)) rain - eaW (A 40) rain f)) 40 (8 + 14 * f + 12) (eaW (A 40) rain f)) 40 (8 + 14 * f + 13) (A 40 (8 + 14 * f + 3)) 40 = hvA (A 40) rain f := by
    rw [up40, up40, up40]; rfl
  have hFg : Fg A (up (up (up A 40 (8 + 14 * f + 9) (growW (A 40) f (A 40 (8 + 14 * f + 3)) rain - eaW (A 40) rain f)) 40 (8 + 14 * f + 12) (eaW (A 40) rain f)) 40 (8 + 14 * f + 13) (A 40 (8 + 14 * f + 3))) := Fg_tr (Fg_tr Fg_up Fg_up) Fg_up
  generalize up (up (up A 40 (8 + 14 * f + 9) (growW (A 40) f (A 40 (8 + 14 * f + 3)) rain - eaW (A 40) rain f)) 40 (8 + 14 * f + 12) (eaW (A 40) rain f)) 40 (8 + 14 * f + 13) (A 40 (8 + 14 * f + 3)) = B at *
  by_cases q0 : A 40 (8 + 14 * f + 3) = 0
  · rw [if_pos q0]
    exact ⟨B, g + 1, _, _, _, _, _, _, by omega, rfl, by rw [e40, sm_0 hI hf hr q0], hFg⟩
  · have hJ : Iv c (hvF (A 40) rain f) := (jHv hI hf hr).2
    rcases hol_c hF h24 with ⟨e1, -, e3⟩ | ⟨h, hh, h2, e1, e2⟩
    · exact absurd e3 q0
    obtain ⟨n, hn, hn2, en⟩ := rg_of (b := 5) hF.2.2.2.1
    have k136 : ∀ y0, y0 = wrL (A 40 (8 + 14 * f + 3)) → ∀ x4 x5, x4 - x5 = hvF (A 40) rain f (8 + 14 * f + 9) → ∃ A' p6 p7 p8, bd S (ex S (d + 4)) dflT E_X12_summer (g + 1) 136 [some (.ref 39), some (.int rain), some (.int (nI f)), some (.int (A 40 (8 + 14 * f + 3))), some (.int x4), some (.int x5), o6, o7, o8] [.int y0] (Hh k E B L T) = bd S (ex S (d + 4)) dflT E_X12_summer g 11 [some (.ref 39), some (.int rain), some (.int (nI (f + 1))), some (.int (A 40 (8 + 14 * f + 3))), some (.int x4), some (.int x5), p6, p7, p8] [] (Hh k E A' L T) ∧ A' 40 = smF rain (A 40) f ∧ Fg A A' := by
      rintro y0 ey x4 x5 e45
      have w2 : B 40 (8 + 14 * f + 2) = A 40 (8 + 14 * f + 2) := by rw [e40]; exact hvA_o (by omega) (by omega) (by omega)
      rw [g_X12_summer_136]
      have ec : (if (0 : Int32) < (if A 40 (8 + 14 * f + 2) + y0 < 20 then A 40 (8 + 14 * f + 2) + y0 else 20) then (if A 40 (8 + 14 * f + 2) + y0 < 20 then A 40 (8 + 14 * f + 2) + y0 else 20) else 0) = cl20 (A 40 (8 + 14 * f + 2) + wrL (A 40 (8 + 14 * f + 3))) := by rw [ey]; rfl
      simp -implicitDefEqProofs only [hv_39_1, ra_2, q_I, hc_39, ro_2 hf, w2, ec, sn_40 (show 8 + 14 * f + 2 < 35877 by omega)]
      have f40 : up B 40 (8 + 14 * f + 2) (cl20 (A 40 (8 + 14 * f + 2) + wrL (A 40 (8 + 14 * f + 3)))) 40 = hvF (A 40) rain f := by rw [up40, e40]; rfl
      have fFg : Fg A (up B 40 (8 + 14 * f + 2) (cl20 (A 40 (8 + 14 * f + 2) + wrL (A 40 (8 + 14 * f + 3))))) := Fg_tr hFg Fg_up
      generalize up B 40 (8 + 14 * f + 2) (cl20 (A 40 (8 + 14 * f + 2) + wrL (A 40 (8 + 14 * f + 3)))) = C at *
      have w10 : C 40 (8 + 14 * f + 10) = nI h := by rw [f40, hv_o (by omega) (by omega) (by omega) (by omega)]; exact e1
      have w3 : hvF (A 40) rain f (8 + 14 * f + 3) = A 40 (8 + 14 * f + 3) := hv_o (by omega) (by omega) (by omega) (by omega)
      have hol : holW (hvF (A 40) rain f) f = some h := by
        unfold holW at e2 ⊢
        rw [hv_o (by omega) (by omega) (by omega) (by omega)]
        exact e2
      have es : smF rain (A 40) f = seF (C 40) h ((x4 - x5) * prW (C 40) (A 40 (8 + 14 * f + 3))).toInt64 := by
        unfold smF slF
        rw [hol]
        show seF _ _ _ = _
        rw [e45, f40, w3]
      rw [es]
      have hp : C 40 882 = nI (pn (C 40)) ∧ pn (C 40) ≤ 200 := by rw [f40]; exact pr_of hJ
      simp -implicitDefEqProofs only [hc_39, hv_39_1, ro_10 hf, w10, q_I, r_prc hp, aw_40_3, r_kept, sw_40_3]
      generalize ((x4 - x5) * prW (C 40) (A 40 (8 + 14 * f + 3))) = x
      have hl : letW (up C 40 3 (kp ((C 40 3).toInt64 + x.toInt64)) 40) h = letW (C 40) h := by unfold letW; rw [up40, upd_o (by omega)]
      unfold seF
      simp -implicitDefEqProofs only [hc_39, r_isLet h2, hl, q_I]
      by_cases q : letW (C 40) h = 0
      · rw [if_pos q]
        simp -implicitDefEqProofs only [if_pos q, hc_39, r_inc, q_U, ri_5 h2, q_I, rs_5 h2, nI_p1]
        refine ⟨_, _, _, _, rfl, ?_, Fg_tr fFg (Fg_tr Fg_up (Fg_tr Fg_up Fg_up))⟩
        rw [up40, up40, up40]
        rfl
      · rw [if_neg q]
        simp -implicitDefEqProofs only [if_neg q, hc_39, ri_1 h2, q_I, rs_1 h2, q_U, nI_p1]
        refine ⟨_, _, _, _, rfl, ?_, Fg_tr fFg (Fg_tr Fg_up Fg_up)⟩
        rw [up40, up40]
        rfl
    rw [if_neg q0]
    have e45 : growW (A 40) f (A 40 (8 + 14 * f + 3)) rain - eaW (A 40) rain f = hvF (A 40) rain f (8 + 14 * f + 9) := hv_9.symm
    have fin : ∀ y0, y0 = wrL (A 40 (8 + 14 * f + 3)) → ∃ A' g' p3 p4 p5 p6 p7 p8, g ≤ g' ∧ bd S (ex S (d + 4)) dflT E_X12_summer (g + 1) 136 [some (.ref 39), some (.int rain), some (.int (nI f)), some (.int (A 40 (8 + 14 * f + 3))), some (.int (growW (A 40) f (A 40 (8 + 14 * f + 3)) rain)), some (.int (eaW (A 40) rain f)), o6, o7, o8] [.int y0] (Hh k E B L T) = bd S (ex S (d + 4)) dflT E_X12_summer g' 11 [some (.ref 39), some (.int rain), some (.int (nI (f + 1))), p3, p4, p5, p6, p7, p8] [] (Hh k E A' L T) ∧ A' 40 = smF rain (A 40) f ∧ Fg A A' := by
      intro y0 ey
      obtain ⟨A', p6, p7, p8, z1, z2, z3⟩ := k136 y0 ey _ _ e45
      exact ⟨A', g, _, _, _, _, _, _, Nat.le_refl _, z1, z2, z3⟩
    have hw : ∀ m : Nat, m ≤ 5 → A 40 (8 + 14 * f + 3) = nI m → wrL (A 40 (8 + 14 * f + 3)) = ([0, 2, 1, -1, -2, -3] : List Int32).getD m 0 := by
      intro m hm e; rw [e]; unfold wrL; rw [nI_clamp (by omega)]
    by_cases q1 : A 40 (8 + 14 * f + 3) = 1
    · rw [if_pos q1]; exact fin 2 (hw 1 (by decide) q1).symm
    · rw [if_neg q1]
      by_cases q2 : A 40 (8 + 14 * f + 3) = 2
      · rw [if_pos q2]; exact fin 1 (hw 2 (by decide) q2).symm
      · rw [if_neg q2]
        by_cases q3 : A 40 (8 + 14 * f + 3) = 3
        · rw [if_pos q3]; exact fin (-1) (hw 3 (by decide) q3).symm
        · rw [if_neg q3]
          by_cases q4 : A 40 (8 + 14 * f + 3) = 4
          · rw [if_pos q4]; exact fin (-2) (hw 4 (by decide) q4).symm
          · rw [if_neg q4]
            have q5 : A 40 (8 + 14 * f + 3) = nI 5 := by
              rw [en] at q0 q1 q2 q3 q4 ⊢
              match n, hn with
              | 0, _ => exact absurd rfl q0
              | 1, _ => exact absurd rfl q1
              | 2, _ => exact absurd rfl q2
              | 3, _ => exact absurd rfl q3
              | 4, _ => exact absurd rfl q4
              | 5, _ => rfl
            exact fin (-3) (hw 5 (by decide) q5).symm
theorem r_summer (hI : Iv c (A 40)) : ∃ A', ex S (d + 5) 237 [.ref 39] (Hh k E A L T) = some (.inl none, Hh k E A' L T) ∧ A' 40 = suF (A 40) ∧ Fg A A' ∧ Iv c (A' 40) := by
  obtain ⟨y, hy, ey⟩ := ye_c hI
  have hr := rain_rg hI.2.2.1 y
  rw [x_X12_summer, g_X12_summer_0]
  simp -implicitDefEqProofs only [hc_39, r_year, q_I, ey, r_rainOf hy]
  unfold suF
  rw [ey, nI_clamp (by omega)]
  generalize rainW (A 40) y = rain at *
  refine loop_QK (K := 2) (α := fA × Option Value × Option Value × Option Value × Option Value × Option Value × Option Value) (F := fun g i s => bd S (ex S (d + 4)) dflT E_X12_summer g 11 [some (.ref 39), some (.int rain), some (.int (nI i)), s.2.1, s.2.2.1, s.2.2.2.1, s.2.2.2.2.1, s.2.2.2.2.2.1, s.2.2.2.2.2.2] [] (Hh k E s.1 L T)) (N := 48) (P := fun i s => s.1 40 = itW (smF rain) i (A 40) ∧ Fg A s.1 ∧ Iv c (s.1 40)) (Q := fun r => ∃ A', r = some (.inl none, Hh k E A' L T) ∧ A' 40 = roW (itW (smF rain) 48 (A 40)) ∧ Fg A A' ∧ Iv c (A' 40)) ?_ ?_ (s := (A, none, none, none, none, none, none)) ⟨rfl, Fg_refl, hI⟩ (by decide)
  · rintro g f ⟨B, o3, o4, o5, o6, o7, o8⟩ hf ⟨hB, hFr, hJ⟩
    simp only at hB hFr hJ
    right
    obtain ⟨A', g', p3, p4, p5, p6, p7, p8, z0, z1, z2, z3⟩ := r_smF (S := S) (d := d) (k := k) (E := E) (A := B) (L := L) (T := T) (o3 := o3) (o4 := o4) (o5 := o5) (o6 := o6) (o7 := o7) (o8 := o8) hJ hf hr g
    exact ⟨(A', p3, p4, p5, p6, p7, p8), g', z0, z1, by rw [show itW (smF rain) (f + 1) (A 40) = smF rain (itW (smF rain) f (A 40)) f from rfl, ← hB]; exact z2, Fg_tr hFr z3, by show Iv c (A' 40); rw [z2]; exact jSm hJ hf hr⟩
  · rintro g ⟨B, o3, o4, o5, o6, o7, o8⟩ ⟨hB, hFr, hJ⟩
    simp only at hB hFr hJ
    rw [show g + 2 = (g + 1) + 1 from rfl, g_X12_summer_11, if_pos (by decide)]
    simp -implicitDefEqProofs only [hc_39, r_wrow hJ, q_U]
    exact ⟨_, rfl, by rw [upR40, hB], Fg_tr hFr Fg_upR, by rw [upR40]; exact jRo hJ⟩
end YearD
