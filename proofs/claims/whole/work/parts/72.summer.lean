/-! summer: the harvest -/
section YearB
variable {S : sT} {d c : Nat} {k : Value} {E : List dsc} {A : fA} {L : fL} {T : fT} {W : fW}
/-- a kept sum grows -/
def adW (W : fW) (i : Nat) (x : Int64) : fW := upd W i (kp ((W i).toInt64 + x))
theorem ad_o {i j : Nat} {x : Int64} (h : j ≠ i) : adW W i x j = W j := upd_o h
theorem ad_s {i : Nat} {x : Int64} : adW W i x i = kp ((W i).toInt64 + x) := upd_s _ _ _
theorem ad_0 {i : Nat} (h : rg (W i) (-2000000000) 2000000000) : adW W i 0 = W := by
  unfold adW
  rw [Int64.add_zero, kp_id h]
  exact upd_id W i
theorem min_c (a b : Int32) : (if a < b then a else b) = if b < a then b else a := by
  apply i32_ext
  by_cases h1 : a < b
  · rw [if_pos h1, if_neg (fun q => absurd (Int32.lt_trans h1 q) (Int32.lt_irrefl))]
  · rw [if_neg h1]
    by_cases h2 : b < a
    · rw [if_pos h2]
    · rw [if_neg h2]
      rw [Int32.lt_iff_toInt_lt] at h1 h2
      omega
def eaW (W : fW) (rain : Int32) (f : Nat) : Int32 := if W (8 + 14 * f + 6) / 4 < growW W f (W (8 + 14 * f + 3)) rain then W (8 + 14 * f + 6) / 4 else growW W f (W (8 + 14 * f + 3)) rain
def wrL (cr : Int32) : Int32 := ([0, 2, 1, -1, -2, -3] : List Int32).getD cr.toNatClampNeg 0
def cl20 (x : Int32) : Int32 := if 0 < (if x < 20 then x else 20) then (if x < 20 then x else 20) else 0
def hvA (W : fW) (rain : Int32) (f : Nat) : fW := upd (upd (upd W (8 + 14 * f + 9) (growW W f (W (8 + 14 * f + 3)) rain - eaW W rain f)) (8 + 14 * f + 12) (eaW W rain f)) (8 + 14 * f + 13) (W (8 + 14 * f + 3))
def hvF (W : fW) (rain : Int32) (f : Nat) : fW := upd (hvA W rain f) (8 + 14 * f + 2) (cl20 (W (8 + 14 * f + 2) + wrL (W (8 + 14 * f + 3))))
theorem cl_rg (x : Int32) : rg (cl20 x) 0 20 := by
  unfold cl20 rg
  have e0 : (0 : Int32).toInt = 0 := rfl
  have e20 : (20 : Int32).toInt = 20 := rfl
  by_cases h : x < 20
  · rw [if_pos h]
    rw [Int32.lt_iff_toInt_lt, e20] at h
    split
    · rename_i q; rw [Int32.lt_iff_toInt_lt, e0] at q; omega
    · rw [e0]; omega
  · rw [if_neg h, if_pos (by decide), e20]; omega
theorem ea_rg {rain : Int32} {f : Nat} (hF : IvF W f) (hr : rg rain (-5) 5) : rg (eaW W rain f) 0 24 ∧ rg (growW W f (W (8 + 14 * f + 3)) rain - eaW W rain f) 0 24 := by
  have h1 := gr_rg (cr := W (8 + 14 * f + 3)) hF hr
  obtain ⟨g, hg, hg2, eg⟩ := rg_of (b := 99) hF.2.2.2.2.2.2.1
  have d4 : W (8 + 14 * f + 6) / 4 = nI (g / 4) := by rw [eg, show (4 : Int32) = nI 4 from rfl, pk_div (by omega) (by decide) (by decide)]
  unfold eaW
  rw [d4]
  obtain ⟨y, hy, hy2, ey⟩ := rg_of (b := 24) h1
  rw [ey]
  by_cases q : g / 4 < y
  · rw [if_pos (nI_lt q (by omega)), sub_n (by omega) (by omega)]
    exact ⟨rg_nI (by omega) (by omega), rg_nI (by omega) (by omega)⟩
  · rw [if_neg (by rw [nI_ltI (by omega) (by omega)]; exact q), sub_n (by omega) (by omega)]
    exact ⟨rg_nI (by omega) (by omega), rg_nI (by omega) (by omega)⟩
theorem hvA_o {rain : Int32} {f i : Nat} (h9 : i ≠ 8 + 14 * f + 9) (h12 : i ≠ 8 + 14 * f + 12) (h13 : i ≠ 8 + 14 * f + 13) : hvA W rain f i = W i := by
  unfold hvA; rw [upd_o h13, upd_o h12, upd_o h9]
theorem hvA_9 {rain : Int32} {f : Nat} : hvA W rain f (8 + 14 * f + 9) = growW W f (W (8 + 14 * f + 3)) rain - eaW W rain f := by
  unfold hvA; rw [upd_o (by omega), upd_o (by omega), upd_s]
theorem jHv {rain : Int32} {f : Nat} (hI : Iv c W) (hf : f < 48) (hr : rg rain (-5) 5) : Iv c (hvA W rain f) ∧ Iv c (hvF W rain f) := by
  have hF := hI.2.1 f hf
  have j1 := jL_9 (x := growW W f (W (8 + 14 * f + 3)) rain - eaW W rain f) hI hf trivial
  have j2 := jL_12 j1 hf (ea_rg hF hr).1
  have j3 := jL_13 j2 hf hF.2.2.2.1
  exact ⟨j3, jL_2 j3 hf (cl_rg _)⟩
theorem hv_o {rain : Int32} {f i : Nat} (h2 : i ≠ 8 + 14 * f + 2) (h9 : i ≠ 8 + 14 * f + 9) (h12 : i ≠ 8 + 14 * f + 12) (h13 : i ≠ 8 + 14 * f + 13) : hvF W rain f i = W i := by
  unfold hvF; rw [upd_o h2]; exact hvA_o h9 h12 h13
theorem aO_wr {x : Int32} (hx : rg x 0 5) {κ : Int32 → rO} : aO (.retAddr 2) x κ = κ (wrL x) := by
  obtain ⟨n, hn, hn2, rfl⟩ := rg_of (b := 5) hx
  rw [aO_w (by omega)]
  unfold wrL
  rw [nI_clamp (by omega)]
theorem q_h5c {a : Nat} {x y z w : Int32} {κ : rO} : h8f [.int x, .int y, .int z, .int w, .ref a] κ = κ := if_pos (Nat.le_of_ble_eq_true rfl)
theorem c_harvest {rain : Int32} {f : Nat} (h : Ti c k E T A W) (hf : f < 48) (hr : rg rain (-5) 5) : ∃ A', ex S (d + 4) 189 [.ref 9, .int (nI f), .int rain] (Hh k E A L T) = some (.inl none, Hh k E A' L T) ∧ Ti c k E T A' (hvF W rain f) ∧ Fr A A' := by
  obtain ⟨hI, h0, hO⟩ := id h
  have hF := hI.2.1 f hf
  have j1 := jL_9 (x := growW W f (W (8 + 14 * f + 3)) rain - eaW W rain f) hI hf trivial
  have k1 := kL_9 (x := growW W f (W (8 + 14 * f + 3)) rain - eaW W rain f) hI hf h0
  have j2 := jL_12 j1 hf (ea_rg hF hr).1
  have k2 := kL_12 (x := eaW W rain f) j1 hf k1
  have j3 := jL_13 j2 hf hF.2.2.2.1
  have k3 := kL_13 (x := W (8 + 14 * f + 3)) j2 hf k2
  have j4 := jL_2 j3 hf (cl_rg (W (8 + 14 * f + 2) + wrL (W (8 + 14 * f + 3))))
  have k4 := kL_2 (x := cl20 (W (8 + 14 * f + 2) + wrL (W (8 + 14 * f + 3)))) j3 hf k3
  have e2 := hvA_o (W := W) (rain := rain) (f := f) (i := 8 + 14 * f + 2) (by omega) (by omega) (by omega)
  unfold hvA at e2
  have hL : LkL (A 10) W := h0.2.1
  have hL3 := gL_2 (S := S) (d := d + 1) (k := k) (E := E) (L := L) (T := T) k3.2.1 hf
  rw [e2] at hL3
  obtain ⟨n, hn, hn2, en⟩ := rg_of (b := 5) hF.2.2.2.1
  refine ⟨_, ?_, Ti_up h j4 k4 (by simp -implicitDefEqProofs only [u36_10, u36_12, u36_22]) (hv_o (by omega) (by omega) (by omega) (by omega)) (fun i h1 h2 => hv_o (by omega) (by omega) (by omega) (by omega)), Fr_tr (Fr_tr (Fr_up (by decide) (by decide)) (Fr_up (by decide) (by decide))) (Fr_tr (Fr_up (by decide) (by decide)) (Fr_up (by decide) (by decide)))⟩
  have ee : (if growW W f (W (8 + 14 * f + 3)) rain < W (8 + 14 * f + 6) / 4 then growW W f (W (8 + 14 * f + 3)) rain else W (8 + 14 * f + 6) / 4) = eaW W rain f := min_c _ _
  have lo : ¬ W (8 + 14 * f + 3) < 0 := by rw [en]; exact nI_pos (by omega)
  have hi : ¬ (5 : Int32) < W (8 + 14 * f + 3) := by rw [en]; exact nI_nlt (a := 5) (by omega) (by decide)
  rw [x_X2_harvest, g_X2_harvest_0]
  simp -implicitDefEqProofs only [hc_9, gL_3 hL hf, q_I, c_grow hL hf, gL_6 hL hf, dv_4, ee, ls_9 hf, q_U, ls_12 hf, ls_13 hf, if_neg lo, if_neg hi, q_h5c, hL3, aO_wr hF.2.2.2.1, ls_2 hf]
  rfl
/-- what a harvest brings -/
def seF (W : fW) (h : Nat) (x : Int64) : fW := if letW W h = 0 then adW (adW (adW W 3 x) 1 x) (1684 + 11 * h + 5) x else adW (adW W 3 x) (1684 + 11 * h + 1) x
def slF (W : fW) (f : Nat) : fW := match holW W f with | none => W | some h => seF W h (W (8 + 14 * f + 9) * prW W (W (8 + 14 * f + 3))).toInt64
theorem se_o {h i : Nat} {x : Int64} (h3 : i ≠ 3) (h1 : i ≠ 1) (hh : i < 1684 + 11 * h ∨ 1684 + 11 * h + 11 ≤ i) : seF W h x i = W i := by
  unfold seF
  split
  · rw [ad_o (by omega), ad_o h1, ad_o h3]
  · rw [ad_o (by omega), ad_o h3]
theorem kp_add {x : Int32} {j : Int64} (hx : rg x 0 2000000000) (h0 : 0 ≤ j.toInt) (h1 : j.toInt ≤ 4000000000000) : rg (kp (x.toInt64 + j)) 0 2000000000 := by
  obtain ⟨x1, x2⟩ := hx
  unfold rg
  rw [kp_toInt, a64 (by rw [w64]; omega) (by rw [w64]; omega), w64]
  omega
theorem jSe {h : Nat} {x : Int64} (hI : Iv c W) (hh : h < hn W) (h0 : 0 ≤ x.toInt) (h1 : x.toInt ≤ 4000000000000) : Iv c (seF W h x) := by
  have h24 := hI.2.2.2.2.1.2.1
  have j1 : Iv c (adW W 3 x) := jG_3 hI (kp_rg _)
  have hn1 : hn (adW W 3 x) = hn W := hn_c (ad_o (by omega))
  unfold seF
  split
  · have j2 : Iv c (adW (adW W 3 x) 1 x) := jG_1 j1 (kp_rg _)
    exact jH_5 j2 (by rw [hn_c (ad_o (by omega)), hn1]; exact hh) (kp_rg _)
  · refine jH_1 j1 (by rw [hn1]; exact hh) (kp_add ?_ h0 h1)
    rw [ad_o (by omega)]
    exact (hI.2.2.2.2.1.2.2 h hh).2.1
theorem yp_rg {f : Nat} (hI : Iv c W) (hy : rg (W (8 + 14 * f + 9)) 0 24) : rg (W (8 + 14 * f + 9) * prW W (W (8 + 14 * f + 3))) 0 2400 := (mul_rg hy (pr_rg hI.2.2.2.1 _) (by decide)).1
theorem c_sellH {f : Nat} (h : Ti c k E T A W) (hf : f < 48) (hy : rg (W (8 + 14 * f + 9)) 0 24) : ∃ A', ex S (d + 4) 192 [.ref 38, .int (nI f)] (Hh k E A L T) = some (.inl none, Hh k E A' L T) ∧ Ti c k E T A' (slF W f) ∧ Fr A A' := by
  obtain ⟨hI, h0, hO⟩ := id h
  have hL : LkL (A 10) W := h0.2.1
  have h24 := hI.2.2.2.2.1.2.1
  rw [x_X10_sellHarvest, g_X10_sellHarvest_0]
  unfold slF
  rcases hol_c (hI.2.1 f hf) h24 with ⟨e1, e2, e3⟩ | ⟨g, hg, h2, e1, e2⟩
  · rw [e2]
    simp -implicitDefEqProofs only [hv_38_1, hc_9, gL_10 hL hf, q_I, e1, if_true]
    exact ⟨A, rfl, h, Fr_refl⟩
  · rw [e2]
    show ∃ A', _ ∧ Ti c k E T A' (seF W g (W (8 + 14 * f + 9) * prW W (W (8 + 14 * f + 3))).toInt64) ∧ _
    obtain ⟨x1, x2⟩ := yp_rg hI hy
    simp -implicitDefEqProofs only [hv_38_1, hc_9, gL_10 hL hf, q_I, e1, if_neg (nI_m1 (show g < 2 ^ 31 by omega)), gL_9 hL hf, gL_3 hL hf, hv_38_0, hc_4, c_prc hO, hv_38_3, hc_22]
    generalize W (8 + 14 * f + 9) * prW W (W (8 + 14 * f + 3)) = x at *
    have k1 := kG_2 (x := kp ((W 3).toInt64 + x.toInt64)) hI h0
    have j1 : Iv c (adW W 3 x.toInt64) := jG_3 hI (kp_rg _)
    have m2 : A 22 2 = W 3 := h0.2.2.2.1.1.2.2.1
    have hn1 : hn (adW W 3 x.toInt64) = hn W := hn_c (ad_o (by omega))
    have hC := k1.2.2.2.2.2.2.1.2.1 g (by rw [show hn (upd W 3 (kp ((W 3).toInt64 + x.toInt64))) = hn W from hn1]; exact hg)
    have hH := j1.2.2.2.2.1.2.2 g (by rw [hn1]; exact hg)
    have hl : letW (upd W 3 (kp ((W 3).toInt64 + x.toInt64))) g = letW W g := by unfold letW; rw [upd_o (by omega)]
    have c1 := c_isLet (S := S) (d := d) (k := k) (E := E) (L := L) (T := T) hC hH h2
    rw [hl] at c1
    have hJ := jSe (x := x.toInt64) hI hg (by rw [w64]; exact x1) (by rw [w64]; omega)
    rw [c_addH (W := W) m2]
    simp -implicitDefEqProofs only [q_U, hv_38_2, hc_11, c1, q_I]
    unfold seF at hJ ⊢
    by_cases q : letW W g = 0
    · rw [if_pos q] at hJ ⊢
      rw [if_pos q]
      have m0 := k1.2.2.2.1.1.1
      have k2 := kG_0 (x := kp (((adW W 3 x.toInt64) 1).toInt64 + x.toInt64)) j1 k1
      have j2 : Iv c (adW (adW W 3 x.toInt64) 1 x.toInt64) := jG_1 j1 (kp_rg _)
      have hn2 : hn (adW (adW W 3 x.toInt64) 1 x.toInt64) = hn W := (hn_c (ad_o (by omega))).trans hn1
      have hC2 := k2.2.2.2.2.2.2.1.2.1 g (by rw [show hn (upd (adW W 3 x.toInt64) 1 (kp (((adW W 3 x.toInt64) 1).toInt64 + x.toInt64))) = hn W from hn2]; exact hg)
      have k3 := kH_7 (x := kp (((adW (adW W 3 x.toInt64) 1 x.toInt64) (1684 + 11 * g + 5)).toInt64 + x.toInt64)) j2 (by rw [hn2]; exact hg) k2
      refine ⟨_, ?_, Ti_up h hJ k3 (by simp -implicitDefEqProofs only [u36_10, u36_12, u36_22]) (by rw [ad_o (by omega), ad_o (by omega), ad_o (by omega)]) (fun i h1 h2 => by rw [ad_o (by omega), ad_o (by omega), ad_o (by omega)]), Fr_tr (Fr_tr (Fr_up (by decide) (by decide)) (Fr_up (by decide) (by decide))) (Fr_up (by decide) (by decide))⟩
      simp -implicitDefEqProofs only [hv_38_3, hc_22]
      rw [c_addI (W := adW W 3 x.toInt64) m0]
      simp -implicitDefEqProofs only [q_U, hv_38_2, hc_11, tw_g7 h2, hC2.2.2.2.2.2.2.2.1]
      rfl
    · rw [if_neg q] at hJ ⊢
      rw [if_neg q]
      have k3 := kH_2 (x := kp (((adW W 3 x.toInt64) (1684 + 11 * g + 1)).toInt64 + x.toInt64)) j1 (by rw [hn1]; exact hg) k1
      refine ⟨_, ?_, Ti_up h hJ k3 (by simp -implicitDefEqProofs only [u36_10, u36_12, u36_22]) (by rw [ad_o (by omega), ad_o (by omega)]) (fun i h1 h2 => by rw [ad_o (by omega), ad_o (by omega)]), Fr_tr (Fr_up (by decide) (by decide)) (Fr_up (by decide) (by decide))⟩
      simp -implicitDefEqProofs only [hv_38_2, hc_11, tw_g2 h2, hC.2.2.1, q_U]
      rfl
def smF (rain : Int32) (W : fW) (f : Nat) : fW := slF (hvF W rain f) f
theorem hv_9 {rain : Int32} {f : Nat} : hvF W rain f (8 + 14 * f + 9) = growW W f (W (8 + 14 * f + 3)) rain - eaW W rain f := by
  unfold hvF; rw [upd_o (by omega)]; exact hvA_9
theorem hv_y {rain : Int32} {f : Nat} (hF : IvF W f) (hr : rg rain (-5) 5) : rg (hvF W rain f (8 + 14 * f + 9)) 0 24 := by rw [hv_9]; exact (ea_rg hF hr).2
theorem jSl {f : Nat} (hI : Iv c W) (hf : f < 48) (hy : rg (W (8 + 14 * f + 9)) 0 24) : Iv c (slF W f) := by
  unfold slF
  rcases hol_c (hI.2.1 f hf) hI.2.2.2.2.1.2.1 with ⟨e1, e2, e3⟩ | ⟨g, hg, h2, e1, e2⟩
  · rw [e2]; exact hI
  · rw [e2]
    obtain ⟨x1, x2⟩ := yp_rg hI hy
    exact jSe hI hg (by rw [w64]; exact x1) (by rw [w64]; omega)
theorem jSm {rain : Int32} {f : Nat} (hI : Iv c W) (hf : f < 48) (hr : rg rain (-5) 5) : Iv c (smF rain W f) := jSl (jHv hI hf hr).2 hf (hv_y (hI.2.1 f hf) hr)
/-- nothing is sold where nothing is sown -/
theorem sm_0 {rain : Int32} {f : Nat} (hI : Iv c W) (hf : f < 48) (hr : rg rain (-5) 5) (h0 : W (8 + 14 * f + 3) = 0) : smF rain W f = hvA W rain f := by
  have hF := hI.2.1 f hf
  have hJ := (jHv (rain := rain) hI hf hr).1
  have eh : hvF W rain f = hvA W rain f := by
    unfold hvF
    rw [h0, show wrL 0 = 0 from rfl, Int32.add_zero]
    have e2 : cl20 (W (8 + 14 * f + 2)) = hvA W rain f (8 + 14 * f + 2) := by
      rw [hvA_o (by omega) (by omega) (by omega)]
      obtain ⟨n, hn, hn2, en⟩ := rg_of (b := 20) hF.2.2.1
      rw [en]
      unfold cl20
      by_cases q : n < 20
      · rw [if_pos (show nI n < 20 from nI_lt (b := 20) q (by decide))]
        by_cases q0 : n = 0
        · subst q0; rfl
        · rw [if_pos (show (0 : Int32) < nI n from nI_lt (a := 0) (by omega) (by omega))]
      · rw [show n = 20 by omega]; rfl
    rw [e2]
    exact upd_id _ _
  unfold smF
  rw [eh]
  unfold slF
  have e3 : hvA W rain f (8 + 14 * f + 3) = 0 := by rw [hvA_o (by omega) (by omega) (by omega)]; exact h0
  rw [e3, show prW (hvA W rain f) 0 = 0 from rfl, Int32.mul_zero, show (0 : Int32).toInt64 = (0 : Int64) by decide]
  rcases hol_c (hJ.2.1 f hf) hJ.2.2.2.2.1.2.1 with ⟨e1, e2, -⟩ | ⟨g, hg, h2, e1, e2⟩
  · rw [e2]
  · rw [e2]
    show seF (hvA W rain f) g 0 = _
    obtain ⟨-, g2, g3, -, -⟩ := hJ.2.2.2.2.2.1
    have g1 := hJ.2.2.2.2.2.1.1
    have hH := hJ.2.2.2.2.1.2.2 g hg
    unfold seF
    rw [ad_0 g3, ad_0 g1, ad_0 hH.2.2.2.2.1, ad_0 ⟨by have := hH.2.1.1; omega, hH.2.1.2⟩]
    split <;> rfl
theorem told_rg (h : IvRn W) (y : Int32) : rg (toldW W y) (-5) 5 := by
  have h0 : rg (0 : Int32) (-5) 5 := by unfold rg; decide
  unfold toldW
  split
  · exact h0
  · split
    · exact h0
    · rename_i q1 q2
      obtain ⟨n, hn, rfl⟩ := wi_n (M := 100) (by decide) ⟨q1, q2⟩
      rw [nI_clamp (by omega)]
      rcases h n (by omega) with ⟨-, z⟩ | ⟨-, z⟩
      · exact z
      · rw [z]; exact h0
theorem rain_rg (h : IvRn W) (y : Nat) : rg (rainW W y) (-5) 5 := by
  unfold rainW
  split
  · exact told_rg h _
  · obtain ⟨a1, a2⟩ := told_rg h (nI y - 1)
    obtain ⟨b1, b2⟩ := told_rg h (nI y + 1)
    generalize toldW W (nI y - 1) = a at *
    generalize toldW W (nI y + 1) = b at *
    have e : (a + b).toInt = a.toInt + b.toInt := a32 (by omega) (by omega)
    have e2 : ((a + b) / 2).toInt = (a.toInt + b.toInt).tdiv 2 := by
      rw [Int32.toInt_div, e, show (2 : Int32).toInt = 2 from rfl]
      unfold Int.bmod
      simp -implicitDefEqProofs only [Nat.reducePow]
      have h1 : -10 ≤ (a.toInt + b.toInt).tdiv 2 ∧ (a.toInt + b.toInt).tdiv 2 ≤ 10 := by
        by_cases q : 0 ≤ a.toInt + b.toInt
        · rw [Int.tdiv_eq_ediv_of_nonneg q]; omega
        · obtain ⟨z, hz⟩ : ∃ z, a.toInt + b.toInt = -z := ⟨-(a.toInt + b.toInt), by omega⟩
          rw [hz, Int.neg_tdiv, Int.tdiv_eq_ediv_of_nonneg (by omega)]; omega
      split <;> omega
    unfold rg
    rw [e2]
    by_cases q : 0 ≤ a.toInt + b.toInt
    · rw [Int.tdiv_eq_ediv_of_nonneg q]; omega
    · obtain ⟨z, hz⟩ : ∃ z, a.toInt + b.toInt = -z := ⟨-(a.toInt + b.toInt), by omega⟩
      rw [hz, Int.neg_tdiv, Int.tdiv_eq_ediv_of_nonneg (by omega)]; omega
theorem ye_c (hI : Iv c W) : ∃ y, y < 101 ∧ W 0 / 4 = nI y := by
  obtain ⟨n, hn, hn2, en⟩ := rg_of (b := 400) hI.1
  exact ⟨n / 4, by omega, by rw [en, show (4 : Int32) = nI 4 from rfl, pk_div (by omega) (by decide) (by decide)]⟩
end YearB
