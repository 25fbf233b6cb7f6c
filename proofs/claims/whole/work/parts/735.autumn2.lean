/-! autumn: the paying -/
section YearF
variable {S : sT} {d c : Nat} {k : Value} {E : List dsc} {A : fA} {L : fL} {T : fT} {W : fW}
theorem Ti_C {h : Nat} (hT : Ti c k E T A W) (hh : h < hn W) : LkC (A 12) W h := hT.2.1.2.2.2.2.2.2.1.2.1 h hh
theorem Ti_24 {h : Nat} (hT : Ti c k E T A W) (hh : h < hn W) : h < 24 := by have := hT.1.2.2.2.2.1.2.1; omega
theorem hn_u {i : Nat} {x : Int32} (h : i ≠ 1683) : hn (upd W i x) = hn W := hn_c (upd_o (fun e => h e.symm))
theorem hn_a {i : Nat} {x : Int64} (h : i ≠ 1683) : hn (adW W i x) = hn W := hn_c (ad_o (fun e => h e.symm))
theorem Ti_H1 {h : Nat} {x : Int32} (hT : Ti c k E T A W) (hh : h < hn W) (hx : rg x 0 2000000000) : Ti c k E T (up A 12 (48 + h) x) (upd W (1684 + 11 * h + 1) x) := by
  have := Ti_24 hT hh
  exact Ti_up hT (jH_1 hT.1 hh hx) (kH_2 hT.1 hh hT.2.1) u36_12 (upd_o (by omega)) (fun i h1 h2 => upd_o (by omega))
theorem Ti_H2 {h : Nat} {x : Int32} (hT : Ti c k E T A W) (hh : h < hn W) (hx : rg x 0 2000000000) : Ti c k E T (up A 12 (72 + h) x) (upd W (1684 + 11 * h + 2) x) := by
  have := Ti_24 hT hh
  exact Ti_up hT (jH_2 hT.1 hh hx) (kH_3 hT.1 hh hT.2.1) u36_12 (upd_o (by omega)) (fun i h1 h2 => upd_o (by omega))
theorem Ti_H3 {h : Nat} {x : Int32} (hT : Ti c k E T A W) (hh : h < hn W) (hx : rg x 0 2000000000) : Ti c k E T (up A 12 (96 + h) x) (upd W (1684 + 11 * h + 3) x) := by
  have := Ti_24 hT hh
  exact Ti_up hT (jH_3 hT.1 hh hx) (kH_4 hT.1 hh hT.2.1) u36_12 (upd_o (by omega)) (fun i h1 h2 => upd_o (by omega))
theorem Ti_H5 {h : Nat} {x : Int32} (hT : Ti c k E T A W) (hh : h < hn W) (hx : rg x (-2000000000) 2000000000) : Ti c k E T (up A 12 (168 + h) x) (upd W (1684 + 11 * h + 5) x) := by
  have := Ti_24 hT hh
  exact Ti_up hT (jH_5 hT.1 hh hx) (kH_7 hT.1 hh hT.2.1) u36_12 (upd_o (by omega)) (fun i h1 h2 => upd_o (by omega))
theorem Ti_H6 {h : Nat} {x : Int32} (hT : Ti c k E T A W) (hh : h < hn W) (hx : rg x 0 2000000000) : Ti c k E T (up A 12 (192 + h) x) (upd W (1684 + 11 * h + 6) x) := by
  have := Ti_24 hT hh
  exact Ti_up hT (jH_6 hT.1 hh hx) (kH_8 hT.1 hh hT.2.1) u36_12 (upd_o (by omega)) (fun i h1 h2 => upd_o (by omega))
theorem Ti_H7 {h : Nat} {x : Int32} (hT : Ti c k E T A W) (hh : h < hn W) : Ti c k E T (up A 12 (216 + h) x) (upd W (1684 + 11 * h + 7) x) := by
  have := Ti_24 hT hh
  exact Ti_up hT (jH_7 hT.1 hh trivial) (kH_9 hT.1 hh hT.2.1) u36_12 (upd_o (by omega)) (fun i h1 h2 => upd_o (by omega))
theorem Ti_G1 {x : Int64} (hT : Ti c k E T A W) : Ti c k E T (up A 22 0 (kp ((W 1).toInt64 + x))) (adW W 1 x) := Ti_up hT (jG_1 hT.1 (kp_rg _)) (kG_0 hT.1 hT.2.1) u36_22 (ad_o (by omega)) (fun i h1 h2 => ad_o (by omega))
theorem Ti_G4 {x : Int64} (hT : Ti c k E T A W) : Ti c k E T (up A 22 3 (kp ((W 4).toInt64 + x))) (adW W 4 x) := Ti_up hT (jG_4 hT.1 (kp_rg _)) (kG_3 hT.1 hT.2.1) u36_22 (ad_o (by omega)) (fun i h1 h2 => ad_o (by omega))
theorem Ti_lp (hT : Ti c k E T A W) : Ti c k E T (upR A 36 (prR W (A 36) (pn W))) W := ⟨hT.1, Lk_36 hT.2.1, PrOk_of (Ti_36 hT)⟩
/-- coins come to the owner of a holding -/
def reW (W : fW) (h : Nat) (x : Int64) : fW := adW (adW W (1684 + 11 * h + 5) x) 1 x
theorem c_receive {h : Nat} {x : Int32} (hT : Ti c k E T A W) (hh : h < hn W) : ∃ A', ex S (d + 4) 204 [.ref 38, .int (nI h), .int x] (Hh k E A L T) = some (.inl none, Hh k E A' L T) ∧ Ti c k E T A' (reW W h x.toInt64) ∧ Fr A A' := by
  have h2 := Ti_24 hT hh
  have hC := Ti_C hT hh
  have t1 := Ti_H5 (x := kp ((W (1684 + 11 * h + 5)).toInt64 + x.toInt64)) hT hh (kp_rg _)
  have t2 := Ti_G1 (x := x.toInt64) t1
  refine ⟨_, ?_, t2, Fr_tr (Fr_up (by decide) (by decide)) (Fr_up (by decide) (by decide))⟩
  rw [x_X10_receive, g_X10_receive_0]
  simp -implicitDefEqProofs only [hv_38_2, hc_11, tw_g7 h2, hC.2.2.2.2.2.2.2.1, q_U, hv_38_3, hc_22]
  rw [c_addI (W := upd W (1684 + 11 * h + 5) (kp ((W (1684 + 11 * h + 5)).toInt64 + x.toInt64))) t1.2.1.2.2.2.1.1.1]
  simp -implicitDefEqProofs only [q_U]
def offJ (rent put : Int32) : Int64 := (rent.toInt64 * put.toInt64) / 100
def pyA (W : fW) (h : Nat) (rent put : Int32) : fW := if put < 0 then upd W (1684 + 11 * h + 3) 0 else adW W (1684 + 11 * h + 3) (offJ rent put)
def pyD (W : fW) (h : Nat) (rent put : Int32) : Int64 := if put < 0 then rent.toInt64 + (W (1684 + 11 * h + 3)).toInt64 else rent.toInt64 - offJ rent put
def pyO (W : fW) (h : Nat) (rent put : Int32) : Int64 := pyD W h rent put + (W (1684 + 11 * h + 2)).toInt64
def pyP (W : fW) (h : Nat) (rent put : Int32) : Int32 := (if pyO W h rent put < (W (1684 + 11 * h + 1)).toInt64 then pyO W h rent put else (W (1684 + 11 * h + 1)).toInt64).toInt32
def pyB (W : fW) (h : Nat) (rent put : Int32) : fW := upd (adW (pyA W h rent put) (1684 + 11 * h + 1) (-pyP W h rent put).toInt64) (1684 + 11 * h + 2) (kp (pyO W h rent put - (pyP W h rent put).toInt64))
def pyW (W : fW) (h : Nat) (rent put : Int32) : fW := reW (pyB W h rent put) h (pyP W h rent put).toInt64
theorem pyA_o {h i : Nat} {rent put : Int32} (hi : i ≠ 1684 + 11 * h + 3) : pyA W h rent put i = W i := by
  unfold pyA
  split
  · exact upd_o hi
  · exact ad_o hi
theorem off_c {rent put : Int32} (h1 : rg rent 0 1599998400) (h2 : rg put 0 100) : 0 ≤ (offJ rent put).toInt ∧ (offJ rent put).toInt ≤ rent.toInt ∧ (offJ rent put).toInt32.toInt64 = offJ rent put := by
  obtain ⟨a1, a2⟩ := h1
  obtain ⟨b1, b2⟩ := h2
  have m1 : 0 ≤ rent.toInt * put.toInt := Int.mul_nonneg a1 b1
  have m2 : rent.toInt * put.toInt ≤ rent.toInt * 100 := Int.mul_le_mul_of_nonneg_left b2 a1
  have m4 : (rent.toInt64 * put.toInt64).toInt = rent.toInt * put.toInt := by
    rw [m64 (by rw [w64, w64]; omega) (by rw [w64, w64]; omega), w64, w64]
  have d1 : (offJ rent put).toInt = rent.toInt * put.toInt / 100 := by
    unfold offJ
    rw [Int64.toInt_div, m4, show (100 : Int64).toInt = 100 from rfl, Int.tdiv_eq_ediv_of_nonneg m1]
    unfold Int.bmod; simp -implicitDefEqProofs only [Nat.reducePow]; split <;> omega
  rw [d1]
  exact ⟨by omega, by omega, r64 (by rw [d1]; exact ⟨by omega, by omega⟩)⟩
theorem py_c {h : Nat} {rent put : Int32} (hI : Iv c W) (hh : h < hn W) (h1 : rg rent 0 1599998400) (h2 : put = -1 ∨ rg put 0 100) : (0 ≤ (pyO W h rent put).toInt ∧ (pyO W h rent put).toInt ≤ 8000000000) ∧ 0 ≤ (pyP W h rent put).toInt ∧ (pyP W h rent put).toInt ≤ (W (1684 + 11 * h + 1)).toInt ∧ (pyP W h rent put).toInt ≤ (pyO W h rent put).toInt := by
  obtain ⟨-, c1, c2, c3, -⟩ := hI.2.2.2.2.1.2.2 h hh
  obtain ⟨c11, c12⟩ := c1
  obtain ⟨c21, c22⟩ := c2
  obtain ⟨c31, c32⟩ := c3
  have hD : 0 ≤ (pyD W h rent put).toInt ∧ (pyD W h rent put).toInt ≤ 3600000000 := by
    obtain ⟨a1, a2⟩ := h1
    unfold pyD
    rcases h2 with rfl | h2
    · rw [if_pos (by decide), a64 (by rw [w64, w64]; omega) (by rw [w64, w64]; omega), w64, w64]; omega
    · obtain ⟨o1, o2, -⟩ := off_c (rent := rent) (put := put) ⟨a1, a2⟩ h2
      have : ¬ put < 0 := by rw [Int32.lt_iff_toInt_lt, show (0 : Int32).toInt = 0 from rfl]; have := h2.1; omega
      rw [if_neg this, s64 (by rw [w64]; omega) (by rw [w64]; omega), w64]; omega
  have hO : (pyO W h rent put).toInt = (pyD W h rent put).toInt + (W (1684 + 11 * h + 2)).toInt := by
    unfold pyO; rw [a64 (by rw [w64]; omega) (by rw [w64]; omega), w64]
  refine ⟨⟨by omega, by omega⟩, ?_⟩
  unfold pyP
  by_cases q : pyO W h rent put < (W (1684 + 11 * h + 1)).toInt64
  · have q1 := q
    rw [Int64.lt_iff_toInt_lt, w64] at q1
    rw [if_pos q, ← w64, r64 ⟨by omega, by omega⟩]
    omega
  · have q1 := q
    rw [Int64.lt_iff_toInt_lt, w64] at q1
    rw [if_neg q, ← w64, r64 (by rw [w64]; exact ⟨by omega, by omega⟩), w64]
    omega
theorem py_k {h : Nat} {rent put : Int32} (hI : Iv c W) (hh : h < hn W) (h1 : rg rent 0 1599998400) (h2 : put = -1 ∨ rg put 0 100) : rg (kp ((W (1684 + 11 * h + 1)).toInt64 + (-pyP W h rent put).toInt64)) 0 2000000000 ∧ rg (kp (pyO W h rent put - (pyP W h rent put).toInt64)) 0 2000000000 ∧ (W (1684 + 11 * h + 1) - pyP W h rent put).toInt64 = (W (1684 + 11 * h + 1)).toInt64 + (-pyP W h rent put).toInt64 := by
  obtain ⟨⟨o1, o2⟩, p1, p2, p3⟩ := py_c hI hh h1 h2
  obtain ⟨-, ⟨c1, c2⟩, -⟩ := hI.2.2.2.2.1.2.2 h hh
  have e1 : (-pyP W h rent put).toInt = -(pyP W h rent put).toInt := n32 (by omega)
  have e2 : ((W (1684 + 11 * h + 1)).toInt64 + (-pyP W h rent put).toInt64).toInt = (W (1684 + 11 * h + 1)).toInt - (pyP W h rent put).toInt := by
    rw [a64 (by rw [w64, w64]; omega) (by rw [w64, w64]; omega), w64, w64, e1]; omega
  have e3 : (pyO W h rent put - (pyP W h rent put).toInt64).toInt = (pyO W h rent put).toInt - (pyP W h rent put).toInt := by
    rw [s64 (by rw [w64]; omega) (by rw [w64]; omega), w64]
  refine ⟨?_, ?_, ?_⟩
  · unfold rg; rw [kp_toInt, e2]; omega
  · unfold rg; rw [kp_toInt, e3]; omega
  · apply Int64.toInt_inj.mp
    rw [w64, s32 (by omega) (by omega), e2]
theorem jPy {h : Nat} {rent put : Int32} (hI : Iv c W) (hh : h < hn W) (h1 : rg rent 0 1599998400) (h2 : put = -1 ∨ rg put 0 100) : Iv c (pyA W h rent put) ∧ hn (pyA W h rent put) = hn W := by
  have h24 := hI.2.2.2.2.1.2.1
  obtain ⟨-, -, -, c3, -⟩ := hI.2.2.2.2.1.2.2 h hh
  unfold pyA
  rcases h2 with rfl | h2
  · rw [if_pos (by decide)]
    exact ⟨jH_3 hI hh (by unfold rg; decide), hn_u (by omega)⟩
  · have q : ¬ put < 0 := by rw [Int32.lt_iff_toInt_lt, show (0 : Int32).toInt = 0 from rfl]; have := h2.1; omega
    obtain ⟨o1, o2, -⟩ := off_c h1 h2
    have := h1.2
    rw [if_neg q]
    exact ⟨jH_3 hI hh (kp_add c3 o1 (by omega)), hn_a (by omega)⟩
theorem min64 (a b : Int64) : (if a < b then a else b) = if b < a then b else a := by
  apply Int64.toInt_inj.mp
  by_cases h1 : a < b
  · rw [if_pos h1, if_neg (fun q => by rw [Int64.lt_iff_toInt_lt] at h1 q; omega)]
  · rw [if_neg h1]
    by_cases h2 : b < a
    · rw [if_pos h2]
    · rw [if_neg h2]
      rw [Int64.lt_iff_toInt_lt] at h1 h2
      omega
theorem c_rent88 {h g : Nat} {rent put x4 : Int32} {j2 : Int64} {o7 o8 o9 : Option Value} (hI : Iv c W) (hT : Ti c k E T A (pyA W h rent put)) (hh : h < hn W) (h1 : rg rent 0 1599998400) (h2 : put = -1 ∨ rg put 0 100) : ∃ A', bd S (ex S (d + 4)) dflT E_X10_takeRent (g + 1) 88 [some (.ref 38), some (.int (nI h)), some (.long j2), none, some (.int x4), some (.long (pyD W h rent put)), none, o7, o8, o9] [] (Hh k E A L T) = some (.inl none, Hh k E A' L T) ∧ Ti c k E T A' (pyW W h rent put) ∧ Fr A A' := by
  obtain ⟨jA, hnA⟩ := jPy hI hh h1 h2
  obtain ⟨k1, k2, k3⟩ := py_k hI hh h1 h2
  have hhA : h < hn (pyA W h rent put) := by rw [hnA]; exact hh
  have hC := Ti_C hT hhA
  have h24 := Ti_24 hT hhA
  have a1 : pyA W h rent put (1684 + 11 * h + 1) = W (1684 + 11 * h + 1) := pyA_o (by omega)
  have a2 : pyA W h rent put (1684 + 11 * h + 2) = W (1684 + 11 * h + 2) := pyA_o (by omega)
  have t1 := Ti_H1 (x := kp ((pyA W h rent put (1684 + 11 * h + 1)).toInt64 + (-pyP W h rent put).toInt64)) hT hhA (by rw [a1]; exact k1)
  have t2 := Ti_H2 (h := h) (x := kp (pyO W h rent put - (pyP W h rent put).toInt64)) t1 (by rw [hn_u (by omega)]; exact hhA) k2
  obtain ⟨A', r1, r2, r3⟩ := c_receive (S := S) (d := d) (L := L) (h := h) (x := pyP W h rent put) t2 (by rw [hn_u (by omega), hn_u (by omega)]; exact hhA)
  refine ⟨A', ?_, r2, Fr_tr (Fr_tr (Fr_up (by decide) (by decide)) (Fr_up (by decide) (by decide))) r3⟩
  have ec : (if (0 : Int32) < W (1684 + 11 * h + 1) then W (1684 + 11 * h + 1) else 0) = W (1684 + 11 * h + 1) := by
    split
    · rfl
    · rename_i q
      rw [Int32.lt_iff_toInt_lt, show (0 : Int32).toInt = 0 from rfl] at q
      have := (hI.2.2.2.2.1.2.2 h hh).2.1.1
      apply i32_ext
      rw [show (0 : Int32).toInt = 0 from rfl]; omega
  have eo : (W (1684 + 11 * h + 2)).toInt64 + pyD W h rent put = pyO W h rent put := Int64.add_comm _ _
  have ep : (if (W (1684 + 11 * h + 1)).toInt64 < pyO W h rent put then (W (1684 + 11 * h + 1)).toInt64 else pyO W h rent put).toInt32 = pyP W h rent put := by rw [min64]; rfl
  rw [g_X10_takeRent_88]
  simp -implicitDefEqProofs only [hv_38_2, hc_11, gH_3 hC h24, gH_2 hC h24, q_I, a1, a2, ec, eo, ep, tw_g2 h24, hC.2.2.1, q_U, c_capped, q_Ix, ts_3 h24, hc_38]
  rw [a1] at r1
  rw [r1]
  simp -implicitDefEqProofs only [q_U]
theorem c_takeRent {h : Nat} (hT : Ti c k E T A W) (hh : h < hn W) (hk : W (1684 + 11 * h + 0) = 0 ∨ W (1684 + 11 * h + 0) = 1) : ∃ A' L', ex S (d + 5) 205 [.ref 38, .int (nI h)] (Hh k E A L T) = some (.inl none, Hh k E A' L' T) ∧ Ti c k E T A' (pyW W h (rlW W h) (puW W h)) ∧ Fr A A' := by
  obtain ⟨hI, h0, hO⟩ := id hT
  have h2 := Ti_24 hT hh
  obtain ⟨nl, nc, hw⟩ := (hI.2.2.2.2.1.2.2 h hh).2.2.2.2.2.2.2.2.2.2 hk
  have hrl := (rl_rg (h := h) hI hw).1
  have hpu : puW W h = -1 ∨ rg (puW W h) 0 100 := by unfold puW; rw [lnT_eq hw]; exact pu_rg hw (Nat.le_refl _)
  obtain ⟨L1, e1, -⟩ := c_rentOf (S := S) (d := d) (L := L) hI h0 (Ti_36 hT) hh hk
  have t1 := Ti_lp hT
  have fr1 : Fr A (upR A 36 (prR W (A 36) (pn W))) := Fr_36
  generalize upR A 36 (prR W (A 36) (pn W)) = A1 at *
  obtain ⟨L2, e3⟩ := c_put (S := S) (d := d) (L := L1) t1.1 t1.2.1 (Ti_36 t1) hh hk
  have e2 := c_harm (S := S) (d := d) (L := L1) t1 hh hk
  have t2 := Ti_lp t1
  have fr2 : Fr A1 (upR A1 36 (prR W (A1 36) (pn W))) := Fr_36
  generalize upR A1 36 (prR W (A1 36) (pn W)) = A2 at *
  have hC := Ti_C t2 hh
  have erl : (if (0 : Int32) < rnW W h - hmW W h then rnW W h - hmW W h else 0) = rlW W h := rfl
  rw [x_X10_takeRent, g_X10_takeRent_0]
  simp -implicitDefEqProofs only [hv_38_0, hc_4, e1, q_I, hc_38, e2, e3, erl]
  obtain ⟨jA, hnA⟩ := jPy hI hh hrl hpu
  rcases hpu with hp | hp
  · have ea : pyA W h (rlW W h) (puW W h) = upd W (1684 + 11 * h + 3) 0 := by unfold pyA; rw [if_pos (by rw [hp]; decide)]
    have ed : pyD W h (rlW W h) (puW W h) = (rlW W h).toInt64 + (W (1684 + 11 * h + 3)).toInt64 := by unfold pyD; rw [if_pos (by rw [hp]; decide)]
    have t3 := Ti_H3 (x := 0) t2 hh (by unfold rg; decide)
    rw [← ea] at t3
    obtain ⟨A', z1, z2, z3⟩ := c_rent88 (S := S) (d := d) (L := L2) (g := 99998) (x4 := puW W h) (j2 := (rlW W h).toInt64) (o7 := none) (o8 := none) (o9 := none) hI t3 hh hrl (Or.inl hp)
    rw [if_pos hp]
    simp -implicitDefEqProofs only [hv_38_2, hc_11, gH_4 hC h2, q_I, ts_4 h2, q_U]
    rw [← ed, z1]
    exact ⟨A', L2, rfl, z2, Fr_tr (Fr_tr (Fr_tr fr1 fr2) (Fr_up (by decide) (by decide))) z3⟩
  · have hp0 : ¬ puW W h < 0 := by rw [Int32.lt_iff_toInt_lt, show (0 : Int32).toInt = 0 from rfl]; have := hp.1; omega
    have hp1 : ¬ puW W h = -1 := fun q => hp0 (by rw [q]; decide)
    have ea : pyA W h (rlW W h) (puW W h) = adW W (1684 + 11 * h + 3) (offJ (rlW W h) (puW W h)) := by unfold pyA; rw [if_neg hp0]
    have ed : pyD W h (rlW W h) (puW W h) = (rlW W h).toInt64 - offJ (rlW W h) (puW W h) := by unfold pyD; rw [if_neg hp0]
    obtain ⟨o1, o2, -⟩ := off_c hrl hp
    have := hrl.2
    have t3 := Ti_H3 (x := kp ((W (1684 + 11 * h + 3)).toInt64 + offJ (rlW W h) (puW W h))) t2 hh (kp_add (hI.2.2.2.2.1.2.2 h hh).2.2.2.1 o1 (by omega))
    have t3' : Ti c k E T (up A2 12 (96 + h) (kp ((W (1684 + 11 * h + 3)).toInt64 + offJ (rlW W h) (puW W h)))) (pyA W h (rlW W h) (puW W h)) := by rw [ea]; exact t3
    obtain ⟨A', z1, z2, z3⟩ := c_rent88 (S := S) (d := d) (L := L2) (g := 99998) (x4 := puW W h) (j2 := (rlW W h).toInt64) (o7 := some (.long (offJ (rlW W h) (puW W h)))) (o8 := none) (o9 := none) hI t3' hh hrl (Or.inr hp)
    rw [if_neg hp1]
    have eo : (rlW W h).toInt64 * (puW W h).toInt64 / 100 = offJ (rlW W h) (puW W h) := rfl
    simp -implicitDefEqProofs only [dvJ_100, hv_38_2, hc_11, eo, tw_g4 h2, hC.2.2.2.2.1, q_U]
    rw [← ed, z1]
    exact ⟨A', L2, rfl, z2, Fr_tr (Fr_tr (Fr_tr fr1 fr2) (Fr_up (by decide) (by decide))) z3⟩
/-- autumn, at a holding -/
def auF (W : fW) (h : Nat) : fW := if fo W h = 0 then W else if letW W h = 0 then (if W (1684 + 11 * h + 0) = 5 then reW W h (W (1684 + 11 * h + 9)).toInt64 else W) else pyW W h (rlW W h) (puW W h)
theorem au_hn {h : Nat} (hI : Iv c W) (hh : h < hn W) : hn (auF W h) = hn W := by
  have h24 := hI.2.2.2.2.1.2.1
  unfold auF
  split
  · rfl
  · split
    · split
      · unfold reW; rw [hn_a (by omega), hn_a (by omega)]
      · rfl
    · unfold pyW reW pyB pyA
      rw [hn_a (by omega), hn_a (by omega), hn_u (by omega), hn_a (by omega)]
      split
      · exact hn_u (by omega)
      · exact hn_a (by omega)
theorem c_autumn (hT : Ti c k E T A W) : ∃ A' L', ex S (d + 6) 206 [.ref 38] (Hh k E A L T) = some (.inl none, Hh k E A' L' T) ∧ Ti c k E T A' (itW auF (hn W) W) ∧ Fr A A' := by
  have h24 := hT.1.2.2.2.2.1.2.1
  rw [x_X10_autumn, g_X10_autumn_0]
  refine loop_QK (K := 2) (α := fA × fL) (F := fun g i s => bd S (ex S (d + 5)) dflT E_X10_autumn g 2 [some (.ref 38), some (.int (nI i))] [] (Hh k E s.1 s.2 T)) (N := hn W) (P := fun i s => Ti c k E T s.1 (itW auF i W) ∧ Fr A s.1 ∧ hn (itW auF i W) = hn W) (Q := fun r => ∃ A' L', r = some (.inl none, Hh k E A' L' T) ∧ Ti c k E T A' (itW auF (hn W) W) ∧ Fr A A') ?_ ?_ (s := (A, L)) ⟨hT, Fr_refl, rfl⟩ (by omega)
  · rintro g h ⟨B, M⟩ hh ⟨hB, hFr, hN⟩
    simp only at hB hFr
    right
    have ei : itW auF (h + 1) W = auF (itW auF h W) h := rfl
    rw [ei]
    generalize itW auF h W = V at *
    obtain ⟨hI, h0, hO⟩ := id hB
    have hhV : h < hn V := by rw [hN]; exact hh
    have h2 := Ti_24 hB hhV
    have hC := Ti_C hB hhV
    have hH := hI.2.2.2.2.1.2.2 h hhV
    have l1 : B 11 0 = nI (hn W) := by rw [← hN]; exact h0.2.2.2.2.2.2.1.1.trans hI.2.2.2.2.1.1
    have g0 : ¬ nI (hn W) ≤ nI h := nI_ge hh (by omega)
    have hN' := (au_hn hI hhV).trans hN
    unfold auF at hN'
    rw [show g + 2 = (g + 1) + 1 from rfl, g_X10_autumn_2]
    simp -implicitDefEqProofs only [hv_38_2, hg_11_0, l1, if_neg g0, hc_11, c_isOver hC h2, q_I]
    unfold auF
    by_cases q0 : fo V h = 0
    · rw [if_pos q0] at hN' ⊢
      rw [show overW V h = 1 from if_pos q0, if_neg (by decide), g_X10_autumn_43]
      simp -implicitDefEqProofs only [hv_38_2, hc_11, c_isOver hC h2, q_I, show overW V h = 1 from if_pos q0, i1_0, if_false, nI_p1]
      exact ⟨(B, M), g, Nat.le_refl _, rfl, hB, hFr, hN'⟩
    · rw [if_neg q0] at hN' ⊢
      have eo : overW V h = 0 := if_neg q0
      rw [eo, if_pos rfl]
      simp -implicitDefEqProofs only [hv_38_2, hc_11, c_isLet hC hH h2, q_I]
      rcases let_c hH with ⟨l1, l2⟩ | ⟨l1, l2⟩
      · rw [l1] at hN' ⊢
        rw [if_neg (by decide)] at hN'
        rw [if_neg (show ¬ (1 : Int32) = 0 by decide), if_neg (show ¬ (1 : Int32) = 0 by decide)]
        obtain ⟨A', L', z1, z2, z3⟩ := c_takeRent (S := S) (d := d) (L := M) hB hhV l2
        simp -implicitDefEqProofs only [hc_38, z1, q_U, nI_p1]
        exact ⟨(A', L'), g + 1, by omega, rfl, z2, Fr_tr hFr z3, hN'⟩
      · rw [l1] at hN' ⊢
        rw [if_pos rfl] at hN' ⊢
        rw [if_pos rfl, g_X10_autumn_43]
        simp -implicitDefEqProofs only [hv_38_2, hc_11, c_isOver hC h2, q_I, eo, if_true, gH_0 hC h2]
        by_cases q5 : V (1684 + 11 * h + 0) = 5
        · rw [if_pos q5] at hN' ⊢
          rw [if_pos q5]
          obtain ⟨A', z1, z2, z3⟩ := c_receive (S := S) (d := d + 1) (L := M) (x := V (1684 + 11 * h + 9)) hB hhV
          simp -implicitDefEqProofs only [hv_38_2, hc_11, gH_11 hC h2 (Or.inr q5), q_I, hc_38, z1, q_U, nI_p1]
          exact ⟨(A', M), g, Nat.le_refl _, rfl, z2, Fr_tr hFr z3, hN'⟩
        · rw [if_neg q5] at hN' ⊢
          rw [if_neg q5, nI_p1]
          exact ⟨(B, M), g, Nat.le_refl _, rfl, hB, hFr, hN'⟩
  · rintro g ⟨B, M⟩ ⟨hB, hFr, hN⟩
    simp only at hB hFr
    have l1 : B 11 0 = nI (hn W) := by rw [← hN]; exact hB.2.1.2.2.2.2.2.2.1.1.trans hB.1.2.2.2.2.1.1
    rw [show g + 2 = (g + 1) + 1 from rfl, g_X10_autumn_2]
    simp -implicitDefEqProofs only [hv_38_2, hg_11_0, l1, if_pos (Int32.le_refl (nI (hn W)))]
    exact ⟨B, M, rfl, hB, hFr⟩
end YearF
