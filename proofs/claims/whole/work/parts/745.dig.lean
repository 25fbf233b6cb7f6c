/-! winter: the mines are dug -/
section YearI
variable {S : sT} {d c : Nat} {k : Value} {E : List dsc} {A : fA} {L : fL} {T : fT} {W : fW}
/-- the class's estate is tied -/
def Tj (c : Nat) (k : Value) (E : List dsc) (T : fT) (A : fA) (W : fW) : Prop := Iv c W ∧ LkA 4 k E A T W ∧ A 36 0 = 0 ∧ A 36 5 = 0
theorem Ti_j (h : Ti c k E T A W) : Tj c k E T A W := ⟨h.1, h.2.1, (Ti_36 h).1, (Ti_36 h).2⟩
theorem Tj_up {A' : fA} {V : fW} (h : Tj c k E T A W) (hI : Iv c V) (hL : LkA 4 k E A' T V) (hF : Fr A A') : Tj c k E T A' V := ⟨hI, hL, hF.2.1.trans h.2.2.1, hF.2.2.trans h.2.2.2⟩
theorem Tj_C {h : Nat} (hT : Tj c k E T A W) (hh : h < hn W) : LkC (A 12) W h := hT.2.1.2.2.2.2.2.2.1.2.1 h hh
theorem Tj_24 {h : Nat} (hT : Tj c k E T A W) (hh : h < hn W) : h < 24 := by have := hT.1.2.2.2.2.1.2.1; omega
/-- so many of the first fields are of a holding -/
def cnH (W : fW) (h n : Nat) : Nat := cntF (fun f => decide (W (8 + 14 * f + 10) = nI h)) n
theorem cnH_s {h n : Nat} : cnH W h (n + 1) = cnH W h n + (if W (8 + 14 * n + 10) = nI h then 1 else 0) := by
  show cntF (fun f => decide (W (8 + 14 * f + 10) = nI h)) n + (if decide (W (8 + 14 * n + 10) = nI h) = true then 1 else 0) = cntF (fun f => decide (W (8 + 14 * f + 10) = nI h)) n + _
  by_cases q : W (8 + 14 * n + 10) = nI h
  · simp [q]
  · simp [q]
theorem cnH_le {h n : Nat} : cnH W h n ≤ n := cntF_le _ _
def m9 (x : Int32) : Int32 := if x < 9 then x else 9
/-- a holding's field of a turn sinks -/
def snkN (W : fW) (h t : Nat) : Nat → fW
  | 0 => W
  | f + 1 => if W (8 + 14 * f + 10) = nI h ∧ cnH W h f = t then upd (snkN W h t f) (8 + 14 * f + 8) (m9 (snkN W h t f (8 + 14 * f + 8) + 1)) else snkN W h t f
theorem snk_o {h t n i : Nat} (hn : n ≤ 48) (hi : i < 8 ∨ 680 ≤ i ∨ ∀ f, i ≠ 8 + 14 * f + 8) : snkN W h t n i = W i := by
  induction n with
  | zero => rfl
  | succ n ih =>
    unfold snkN
    split
    · rw [upd_o (by rcases hi with hi | hi | hi <;> first | omega | exact hi n)]; exact ih (by omega)
    · exact ih (by omega)
theorem m9_rg {x : Int32} (h : rg x 0 9) : rg (m9 (x + 1)) 0 9 := by
  obtain ⟨n, hn, hn2, rfl⟩ := rg_of (b := 9) h
  rw [nI_p1]
  unfold m9
  by_cases q : n + 1 < 9
  · rw [if_pos (show nI (n + 1) < 9 from nI_lt (b := 9) q (by decide))]; exact rg_nI (by omega) (by omega)
  · rw [if_neg (show ¬ nI (n + 1) < 9 from nI_nlt (b := 9) (by omega) (by omega))]; unfold rg; decide
theorem jSk {h t n : Nat} (hI : Iv c W) (hn : n ≤ 48) : Iv c (snkN W h t n) := by
  induction n with
  | zero => exact hI
  | succ n ih =>
    have := ih (by omega)
    unfold snkN
    split
    · exact jL_8 this (by omega) (m9_rg (this.2.1 n (by omega)).2.2.2.2.2.2.2.2.1)
    · exact this
theorem c_sink {h t : Nat} (hT : Tj c k E T A W) (h31 : h < 2 ^ 31) (ht : t < 2 ^ 30) : ∃ A', ex S (d + 3) 213 [.ref 38, .int (nI h), .int (nI t)] (Hh k E A L T) = some (.inl none, Hh k E A' L T) ∧ Tj c k E T A' (snkN W h t 48) ∧ Fr A A' := by
  rw [x_X10_sink, g_X10_sink_0]
  refine loop_Q (α := fA) (F := fun g i B => bd S (ex S (d + 2)) dflT E_X10_sink g 5 [some (.ref 38), some (.int (nI h)), some (.int (nI t)), some (.int (nI (cnH W h i))), some (.int (nI i))] [] (Hh k E B L T)) (N := 48) (P := fun i B => Tj c k E T B (snkN W h t i) ∧ Fr A B) (Q := fun r => ∃ A', r = some (.inl none, Hh k E A' L T) ∧ Tj c k E T A' (snkN W h t 48) ∧ Fr A A') ?_ ?_ (s := A) ⟨hT, Fr_refl⟩ (by decide)
  · rintro g f B hf ⟨hB, hFr⟩
    right
    have g0 : ¬ (48 : Int32) ≤ nI f := nI_ge (b := 48) hf (by decide)
    have e10 : snkN W h t f (8 + 14 * f + 10) = W (8 + 14 * f + 10) := snk_o (by omega) (Or.inr (Or.inr (fun g => by omega)))
    have hc := cnH_le (W := W) (h := h) (n := f)
    have es : snkN W h t (f + 1) = if W (8 + 14 * f + 10) = nI h ∧ cnH W h f = t then upd (snkN W h t f) (8 + 14 * f + 8) (m9 (snkN W h t f (8 + 14 * f + 8) + 1)) else snkN W h t f := rfl
    rw [es]
    generalize snkN W h t f = V at *
    obtain ⟨hI, h0, -⟩ := id hB
    have hL : LkL (B 10) V := h0.2.1
    have em : ∀ x : Int32, (if x < 9 then x else 9) = m9 x := fun x => rfl
    rw [g_X10_sink_5]
    simp -implicitDefEqProofs only [if_neg g0, hv_38_1, hc_9, gL_10 hL hf, e10, q_I]
    by_cases q : W (8 + 14 * f + 10) = nI h
    · have ec : cnH W h (f + 1) = cnH W h f + 1 := by rw [cnH_s, if_pos q]
      rw [if_pos q, ec]
      by_cases q2 : cnH W h f = t
      · rw [if_pos (show nI (cnH W h f) = nI t by rw [q2]), if_pos ⟨q, q2⟩]
        simp -implicitDefEqProofs only [hv_38_1, hc_9, gL_8 hL hf, q_I, em, ls_8 hf, q_U, nI_p1]
        have hf8 : Fr B (up B 10 (384 + f) (m9 (V (8 + 14 * f + 8) + 1))) := Fr_up (by decide) (by decide)
        exact ⟨_, rfl, Tj_up hB (jL_8 hI hf (m9_rg (hI.2.1 f hf).2.2.2.2.2.2.2.2.1)) (kL_8 hI hf h0) hf8, Fr_tr hFr hf8⟩
      · rw [if_neg (show ¬ nI (cnH W h f) = nI t from fun z => q2 ((nI_eq (by omega) (by omega)).mp z)), if_neg (fun z => q2 z.2), nI_p1, nI_p1]
        exact ⟨B, rfl, hB, hFr⟩
    · have ec : cnH W h (f + 1) = cnH W h f := by rw [cnH_s, if_neg q]; rfl
      rw [if_neg q, ec, if_neg (fun z => q z.1), nI_p1]
      exact ⟨B, rfl, hB, hFr⟩
  · rintro g B ⟨hB, hFr⟩
    rw [g_X10_sink_5, if_pos (by decide)]
    exact ⟨B, rfl, hB, hFr⟩
/-- so many turns from turn b on; m fields -/
def dkN (W : fW) (h m b : Nat) : Nat → fW
  | 0 => W
  | n + 1 => snkN (dkN W h m b n) h ((b + n) % m) 48
theorem dk_o {h m b n i : Nat} (hi : i < 8 ∨ 680 ≤ i ∨ ∀ f, i ≠ 8 + 14 * f + 8) : dkN W h m b n i = W i := by
  induction n with
  | zero => rfl
  | succ n ih => unfold dkN; rw [snk_o (Nat.le_refl _) hi]; exact ih
theorem jDk {h m b n : Nat} (hI : Iv c W) : Iv c (dkN W h m b n) := by
  induction n with
  | zero => exact hI
  | succ n ih => exact jSk ih (Nat.le_refl _)
/-- what is dug and what comes of it -/
def coM (W : fW) (h : Nat) : Int32 := W (1684 + 11 * h + 9) * W (1684 + 11 * h + 10)
def dgA (W : fW) (h : Nat) : fW := adW (adW W (1684 + 11 * h + 6) (W (1684 + 11 * h + 9)).toInt64) (1684 + 11 * h + 5) (coM W h).toInt64
def dgB (W : fW) (h : Nat) : fW := comW (dgA W h) 3 (coM W h)
def tnB (W : fW) (h : Nat) : Nat := (W (1684 + 11 * h + 6)).toNatClampNeg / 100
def dgF (W : fW) (h : Nat) : fW := if W (1684 + 11 * h + 0) = 4 ∧ ¬ fo W h = 0 then dkN (dgB W h) h (fo W h) (tnB W h) (tnB (dgB W h) h - tnB W h) else W
theorem dgB_6 {h : Nat} : dgB W h (1684 + 11 * h + 6) = kp ((W (1684 + 11 * h + 6)).toInt64 + (W (1684 + 11 * h + 9)).toInt64) := by
  unfold dgB dgA
  rw [com_o (by omega) (by omega), ad_o (by omega), ad_s]
theorem tons_c {h : Nat} (hI : Iv c W) (hh : h < hn W) (hk : W (1684 + 11 * h + 0) = 4) : ∃ n m, n ≤ 2000000000 ∧ m ≤ n + 2000 ∧ n ≤ m ∧ m ≤ 2000000000 ∧ W (1684 + 11 * h + 6) = nI n ∧ dgB W h (1684 + 11 * h + 6) = nI m ∧ (W (1684 + 11 * h + 6) + W (1684 + 11 * h + 9)).toInt64 = (W (1684 + 11 * h + 6)).toInt64 + (W (1684 + 11 * h + 9)).toInt64 := by
  obtain ⟨-, -, -, -, -, c6, -, -, c9, -, -⟩ := hI.2.2.2.2.1.2.2 h hh
  obtain ⟨t1, t2⟩ := c9 (Or.inl hk)
  obtain ⟨s1, s2⟩ := c6
  have e1 : ((W (1684 + 11 * h + 6)).toInt64 + (W (1684 + 11 * h + 9)).toInt64).toInt = (W (1684 + 11 * h + 6)).toInt + (W (1684 + 11 * h + 9)).toInt := by
    rw [a64 (by rw [w64, w64]; omega) (by rw [w64, w64]; omega), w64, w64]
  obtain ⟨n, hn1, hn2, en⟩ := rg_of (b := 2000000000) (x := W (1684 + 11 * h + 6)) ⟨s1, s2⟩
  have r6 : rg (dgB W h (1684 + 11 * h + 6)) 0 2000000000 := by
    rw [dgB_6]; unfold rg; rw [kp_toInt, e1]; omega
  obtain ⟨m, hm1, hm2, em⟩ := rg_of (b := 2000000000) r6
  have nv : (W (1684 + 11 * h + 6)).toInt = n := by rw [en, nI_toInt hn2]
  have mv : (dgB W h (1684 + 11 * h + 6)).toInt = m := by rw [em, nI_toInt hm2]
  rw [dgB_6, kp_toInt, e1] at mv
  refine ⟨n, m, hn1, by omega, by omega, hm1, en, em, ?_⟩
  apply Int64.toInt_inj.mp
  rw [w64, a32 (by omega) (by omega), e1]
theorem jDgA {h : Nat} (hI : Iv c W) (hh : h < hn W) (hk : W (1684 + 11 * h + 0) = 4) : Iv c (adW W (1684 + 11 * h + 6) (W (1684 + 11 * h + 9)).toInt64) ∧ Iv c (dgA W h) := by
  have h24 := hI.2.2.2.2.1.2.1
  obtain ⟨-, -, -, -, -, c6, -, -, c9, -, -⟩ := hI.2.2.2.2.1.2.2 h hh
  obtain ⟨t1, t2⟩ := c9 (Or.inl hk)
  have j1 : Iv c (adW W (1684 + 11 * h + 6) (W (1684 + 11 * h + 9)).toInt64) := jH_6 hI hh (kp_add c6 (by rw [w64]; exact t1) (by rw [w64]; omega))
  exact ⟨j1, jH_5 j1 (by rw [hn_a (by omega)]; exact hh) (kp_rg _)⟩
theorem fo_dg {h : Nat} (hh : h < 24) : fo (dgB W h) h = fo W h := by
  refine fo_congr (fun f hf => ?_) h
  unfold dgB dgA
  rw [com_o (by omega) (by omega), ad_o (by omega), ad_o (by omega)]
theorem hn_dg {h : Nat} (hh : h < 24) : hn (dgB W h) = hn W := by
  refine hn_c ?_
  unfold dgB dgA
  rw [com_o (by omega) (by omega), ad_o (by omega), ad_o (by omega)]
theorem dg_hn {h : Nat} (hh : h < 24) : hn (dgF W h) = hn W := by
  unfold dgF
  split
  · rw [hn_c (V := dkN _ _ _ _ _) (W := dgB W h) (dk_o (by omega)), hn_dg hh]
  · rfl
theorem jDg {h : Nat} (hI : Iv c W) (hh : h < hn W) : Iv c (dgF W h) := by
  unfold dgF
  split
  · rename_i q
    exact jDk (jCom (jDgA hI hh q.1).2)
  · exact hI
theorem c_dig {h : Nat} (hT : Tj c k E T A W) (hh : h < hn W) (hk : W (1684 + 11 * h + 0) = 4) (hf : ¬ fo W h = 0) : ∃ A', ex S (d + 5) 214 [.ref 38, .int (nI h)] (Hh k E A L T) = some (.inl none, Hh k E A' L T) ∧ Tj c k E T A' (dgF W h) ∧ Fr A A' := by
  obtain ⟨hI, h0, h36⟩ := id hT
  have h2 := Tj_24 hT hh
  have hC := Tj_C hT hh
  obtain ⟨j1, j2⟩ := jDgA hI hh hk
  have k1 := kH_8 (x := kp ((W (1684 + 11 * h + 6)).toInt64 + (W (1684 + 11 * h + 9)).toInt64)) hI hh h0
  have hn1 : hn (adW W (1684 + 11 * h + 6) (W (1684 + 11 * h + 9)).toInt64) = hn W := hn_a (by omega)
  have hC1 : LkC (up A 12 (192 + h) (kp ((W (1684 + 11 * h + 6)).toInt64 + (W (1684 + 11 * h + 9)).toInt64)) 12) (adW W (1684 + 11 * h + 6) (W (1684 + 11 * h + 9)).toInt64) h := k1.2.2.2.2.2.2.1.2.1 h (by show h < hn (adW W (1684 + 11 * h + 6) (W (1684 + 11 * h + 9)).toInt64); rw [hn1]; exact hh)
  have k2 := kH_7 (h := h) (x := kp (((adW W (1684 + 11 * h + 6) (W (1684 + 11 * h + 9)).toInt64) (1684 + 11 * h + 5)).toInt64 + (coM W h).toInt64)) j1 (by rw [hn1]; exact hh) k1
  obtain ⟨A3, r3, k3, f3⟩ := c_takeIn (S := S) (d := d) (L := L) (th := 3) (x := coM W h) j2 k2
  rw [show (3 : Int32) + 12 = 15 from rfl] at r3
  have j3 : Iv c (dgB W h) := jCom j2
  have fr3 : Fr A A3 := Fr_tr (Fr_tr (Fr_up (by decide) (by decide)) (Fr_up (by decide) (by decide))) f3
  have t3 : Tj c k E T A3 (dgB W h) := Tj_up hT j3 k3 fr3
  have hh3 : h < hn (dgB W h) := by rw [hn_dg h2]; exact hh
  have hC3 := Tj_C t3 hh3
  obtain ⟨n, m, n1, m1, m2, m3, en, em, -⟩ := tons_c hI hh hk
  have fl := fo_lt W h
  have fm : fo W h ≤ 48 := cntF_le _ _
  have eb : tnB W h = n / 100 := by unfold tnB; rw [en, nI_clamp (by omega)]
  have ee : tnB (dgB W h) h = m / 100 := by unfold tnB; rw [em, nI_clamp (by omega)]
  have g11 := gH_11 (S := S) (d := d + 2) (k := k) (E := E) (L := L) (T := T) hC h2 (Or.inl hk)
  have g12 := gH_12 (S := S) (d := d + 2) (k := k) (E := E) (L := L) (T := T) hC h2 hk
  have eF : dgF W h = dkN (dgB W h) h (fo W h) (n / 100) (m / 100 - n / 100) := by unfold dgF; rw [if_pos ⟨hk, hf⟩, eb, ee]
  rw [x_X10_dig, g_X10_dig_0, eF]
  have ec : W (1684 + 11 * h + 9) * W (1684 + 11 * h + 10) = coM W h := rfl
  have d1 : W (1684 + 11 * h + 6) / 100 = nI (n / 100) := by rw [en, show (100 : Int32) = nI 100 from rfl, pk_div (by omega) (by decide) (by decide)]
  have d2 : nI m / 100 = nI (m / 100) := by rw [show (100 : Int32) = nI 100 from rfl, pk_div (by omega) (by decide) (by decide)]
  simp -implicitDefEqProofs only [hv_38_2, hc_11, g11, g12, gH_8 hC h2, q_I, dv_100, tw_g8 h2, hC.2.2.2.2.2.2.2.2.1, q_U, ec, tw_g7 h2, hC1.2.2.2.2.2.2.2.1, hv_38_0, hc_4, r3, gH_1 hC3 h2, fo_dg h2, d1]
  refine loop_Q (α := fA) (F := fun g i B => bd S (ex S (d + 4)) dflT E_X10_dig g 88 [some (.ref 38), some (.int (nI h)), some (.int (W (1684 + 11 * h + 9))), some (.int (coM W h)), some (.int (nI (n / 100))), some (.int (nI (fo W h))), some (.int (nI (n / 100 + i)))] [] (Hh k E B L T)) (N := m / 100 - n / 100) (P := fun i B => Tj c k E T B (dkN (dgB W h) h (fo W h) (n / 100) i) ∧ Fr A B) (Q := fun r => ∃ A', r = some (.inl none, Hh k E A' L T) ∧ Tj c k E T A' (dkN (dgB W h) h (fo W h) (n / 100) (m / 100 - n / 100)) ∧ Fr A A') ?_ ?_ (s := A3) ⟨t3, fr3⟩ (m := 99999) (by omega)
  · rintro g i B hi ⟨hB, hFr⟩
    right
    have e6 : dkN (dgB W h) h (fo W h) (n / 100) i (1684 + 11 * h + 6) = nI m := by rw [dk_o (by omega)]; exact em
    have hnV : hn (dkN (dgB W h) h (fo W h) (n / 100) i) = hn W := by rw [hn_c (V := dkN _ _ _ _ _) (W := dgB W h) (dk_o (by omega)), hn_dg h2]
    rw [show dkN (dgB W h) h (fo W h) (n / 100) (i + 1) = snkN (dkN (dgB W h) h (fo W h) (n / 100) i) h ((n / 100 + i) % fo W h) 48 from rfl]
    generalize dkN (dgB W h) h (fo W h) (n / 100) i = V at *
    have hCV := Tj_C hB (h := h) (by rw [hnV]; exact hh)
    have hmod : (n / 100 + i) % fo W h < fo W h := Nat.mod_lt _ (by omega)
    obtain ⟨A', z1, z2, z3⟩ := c_sink (S := S) (d := d + 1) (L := L) (h := h) (t := (n / 100 + i) % fo W h) hB (by omega) (by omega)
    have g8 := gH_8 (S := S) (d := d + 2) (k := k) (E := E) (L := L) (T := T) hCV h2
    rw [e6] at g8
    rw [g_X10_dig_88]
    simp -implicitDefEqProofs only [hv_38_2, hc_11, g8, q_I, dv_100, d2, if_neg (show ¬ nI (m / 100) ≤ nI (n / 100 + i) from nI_ge (by omega) (by omega)), if_neg (show ¬ nI (fo W h) ≤ 0 from nI_ge (a := 0) (by omega) fl), dv_ne (show nI (fo W h) ≠ 0 from fun z => hf ((nI_eq (b := 0) fl (by decide)).mp z)), pk_rem (show n / 100 + i < 2 ^ 31 by omega) (show 0 < fo W h by omega) fl, hc_38, z1, q_U, nI_p1]
    exact ⟨A', rfl, z2, Fr_tr hFr z3⟩
  · rintro g B ⟨hB, hFr⟩
    have e6 : dkN (dgB W h) h (fo W h) (n / 100) (m / 100 - n / 100) (1684 + 11 * h + 6) = nI m := by rw [dk_o (by omega)]; exact em
    have hnV : hn (dkN (dgB W h) h (fo W h) (n / 100) (m / 100 - n / 100)) = hn W := by rw [hn_c (V := dkN _ _ _ _ _) (W := dgB W h) (dk_o (by omega)), hn_dg h2]
    generalize dkN (dgB W h) h (fo W h) (n / 100) (m / 100 - n / 100) = V at *
    have hCV := Tj_C hB (h := h) (by rw [hnV]; exact hh)
    have g8 := gH_8 (S := S) (d := d + 2) (k := k) (E := E) (L := L) (T := T) hCV h2
    rw [e6] at g8
    have ex : n / 100 + (m / 100 - n / 100) = m / 100 := by omega
    rw [g_X10_dig_88]
    simp -implicitDefEqProofs only [hv_38_2, hc_11, g8, q_I, dv_100, d2, ex, if_pos (Int32.le_refl (nI (m / 100)))]
    exact ⟨B, rfl, hB, hFr⟩
theorem c_digM (hT : Tj c k E T A W) : ∃ A', ex S (d + 6) 215 [.ref 38] (Hh k E A L T) = some (.inl none, Hh k E A' L T) ∧ Tj c k E T A' (itW dgF (hn W) W) ∧ Fr A A' ∧ hn (itW dgF (hn W) W) = hn W := by
  have h24 := hT.1.2.2.2.2.1.2.1
  rw [x_X10_digMines, g_X10_digMines_0]
  refine loop_Q (α := fA) (F := fun g i B => bd S (ex S (d + 5)) dflT E_X10_digMines g 2 [some (.ref 38), some (.int (nI i))] [] (Hh k E B L T)) (N := hn W) (P := fun i B => Tj c k E T B (itW dgF i W) ∧ Fr A B ∧ hn (itW dgF i W) = hn W) (Q := fun r => ∃ A', r = some (.inl none, Hh k E A' L T) ∧ Tj c k E T A' (itW dgF (hn W) W) ∧ Fr A A' ∧ hn (itW dgF (hn W) W) = hn W) ?_ ?_ (s := A) ⟨hT, Fr_refl, rfl⟩ (by omega)
  · rintro g h B hh ⟨hB, hFr, hN⟩
    right
    rw [show itW dgF (h + 1) W = dgF (itW dgF h W) h from rfl]
    generalize itW dgF h W = V at *
    obtain ⟨hI, h0, -⟩ := id hB
    have hhV : h < hn V := by rw [hN]; exact hh
    have h2 := Tj_24 hB hhV
    have hC := Tj_C hB hhV
    have l1 : B 11 0 = nI (hn W) := by rw [← hN]; exact h0.2.2.2.2.2.2.1.1.trans hI.2.2.2.2.1.1
    have g0 : ¬ nI (hn W) ≤ nI h := nI_ge hh (by omega)
    have hN' := (dg_hn (W := V) h2).trans hN
    rw [g_X10_digMines_2]
    simp -implicitDefEqProofs only [hv_38_2, hg_11_0, l1, if_neg g0, hc_11, gH_0 hC h2, q_I]
    by_cases q4 : V (1684 + 11 * h + 0) = 4
    · rw [if_pos q4]
      simp -implicitDefEqProofs only [hv_38_2, hc_11, c_isOver hC h2, q_I]
      by_cases q0 : fo V h = 0
      · have e : dgF V h = V := by unfold dgF; rw [if_neg (fun z => z.2 q0)]
        rw [show overW V h = 1 from if_pos q0, if_neg (by decide), nI_p1, e]
        exact ⟨B, rfl, hB, hFr, hN⟩
      · obtain ⟨A', z1, z2, z3⟩ := c_dig (S := S) (d := d) (L := L) hB hhV q4 q0
        rw [show overW V h = 0 from if_neg q0, if_pos rfl]
        simp -implicitDefEqProofs only [hc_38, z1, q_U, nI_p1]
        exact ⟨A', rfl, z2, Fr_tr hFr z3, hN'⟩
    · have e : dgF V h = V := by unfold dgF; rw [if_neg (fun z => q4 z.1)]
      rw [if_neg q4, nI_p1, e]
      exact ⟨B, rfl, hB, hFr, hN⟩
  · rintro g B ⟨hB, hFr, hN⟩
    have l1 : B 11 0 = nI (hn W) := by rw [← hN]; exact hB.2.1.2.2.2.2.2.2.1.1.trans hB.1.2.2.2.2.1.1
    rw [g_X10_digMines_2]
    simp -implicitDefEqProofs only [hv_38_2, hg_11_0, l1, if_pos (Int32.le_refl (nI (hn W)))]
    exact ⟨B, rfl, hB, hFr, hN⟩
end YearI
