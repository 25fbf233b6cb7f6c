/-! what a tenant that goes is owed -/
section OwedB
variable {S : sT} {d c : Nat} {k : Value} {E : List dsc} {A : fA} {L : fL} {T : fT} {W : fW}
/-- what a line owes for what is left on a field -/
def loJ (W : fW) (B f n : Nat) : Int64 := if W (B + 2 + 6 * n) = 3 then (W (B + 2 + 6 * n + 1)).toInt64 * (if W (B + 2 + 6 * n + 2) = 0 then W (8 + 14 * f + 5) else W (8 + 14 * f + 4)).toInt64 else 0
def wtJ (W : fW) (h f n : Nat) : Int64 := if W (8 + 14 * f + 10) = nI h then loJ W (tx (12 + h)) f n - (shB W (tx (12 + h)) 4 (fcF W f (fcH W h)) n).toInt64 else 0
def oeJ (W : fW) (h : Nat) : Int64 := sumJ (fun f => sumJ (wtJ W h f) (lnT W (12 + h))) 48
def oeW (W : fW) (h : Nat) : Int32 := kp (if oeJ W h < 0 then 0 else oeJ W h)
theorem kp_max (j : Int64) : (if (0 : Int32) < kp j then kp j else 0) = kp (if j < (0 : Int64) then (0 : Int64) else j) := by
  apply i32_ext
  rw [kp_toInt]
  have e0 : (0 : Int32).toInt = 0 := rfl
  have e1 : (0 : Int64).toInt = 0 := rfl
  have h1 := kp_toInt j
  by_cases q : j < 0
  · rw [if_pos q, e1]
    rw [Int64.lt_iff_toInt_lt, e1] at q
    split
    · rename_i z; rw [Int32.lt_iff_toInt_lt, e0] at z; omega
    · rw [e0]; omega
  · rw [if_neg q]
    rw [Int64.lt_iff_toInt_lt, e1] at q
    split
    · rw [h1]
    · rename_i z; rw [Int32.lt_iff_toInt_lt, e0] at z; rw [e0]; omega
theorem sumJ_sub (p q : Nat → Int64) (n : Nat) : sumJ (fun f => p f - q f) n = sumJ p n - sumJ q n := by
  induction n with
  | zero => show (0 : Int64) = 0 - 0; decide
  | succ n ih => unfold sumJ; rw [ih]; simp -implicitDefEqProofs only [Int64.sub_eq_add_neg, Int64.neg_add]; ac_rfl
theorem fcF_2 (f g : Nat) (Fc : Nat → Int64) : fcF W f (fcF W g Fc) = fcF W f Fc := by
  funext j
  unfold fcF
  repeat' split
  all_goals first | rfl | omega
theorem c_leftOn {a b nl nc B f : Nat} (hX : TX k E A a b nl nc W B) (hL : LkL (A 10) W) (hf : f < 48) : ex S (d + 3) 224 [.ref 4, .int (nI f), .ref a] (Hh k E A L T) = some (.inl (some (.long (sumJ (loJ W B f) nl))), Hh k E A L T) := by
  obtain ⟨n1, n2⟩ := tx_n hX
  have hw := hX.2.2.2.1
  have t1 := hX.1
  have t3 := hX.2.2.1
  rw [x_X0_leftOn, g_X0_leftOn_0, q_nr]
  refine loop_QK (K := 2) (α := Option Value) (F := fun g i o => bd S (ex S (d + 2)) dflT E_X0_leftOn g 5 [some (.ref 4), some (.int (nI f)), some (.ref a), some (.long (sumJ (loJ W B f) i)), none, some (.int (nI i)), o] [] (Hh k E A L T)) (N := nl) (P := fun _ _ => True) (Q := fun r => r = some (.inl (some (.long (sumJ (loJ W B f) nl))), Hh k E A L T)) ?_ ?_ (s := none) trivial (by omega)
  · rintro g i o hi -
    right
    have g0 : ¬ nI nl ≤ nI i := nI_ge hi (by omega)
    have e : sumJ (loJ W B f) (i + 1) = sumJ (loJ W B f) i + loJ W B f i := rfl
    have ev := vb_eq2 (s := 3) (hw.2.2.2 i hi).1 (Or.inl (by unfold rg; decide))
    rw [show vb 3 = 27 by decide] at ev
    rw [show g + 2 = (g + 1) + 1 from rfl, g_X0_leftOn_5]
    simp -implicitDefEqProofs only [q_iR, tl t1, t3, if_neg g0, tc t1, c_tg0 hX hi, q_I]
    by_cases c1 : W (B + 2 + 6 * i) = 3
    · have e5 : fs (W (B + 2 + 6 * i)) (W (B + 2 + 6 * i + 2)) = W (B + 2 + 6 * i + 2) + 12 := by rw [c1]; rfl
      have e6 : (W (B + 2 + 6 * i + 2) + 12 = 12) ↔ W (B + 2 + 6 * i + 2) = 0 := by
        constructor
        · intro q; exact (add_inj _ 0 12).mp (q.trans (by decide))
        · intro q; rw [q]; decide
      rw [if_pos (ev.mpr c1)]
      simp -implicitDefEqProofs only [q_iR, tc t1, c_tg2 hX hi, q_I, e5]
      by_cases c2 : W (B + 2 + 6 * i + 2) = 0
      · rw [if_pos (e6.mpr c2), g_X0_leftOn_43]
        simp -implicitDefEqProofs only [q_iR, tc t1, c_tg1 hX hi, q_I, hv_4_1, hc_9, gL_5 hL hf, q_nr, nI_p1]
        exact ⟨_, g, Nat.le_refl _, by rw [e, show loJ W B f i = _ from if_pos c1, if_pos c2], trivial⟩
      · rw [if_neg (fun q => c2 (e6.mp q)), g_X0_leftOn_43]
        simp -implicitDefEqProofs only [q_iR, tc t1, c_tg1 hX hi, q_I, hv_4_1, hc_9, gL_4 hL hf, q_nr, nI_p1]
        exact ⟨_, g, Nat.le_refl _, by rw [e, show loJ W B f i = _ from if_pos c1, if_neg c2], trivial⟩
    · rw [if_neg (fun q => c1 (ev.mp q)), nI_p1]
      exact ⟨o, g + 1, by omega, by rw [e, show loJ W B f i = _ from if_neg c1, Int64.add_zero], trivial⟩
  · rintro g o -
    rw [show g + 2 = (g + 1) + 1 from rfl, g_X0_leftOn_5]
    simp -implicitDefEqProofs only [q_iR, tl t1, t3, if_pos (Int32.le_refl (nI nl))]
theorem c_owedTo {h : Nat} (hI : Iv c W) (h0 : LkA 4 k E A T W) (h36 : A 36 0 = 0 ∧ A 36 5 = 0) (hh : h < hn W) (hk : W (1684 + 11 * h + 0) = 0 ∨ W (1684 + 11 * h + 0) = 1) : ∃ L', ex S (d + 4) 225 [.ref 4, .int (nI h)] (Hh k E A L T) = some (.inl (some (.int (oeW W h))), Hh k E (upR A 36 (prR W (A 36) (pn W))) L' T) ∧ ∀ r, r ≠ 37 → L' r = L r := by
  have h2 : h < 24 := by have := hI.2.2.2.2.1.2.1; omega
  obtain ⟨L1, e1, e2, e3⟩ := c_learnT (S := S) (d := d) (L := L) hI h0 h36 hh
  have h1 : LkA 4 k E (upR A 36 (prR W (A 36) (pn W))) T W := Lk_36 h0
  generalize upR A 36 (prR W (A 36) (pn W)) = B at *
  obtain ⟨a, b, nl, nc, ha, hX⟩ := lease_of h1 hh hk
  obtain ⟨n1, n2⟩ := tx_n hX
  have hw := hX.2.2.2.1
  have hl := lnT_eq hw
  have t1 := hX.1
  have hL : LkL (B 10) W := h1.2.1
  rw [x_X0_owedTo, g_X0_owedTo_0]
  simp -implicitDefEqProofs only [hc_4, e1, q_U, hv_4_2, hc_11, c_lease h2 ha, q_A, q_iR, q_nr]
  unfold oeW
  rw [← kp_max]
  unfold oeJ
  rw [hl]
  refine loop_Q (α := fL) (F := fun g i M => bd S (ex S (d + 3)) dflT E_X0_owedTo g 19 [some (.ref 4), some (.int (nI h)), some (.ref a), some (.long (sumJ (fun f => sumJ (wtJ W h f) nl) i)), none, some (.int (nI i))] [] (Hh k E B M T)) (N := 48) (P := fun _ M => (∃ Fc, (∀ j, j < 11 → M 37 j = Fc j) ∧ ∀ f, fcF W f Fc = fcF W f (fcH W h)) ∧ ∀ r, r ≠ 37 → M r = L r) (Q := fun r => ∃ L', r = some (.inl (some (.int (if (0 : Int32) < kp (sumJ (fun f => sumJ (wtJ W h f) nl) 48) then kp (sumJ (fun f => sumJ (wtJ W h f) nl) 48) else 0))), Hh k E B L' T) ∧ ∀ r, r ≠ 37 → L' r = L r) ?_ ?_ (s := L1) ⟨⟨_, e2, fun _ => rfl⟩, e3⟩ (by decide)
  · rintro g f M hf ⟨⟨Fc, m1, m2⟩, m3⟩
    right
    have g0 : ¬ (48 : Int32) ≤ nI f := nI_ge (b := 48) hf (by decide)
    have e : sumJ (fun f => sumJ (wtJ W h f) nl) (f + 1) = sumJ (fun f => sumJ (wtJ W h f) nl) f + sumJ (wtJ W h f) nl := rfl
    rw [g_X0_owedTo_19]
    simp -implicitDefEqProofs only [if_neg g0, hv_4_1, hc_9, gL_10 hL hf, q_I]
    by_cases c1 : W (8 + 14 * f + 10) = nI h
    · obtain ⟨M1, r1, r2, r3⟩ := c_learnFF (S := S) (d := d) (k := k) (E := E) (A := B) (L := M) (T := T) hL hf m1
      rw [m2 f] at r2
      obtain ⟨M2, s1, s2, s3⟩ := c_sumT (S := S) (d := d) (L := M1) (T := T) (s := 4) hX (Or.inl (by unfold rg; decide)) r2
      rw [show vb 4 = 28 by decide] at s1
      have es : sumJ (wtJ W h f) nl = sumJ (loJ W (tx (12 + h)) f) nl - (shT W (12 + h) 4 (fcF W f (fcH W h))).toInt64 := by
        unfold shT
        rw [hl, sumI_64 (b := 999999) (by decide) (by omega) (fun i hi => shB_rg hw hi), ← sumJ_sub]
        exact sumJ_congr (fun n hn => if_pos c1)
      rw [if_pos c1]
      simp -implicitDefEqProofs only [hc_4, r1, q_U, q_iR, c_leftOn (L := M1) hX hL hf, q_J, hv_4_9, tc t1, s1, q_I, q_nr, nI_p1]
      exact ⟨M2, by rw [e, es], ⟨_, s2, fun g => fcF_2 g f _⟩, fun r hr => ((s3 r hr).trans (r3 r hr)).trans (m3 r hr)⟩
    · have es : sumJ (wtJ W h f) nl = 0 := by
        rw [← sumJ_0 nl]
        exact sumJ_congr (fun n hn => if_neg c1)
      rw [if_neg c1, nI_p1]
      exact ⟨M, by rw [e, es, Int64.add_zero], ⟨Fc, m1, m2⟩, m3⟩
  · rintro g M ⟨-, m3⟩
    rw [g_X0_owedTo_19]
    simp -implicitDefEqProofs only [show ((48 : Int32) ≤ nI 48) = True by decide, if_true, c_capped, q_Ix]
    exact ⟨M, rfl, m3⟩
theorem r_owedTo {h : Nat} (hI : Iv c (A 40)) (hh : h < hn (A 40)) (hk : A 40 (1684 + 11 * h + 0) = 0 ∨ A 40 (1684 + 11 * h + 0) = 1) : ∃ L', ex S (d + 4) 253 [.ref 39, .int (nI h)] (Hh k E A L T) = some (.inl (some (.int (oeW (A 40) h))), Hh k E A L' T) ∧ ∀ r, r ≠ 44 → r ≠ 45 → L' r = L r := by
  have h2 : h < 24 := by have := hI.2.2.2.2.1.2.1; omega
  obtain ⟨nl, nc, hw⟩ := (hI.2.2.2.2.1.2.2 h hh).2.2.2.2.2.2.2.2.2.2 hk
  have hl := lnT_eq hw
  have n1 := hw.2.1
  have w1 := hw.1
  have e12 : (12 : Int32) + nI h = nI (12 + h) := by rw [show (12 : Int32) = nI 12 from rfl, nI_add]
  rw [x_X12_owedTo, g_X12_owedTo_0]
  unfold oeW oeJ
  rw [hl, sumJ_comm]
  refine loop_QK (K := 200) (α := fL × Option Value × Option Value) (F := fun g i M => bd S (ex S (d + 3)) dflT E_X12_owedTo g 5 [some (.ref 39), some (.int (nI h)), some (.long (sumJ (fun n => sumJ (fun f => wtJ (A 40) h f n) 48) i)), none, some (.int (nI i)), M.2.1, M.2.2] [] (Hh k E A M.1 T)) (N := nl) (P := fun _ M => ∀ r, r ≠ 44 → r ≠ 45 → M.1 r = L r) (Q := fun r => ∃ L', r = some (.inl (some (.int (kp (if sumJ (fun n => sumJ (fun f => wtJ (A 40) h f n) 48) nl < 0 then 0 else sumJ (fun n => sumJ (fun f => wtJ (A 40) h f n) 48) nl)))), Hh k E A L' T) ∧ ∀ r, r ≠ 44 → r ≠ 45 → L' r = L r) ?_ ?_ (s := (L, none, none)) (fun _ _ _ => rfl) (by omega)
  · rintro g i ⟨M, o, o2⟩ hi m2
    simp only at m2
    right
    have g0 : ¬ nI nl ≤ nI i := nI_ge hi (by omega)
    have e : sumJ (fun n => sumJ (fun f => wtJ (A 40) h f n) 48) (i + 1) = sumJ (fun n => sumJ (fun f => wtJ (A 40) h f n) 48) i + sumJ (fun f => wtJ (A 40) h f i) 48 := rfl
    have b0 : tx (12 + h) + 2 + 6 * i < 35877 := by unfold tx; omega
    have b1 : tx (12 + h) + 2 + 6 * i + 1 < 35877 := by unfold tx; omega
    have b2 : tx (12 + h) + 2 + 6 * i + 2 < 35877 := by unfold tx; omega
    rw [show g + 200 = (g + 199) + 1 from rfl, g_X12_owedTo_5]
    simp -implicitDefEqProofs only [hc_39, e12, r_lns (show 12 + h < 37 by omega), w1, q_I, if_neg g0, r_lat]
    rw [e]
    generalize sumJ (fun n => sumJ (fun f => wtJ (A 40) h f n) 48) i = z
    have a2 : nI (tx (12 + h) + 2 + 6 * i) + 2 = nI (tx (12 + h) + 2 + 6 * i + 2) := by rw [show (2 : Int32) = nI 2 from rfl, nI_add]
    obtain ⟨M', g', hg', f1, f2⟩ := loop_RK (K := 2) (α := fL) (F := fun g f M => bd S (ex S (d + 3)) dflT E_X12_owedTo g 32 [some (.ref 39), some (.int (nI h)), some (.long (z + sumJ (fun f => wtJ (A 40) h f i) f)), none, some (.int (nI i)), some (.int (nI (tx (12 + h) + 2 + 6 * i))), some (.int (nI f))] [] (Hh k E A M T)) (N := 48) (P := fun _ M => ∀ r, r ≠ 44 → r ≠ 45 → M r = L r) (s := M) (by
      intro g f M hf m2
      have q0 : ¬ (48 : Int32) ≤ nI f := nI_ge (b := 48) hf (by decide)
      have e : sumJ (fun f => wtJ (A 40) h f i) (f + 1) = sumJ (fun f => wtJ (A 40) h f i) f + wtJ (A 40) h f i := rfl
      obtain ⟨M1, s1, s2, s3⟩ := r_looksFH (S := S) (d := d) (k := k) (E := E) (A := A) (L := M) (T := T) hf h2 (pr_of hI)
      obtain ⟨M2, t1, t2, t3⟩ := r_holds (S := S) (d := d) (k := k) (E := E) (A := A) (L := M1) (T := T) hw (show 12 + h < 37 by omega) hi s2
      have k103 : ∀ y : Int64, ∃ M', bd S (ex S (d + 3)) dflT E_X12_owedTo (g + 1) 103 [some (.ref 39), some (.int (nI h)), some (.long y), none, some (.int (nI i)), some (.int (nI (tx (12 + h) + 2 + 6 * i))), some (.int (nI f))] [] (Hh k E A M T) = bd S (ex S (d + 3)) dflT E_X12_owedTo g 32 [some (.ref 39), some (.int (nI h)), some (.long (y - (shB (A 40) (tx (12 + h)) 4 (fcF (A 40) f (fcH (A 40) h)) i).toInt64)), none, some (.int (nI i)), some (.int (nI (tx (12 + h) + 2 + 6 * i))), some (.int (nI (f + 1)))] [] (Hh k E A M' T) ∧ ∀ r, r ≠ 44 → r ≠ 45 → M' r = L r := by
        intro y
        rw [g_X12_owedTo_103]
        simp -implicitDefEqProofs only [hc_39, s1, q_U, hv_39_1, an_40 b0, e12]
        by_cases c4 : A 40 (tx (12 + h) + 2 + 6 * i) = 4
        · rw [if_pos c4, t1]
          simp -implicitDefEqProofs only [q_I]
          rcases hl_c (W := A 40) (tx (12 + h)) i (fcF (A 40) f (fc0 (A 40) (A 40 (1684 + 11 * h + 1)) (A 40 (1684 + 11 * h + 2)))) with zz | zz
          · have e9 : shB (A 40) (tx (12 + h)) 4 (fcF (A 40) f (fcH (A 40) h)) i = 0 := by unfold shB hm fcH; simp [zz]
            rw [zz, if_pos rfl, e9, show (0 : Int32).toInt64 = (0 : Int64) by decide, Int64.sub_zero, nI_p1]
            exact ⟨M2, rfl, fun r r1 r2 => ((t3 r r1).trans (s3 r r2)).trans (m2 r r1 r2)⟩
          · have e9 : shB (A 40) (tx (12 + h)) 4 (fcF (A 40) f (fcH (A 40) h)) i = A 40 (tx (12 + h) + 2 + 6 * i + 1) := by unfold shB hm fcH; simp [zz, c4]
            rw [zz, if_neg (by decide), e9]
            simp -implicitDefEqProofs only [hv_39_1, nI_p1, an_40 b1]
            exact ⟨M2, rfl, fun r r1 r2 => ((t3 r r1).trans (s3 r r2)).trans (m2 r r1 r2)⟩
        · have e9 : shB (A 40) (tx (12 + h)) 4 (fcF (A 40) f (fcH (A 40) h)) i = 0 := by unfold shB hm; simp [c4]
          rw [if_neg c4, e9, show (0 : Int32).toInt64 = (0 : Int64) by decide, Int64.sub_zero, nI_p1]
          exact ⟨M1, rfl, fun r r1 r2 => (s3 r r2).trans (m2 r r1 r2)⟩
      rw [show g + 2 = (g + 1) + 1 from rfl, g_X12_owedTo_32]
      simp -implicitDefEqProofs only [if_neg q0, hc_39, ro_10 hf, q_I]
      rw [e]
      generalize sumJ (fun f => wtJ (A 40) h f i) f = zz
      by_cases c1 : A 40 (8 + 14 * f + 10) = nI h
      · have ew : wtJ (A 40) h f i = loJ (A 40) (tx (12 + h)) f i - (shB (A 40) (tx (12 + h)) 4 (fcF (A 40) f (fcH (A 40) h)) i).toInt64 := if_pos c1
        rw [if_pos c1, ew]
        simp -implicitDefEqProofs only [hv_39_1, an_40 b0]
        by_cases c3 : A 40 (tx (12 + h) + 2 + 6 * i) = 3
        · have el : loJ (A 40) (tx (12 + h)) f i = _ := if_pos c3
          rw [if_pos c3, el]
          simp -implicitDefEqProofs only [nI_p1, a2, hv_39_1, an_40 b1, an_40 b2, hc_39, ro_5 hf, ro_4 hf, q_I]
          by_cases c2 : A 40 (tx (12 + h) + 2 + 6 * i + 2) = 0
          · rw [if_pos c2, if_pos c2]
            obtain ⟨M', u1, u2⟩ := k103 (z + zz + (A 40 (tx (12 + h) + 2 + 6 * i + 1)).toInt64 * (A 40 (8 + 14 * f + 5)).toInt64)
            rw [u1]
            exact ⟨M', g, Nat.le_refl _, by simp -implicitDefEqProofs only [Int64.sub_eq_add_neg, Int64.add_assoc], u2⟩
          · rw [if_neg c2, if_neg c2]
            obtain ⟨M', u1, u2⟩ := k103 (z + zz + (A 40 (tx (12 + h) + 2 + 6 * i + 1)).toInt64 * (A 40 (8 + 14 * f + 4)).toInt64)
            rw [u1]
            exact ⟨M', g, Nat.le_refl _, by simp -implicitDefEqProofs only [Int64.sub_eq_add_neg, Int64.add_assoc], u2⟩
        · have el : loJ (A 40) (tx (12 + h)) f i = 0 := if_neg c3
          rw [if_neg c3, el]
          obtain ⟨M', u1, u2⟩ := k103 (z + zz)
          rw [u1]
          exact ⟨M', g, Nat.le_refl _, by simp -implicitDefEqProofs only [Int64.sub_eq_add_neg, Int64.add_assoc, Int64.zero_add], u2⟩
      · have ew : wtJ (A 40) h f i = 0 := if_neg c1
        rw [if_neg c1, ew, Int64.add_zero, nI_p1]
        exact ⟨M, g + 1, by omega, rfl, m2⟩) m2 (g + 1) (g + 199) (by omega)
    have f1' : bd S (ex S (d + 3)) dflT E_X12_owedTo (g + 199) 32 [some (.ref 39), some (.int (nI h)), some (.long (z + 0)), none, some (.int (nI i)), some (.int (nI (tx (12 + h) + 2 + 6 * i))), some (.int 0)] [] (Hh k E A M T) = _ := f1
    rw [Int64.add_zero] at f1'
    rw [f1']
    obtain ⟨g2, rfl⟩ : ∃ g2, g' = g2 + 1 := ⟨g' - 1, by omega⟩
    rw [g_X12_owedTo_32]
    simp -implicitDefEqProofs only [show ((48 : Int32) ≤ nI 48) = True by decide, if_true, nI_p1]
    exact ⟨(M', _, _), g2, by omega, rfl, f2⟩
  · rintro g ⟨M, o, o2⟩ m2
    simp only at m2
    rw [show g + 200 = (g + 199) + 1 from rfl, g_X12_owedTo_5]
    simp -implicitDefEqProofs only [hc_39, e12, r_lns (show 12 + h < 37 by omega), w1, q_I, if_pos (Int32.le_refl (nI nl)), r_kept]
    exact ⟨M, rfl, m2⟩
theorem p_owed (hR : Rel c k E A T) (x : Int32) : PK c S (d + 6) k E A T 267 269 [.int x] cdF := by
  have hI := Rel_w hR
  have h1 := hI.2.2.2.2.1.1
  have h24 := hI.2.2.2.2.1.2.1
  have l1 : A 11 0 = nI (hn (A 40)) := (Rel_h hR).1.trans h1
  rcases idx_c x (n := hn (A 40)) (by omega) with ⟨h, hh, rfl, hw⟩ | ⟨hx, hw⟩
  · have hC := (Rel_h hR).2.1 h hh
    have hH := hI.2.2.2.2.1.2.2 h hh
    have h2 : h < 24 := by omega
    rcases let_c hH with ⟨hl, hk⟩ | ⟨hl, hk⟩
    · refine PK_v (v := some (.int (oeW (A 40) h))) (V := A 40) hR (Iv_c (Nat.le_succ c) hI) (fun L => ?_) (fun B M hB => ?_)
      · obtain ⟨L1, e1, e2⟩ := c_owedTo (S := S) (d := d + 1) (L := L) hI hR.2.1 (Rel_36 hR) hh hk
        refine ⟨upR A 36 (prR (A 40) (A 36) (pn (A 40))), L1, ?_, Fr_36, Lk_36 hR.2.1⟩
        simp -implicitDefEqProofs only [x_X11_owed, g_X11_owed_0, hc_0, c_nh1 l1 hh (show hn (A 40) < 2 ^ 31 by omega), q_U, hv_0_1, hv_4_2, hc_11, c_isLet hC hH h2, q_I, hl, c_kd1, hc_4, e1]
      · obtain ⟨L1, e1, e2⟩ := r_owedTo (S := S) (d := d + 1) (k := k) (E := E) (L := M) (T := T) (A := up B 39 0 0) (h := h) (by rw [u40_39, hB]; exact hI) (by rw [u40_39, hB]; exact hh) (by rw [u40_39, hB]; exact hk)
        rw [u40_39, hB] at e1
        refine ⟨_, L1, ?_, e2 48 (by decide) (by decide), Fg_refl, by rw [u40_39, hB]⟩
        have w2 : up B 39 0 0 40 1683 = nI (hn (A 40)) := by rw [u40_39, hB]; exact h1
        simp -implicitDefEqProofs only [x_X12_owed, g_X12_owed_0, hp_39_0, hc_39, r_nh1 w2 hw, q_I, r_thr0, i0_0, i1_0, if_true, if_false, r_isLet h2, u40_39, hB, hl, e1]
    · refine PK_e (e := 2) (x := 2) hR rfl (fun L => ?_) (fun M => ⟨some (.int 0), rfl, ?_⟩)
      · simp -implicitDefEqProofs only [x_X11_owed, g_X11_owed_0, hc_0, c_nh1 l1 hh (show hn (A 40) < 2 ^ 31 by omega), q_U, hv_0_1, hv_4_2, hc_11, c_isLet hC hH h2, q_I, hl, c_kd0, q_Ue]
      · have w2 : up A 39 0 0 40 1683 = nI (hn (A 40)) := h1
        simp -implicitDefEqProofs only [x_X12_owed, g_X12_owed_0, hp_39_0, hc_39, r_nh1 w2 hw, q_I, r_thr0, r_thr1, i0_0, i1_0, if_true, if_false, r_isLet h2, u40_39, hl, up_up]
  · refine PK_e (e := 0) (x := 1) hR rfl (fun L => ?_) (fun M => ⟨some (.int 0), rfl, ?_⟩)
    · simp -implicitDefEqProofs only [x_X11_owed, g_X11_owed_0, hc_0, c_nh0 l1 hx, q_Ue]
    · have w2 : up A 39 0 0 40 1683 = nI (hn (A 40)) := h1
      simp -implicitDefEqProofs only [x_X12_owed, g_X12_owed_0, hp_39_0, hc_39, r_nh0 w2 hw, q_I, r_thr1, i1_0, if_false, up_up]
end OwedB
