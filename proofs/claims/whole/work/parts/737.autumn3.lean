/-! autumn in the reference -/
section YearG
variable {S : sT} {d c : Nat} {k : Value} {E : List dsc} {A : fA} {L : fL} {T : fT} {W : fW}
theorem jRe {h : Nat} {x : Int64} (hI : Iv c W) (hh : h < hn W) : Iv c (reW W h x) := jG_1 (jH_5 hI hh (kp_rg _)) (kp_rg _)
theorem jPyW {h : Nat} {rent put : Int32} (hI : Iv c W) (hh : h < hn W) (h1 : rg rent 0 1599998400) (h2 : put = -1 ∨ rg put 0 100) : Iv c (pyW W h rent put) := by
  have h24 := hI.2.2.2.2.1.2.1
  obtain ⟨jA, hnA⟩ := jPy hI hh h1 h2
  obtain ⟨k1, k2, k3⟩ := py_k hI hh h1 h2
  have a1 : pyA W h rent put (1684 + 11 * h + 1) = W (1684 + 11 * h + 1) := pyA_o (by omega)
  have hhA : h < hn (pyA W h rent put) := by rw [hnA]; exact hh
  have j1 : Iv c (adW (pyA W h rent put) (1684 + 11 * h + 1) (-pyP W h rent put).toInt64) := jH_1 jA hhA (by rw [a1]; exact k1)
  have j2 : Iv c (pyB W h rent put) := jH_2 j1 (by rw [hn_a (by omega)]; exact hhA) k2
  exact jRe j2 (by unfold pyB; rw [hn_u (by omega), hn_a (by omega)]; exact hhA)
theorem jAu {h : Nat} (hI : Iv c W) (hh : h < hn W) : Iv c (auF W h) := by
  unfold auF
  split
  · exact hI
  · rcases let_c (hI.2.2.2.2.1.2.2 h hh) with ⟨l1, l2⟩ | ⟨l1, l2⟩
    · rw [l1, if_neg (by decide)]
      obtain ⟨nl, nc, hw⟩ := (hI.2.2.2.2.1.2.2 h hh).2.2.2.2.2.2.2.2.2.2 l2
      refine jPyW hI hh (rl_rg (h := h) hI hw).1 ?_
      unfold puW; rw [lnT_eq hw]; exact pu_rg hw (Nat.le_refl _)
    · rw [l1, if_pos rfl]
      split
      · exact jRe hI hh
      · exact hI
theorem r_pay155 {h g : Nat} {rent put x2 x3 : Int32} {o6 : Option Value} (hI : Iv c W) (hh : h < hn W) (h1 : rg rent 0 1599998400) (h2 : put = -1 ∨ rg put 0 100) (hA : A 40 = pyA W h rent put) : ∃ A', bd S (ex S (d + 5)) dflT E_X12_paysRent (g + 1) 155 [some (.ref 39), some (.int (nI h)), some (.int x2), some (.int x3), some (.long (pyD W h rent put)), none, o6] [] (Hh k E A L T) = some (.inl none, Hh k E A' L T) ∧ A' 40 = pyW W h rent put ∧ Fg A A' := by
  have h24 : h < 24 := by have := hI.2.2.2.2.1.2.1; omega
  obtain ⟨k1, k2, k3⟩ := py_k hI hh h1 h2
  have a1 : A 40 (1684 + 11 * h + 1) = W (1684 + 11 * h + 1) := by rw [hA]; exact pyA_o (by omega)
  have a2 : A 40 (1684 + 11 * h + 2) = W (1684 + 11 * h + 2) := by rw [hA]; exact pyA_o (by omega)
  have eo : pyD W h rent put + (W (1684 + 11 * h + 2)).toInt64 = pyO W h rent put := rfl
  have ep : (if pyO W h rent put < (W (1684 + 11 * h + 1)).toInt64 then pyO W h rent put else (W (1684 + 11 * h + 1)).toInt64).toInt32 = pyP W h rent put := rfl
  rw [g_X12_paysRent_155]
  simp -implicitDefEqProofs only [hc_39, ri_2 h24, ri_1 h24, q_I, a1, a2, eo, ep, k3, rs_1 h24, q_U, rs_2 h24, ri_5 h24, rs_5 h24, r_inc]
  refine ⟨_, rfl, ?_, Fg_tr (Fg_tr Fg_up Fg_up) (Fg_tr Fg_up Fg_up)⟩
  rw [up40, up40, up40, up40, hA]
  unfold pyW reW pyB adW
  rw [show pyA W h rent put (1684 + 11 * h + 1) = W (1684 + 11 * h + 1) from pyA_o (by omega)]
theorem r_paysRent {h : Nat} (hI : Iv c (A 40)) (hh : h < hn (A 40)) (hk : A 40 (1684 + 11 * h + 0) = 0 ∨ A 40 (1684 + 11 * h + 0) = 1) : ∃ A' L', ex S (d + 6) 242 [.ref 39, .int (nI h)] (Hh k E A L T) = some (.inl none, Hh k E A' L' T) ∧ A' 40 = pyW (A 40) h (rlW (A 40) h) (puW (A 40) h) ∧ Fg A A' ∧ ∀ r, r ≠ 44 → r ≠ 45 → L' r = L r := by
  have h2 : h < 24 := by have := hI.2.2.2.2.1.2.1; omega
  obtain ⟨nl, nc, hw⟩ := (hI.2.2.2.2.1.2.2 h hh).2.2.2.2.2.2.2.2.2.2 hk
  have hl := lnT_eq hw
  have n1 := hw.2.1
  have w1 := hw.1
  have e12 : (12 : Int32) + nI h = nI (12 + h) := by rw [show (12 : Int32) = nI 12 from rfl, nI_add]
  have hrl := (rl_rg (h := h) hI hw).1
  have hpu : puW (A 40) h = -1 ∨ rg (puW (A 40) h) 0 100 := by unfold puW; rw [hl]; exact pu_rg hw (Nat.le_refl _)
  obtain ⟨L1, r1, r2⟩ := r_rentLess (S := S) (d := d) (k := k) (E := E) (A := A) (L := L) (T := T) hI hh hk
  obtain ⟨L2, s1, s2, s3⟩ := r_looksH (S := S) (d := d + 2) (k := k) (E := E) (A := A) (L := L1) (T := T) h2 (pr_of hI)
  rw [x_X12_paysRent, g_X12_paysRent_0]
  simp -implicitDefEqProofs only [hc_39, r1, q_I, s1, q_U]
  have epu : puW (A 40) h = puN (A 40) (tx (12 + h)) (fcH (A 40) h) nl := by unfold puW; rw [hl]
  generalize rlW (A 40) h = rent at *
  obtain ⟨M, g', hg', f1, m1, m2⟩ := loop_RK (K := 1) (α := fL) (F := fun g i M => bd S (ex S (d + 5)) dflT E_X12_paysRent g 17 [some (.ref 39), some (.int (nI h)), some (.int rent), some (.int (puN (A 40) (tx (12 + h)) (fcH (A 40) h) i)), some (.int (nI i)), none, none] [] (Hh k E A M T)) (N := nl) (P := fun i M => (∀ j, j < 11 → M 45 j = fcH (A 40) h j) ∧ ∀ r, r ≠ 44 → r ≠ 45 → M r = L r) (s := L2) (by
    rintro g i M hi2 ⟨m1, m2⟩
    have g0 : ¬ nI nl ≤ nI i := nI_ge hi2 (by omega)
    have b0 : tx (12 + h) + 2 + 6 * i < 35877 := by unfold tx; omega
    have b1 : tx (12 + h) + 2 + 6 * i + 1 < 35877 := by unfold tx; omega
    have e : puN (A 40) (tx (12 + h)) (fcH (A 40) h) (i + 1) = if hm (A 40) (tx (12 + h)) 5 (fcH (A 40) h) i = true then (if puN (A 40) (tx (12 + h)) (fcH (A 40) h) i < A 40 (tx (12 + h) + 2 + 6 * i + 1) then A 40 (tx (12 + h) + 2 + 6 * i + 1) else puN (A 40) (tx (12 + h)) (fcH (A 40) h) i) else puN (A 40) (tx (12 + h)) (fcH (A 40) h) i := rfl
    obtain ⟨M', t1, t2, t3⟩ := r_holds (S := S) (d := d + 2) (k := k) (E := E) (A := A) (L := M) (T := T) hw (show 12 + h < 37 by omega) hi2 m1
    rw [g_X12_paysRent_17]
    simp -implicitDefEqProofs only [hc_39, e12, r_lns (show 12 + h < 37 by omega), w1, q_I, if_neg g0, hv_39_1, r_lat, an_40 b0]
    rw [e]
    by_cases c5 : A 40 (tx (12 + h) + 2 + 6 * i) = 5
    · rw [if_pos c5, t1]
      simp -implicitDefEqProofs only [q_I]
      rcases hl_c (W := A 40) (tx (12 + h)) i (fcH (A 40) h) with z | z
      · rw [z, if_pos rfl, if_neg (show ¬ hm (A 40) (tx (12 + h)) 5 (fcH (A 40) h) i = true by unfold hm; simp [z]), nI_p1]
        exact ⟨M', g, Nat.le_refl _, rfl, t2, fun r x1 x2 => (t3 r x1).trans (m2 r x1 x2)⟩
      · rw [z, if_neg (by decide), if_pos (show hm (A 40) (tx (12 + h)) 5 (fcH (A 40) h) i = true by unfold hm; simp [z, c5])]
        simp -implicitDefEqProofs only [hv_39_1, r_lat, q_I, nI_p1, an_40 b1]
        exact ⟨M', g, Nat.le_refl _, rfl, t2, fun r x1 x2 => (t3 r x1).trans (m2 r x1 x2)⟩
    · rw [if_neg c5, if_neg (show ¬ hm (A 40) (tx (12 + h)) 5 (fcH (A 40) h) i = true by unfold hm; simp [c5]), nI_p1]
      exact ⟨M, g, Nat.le_refl _, rfl, m1, m2⟩) ⟨s2, fun r x1 x2 => (s3 r x2).trans (r2 r x1 x2)⟩ 90000 99999 (by omega)
  have f1' : bd S (ex S (d + 5)) dflT E_X12_paysRent 99999 17 [some (.ref 39), some (.int (nI h)), some (.int rent), some (.int (-1)), some (.int 0), none, none] [] (Hh k E A L2 T) = _ := f1
  rw [f1']
  obtain ⟨g2, rfl⟩ : ∃ g2, g' = (g2 + 1) + 1 := ⟨g' - 2, by omega⟩
  rw [← epu, g_X12_paysRent_17]
  simp -implicitDefEqProofs only [hc_39, e12, r_lns (show 12 + h < 37 by omega), w1, q_I, if_pos (Int32.le_refl (nI nl))]
  rcases hpu with hp | hp
  · have ea : pyA (A 40) h rent (puW (A 40) h) = upd (A 40) (1684 + 11 * h + 3) 0 := by unfold pyA; rw [if_pos (by rw [hp]; decide)]
    have ed : pyD (A 40) h rent (puW (A 40) h) = rent.toInt64 + (A 40 (1684 + 11 * h + 3)).toInt64 := by unfold pyD; rw [if_pos (by rw [hp]; decide)]
    rw [if_pos (show puW (A 40) h < 0 by rw [hp]; decide)]
    simp -implicitDefEqProofs only [hc_39, ri_3 h2, q_I, rs_3 h2, q_U, show kp 0 = 0 by decide]
    rw [← ed]
    obtain ⟨A', z1, z2, z3⟩ := r_pay155 (S := S) (d := d) (k := k) (E := E) (L := M) (T := T) (W := A 40) (A := up A 40 (1684 + 11 * h + 3) 0) (g := g2) (x2 := rent) (x3 := puW (A 40) h) (o6 := none) hI hh hrl (Or.inl hp) (by rw [up40, ea])
    exact ⟨A', M, z1, z2, Fg_tr Fg_up z3, m2⟩
  · have hp0 : ¬ puW (A 40) h < 0 := by rw [Int32.lt_iff_toInt_lt, show (0 : Int32).toInt = 0 from rfl]; have := hp.1; omega
    obtain ⟨-, -, o3⟩ := off_c hrl hp
    have ea : pyA (A 40) h rent (puW (A 40) h) = adW (A 40) (1684 + 11 * h + 3) (offJ rent (puW (A 40) h)) := by unfold pyA; rw [if_neg hp0]
    have ed : pyD (A 40) h rent (puW (A 40) h) = rent.toInt64 - offJ rent (puW (A 40) h) := by unfold pyD; rw [if_neg hp0]
    have eo : (rent.toInt64 * (puW (A 40) h).toInt64 / 100) = offJ rent (puW (A 40) h) := rfl
    rw [if_neg hp0]
    simp -implicitDefEqProofs only [dvJ_100, hc_39, ri_3 h2, q_I, eo, o3, rs_3 h2, q_U]
    rw [← ed]
    obtain ⟨A', z1, z2, z3⟩ := r_pay155 (S := S) (d := d) (k := k) (E := E) (L := M) (T := T) (W := A 40) (A := up A 40 (1684 + 11 * h + 3) (kp ((A 40 (1684 + 11 * h + 3)).toInt64 + offJ rent (puW (A 40) h)))) (g := g2) (x2 := rent) (x3 := puW (A 40) h) (o6 := some (.int (offJ rent (puW (A 40) h)).toInt32)) hI hh hrl (Or.inr hp) (by rw [up40, ea]; rfl)
    exact ⟨A', M, z1, z2, Fg_tr Fg_up z3, m2⟩
theorem r_autumn (hI : Iv c (A 40)) : ∃ A' L', ex S (d + 7) 243 [.ref 39] (Hh k E A L T) = some (.inl none, Hh k E A' L' T) ∧ A' 40 = itW auF (hn (A 40)) (A 40) ∧ Fg A A' ∧ Iv c (A' 40) ∧ ∀ r, r ≠ 44 → r ≠ 45 → L' r = L r := by
  have h24 := hI.2.2.2.2.1.2.1
  rw [x_X12_autumn, g_X12_autumn_0]
  refine loop_Q (α := fA × fL) (F := fun g i s => bd S (ex S (d + 6)) dflT E_X12_autumn g 2 [some (.ref 39), some (.int (nI i))] [] (Hh k E s.1 s.2 T)) (N := hn (A 40)) (P := fun i s => s.1 40 = itW auF i (A 40) ∧ Fg A s.1 ∧ Iv c (s.1 40) ∧ hn (s.1 40) = hn (A 40) ∧ ∀ r, r ≠ 44 → r ≠ 45 → s.2 r = L r) (Q := fun r => ∃ A' L', r = some (.inl none, Hh k E A' L' T) ∧ A' 40 = itW auF (hn (A 40)) (A 40) ∧ Fg A A' ∧ Iv c (A' 40) ∧ ∀ r, r ≠ 44 → r ≠ 45 → L' r = L r) ?_ ?_ (s := (A, L)) ⟨rfl, Fg_refl, hI, rfl, fun _ _ _ => rfl⟩ (by omega)
  · rintro g h ⟨B, M⟩ hh ⟨hB, hFr, hJ, hN, hM⟩
    simp only at hB hFr hJ hN hM
    right
    have ei : itW auF (h + 1) (A 40) = auF (B 40) h := by rw [hB]; rfl
    rw [ei]
    have hhV : h < hn (B 40) := by rw [hN]; exact hh
    have h2 : h < 24 := by omega
    have l1 : B 40 1683 = nI (hn (A 40)) := by rw [← hN]; exact hJ.2.2.2.2.1.1
    have g0 : ¬ nI (hn (A 40)) ≤ nI h := nI_ge hh (by omega)
    have hN' := (au_hn hJ hhV).trans hN
    have hJ' := jAu hJ hhV
    rw [g_X12_autumn_2]
    simp -implicitDefEqProofs only [hv_39_1, aw_40_1683, l1, if_neg g0, hc_39, r_fieldsOf, q_I]
    unfold auF at hN' hJ' ⊢
    by_cases q0 : fo (B 40) h = 0
    · rw [if_pos q0] at hN' hJ'
      rw [q0, if_pos (by decide), if_pos rfl, nI_p1]
      exact ⟨(B, M), rfl, rfl, hFr, hJ, hN, hM⟩
    · rw [if_neg q0] at hN' hJ'
      rw [if_neg (show ¬ nI (fo (B 40) h) = 0 from fun q => q0 ((nI_eq (b := 0) (fo_lt _ _) (by decide)).mp q)), if_neg q0]
      simp -implicitDefEqProofs only [hc_39, r_isLet h2, q_I]
      rcases let_c (hJ.2.2.2.2.1.2.2 h hhV) with ⟨l1, l2⟩ | ⟨l1, l2⟩
      · rw [l1, if_neg (by decide)] at hN' hJ'
        obtain ⟨A', L', z1, z2, z3, z4⟩ := r_paysRent (S := S) (d := d) (k := k) (E := E) (A := B) (L := M) (T := T) hJ hhV l2
        rw [l1, if_neg (show ¬ (1 : Int32) = 0 by decide), if_neg (show ¬ (1 : Int32) = 0 by decide)]
        simp -implicitDefEqProofs only [hc_39, z1, q_U, nI_p1]
        exact ⟨(A', L'), rfl, z2, Fg_tr hFr z3, by show Iv c (A' 40); rw [z2]; exact hJ', by show hn (A' 40) = _; rw [z2]; exact hN', fun r x1 x2 => (z4 r x1 x2).trans (hM r x1 x2)⟩
      · rw [l1, if_pos rfl] at hN' hJ'
        rw [l1, if_pos rfl, if_pos rfl]
        simp -implicitDefEqProofs only [hc_39, ri_0 h2, q_I]
        by_cases q5 : B 40 (1684 + 11 * h + 0) = 5
        · rw [if_pos q5] at hN' hJ'
          rw [if_pos q5, if_pos q5]
          have e9 : upd (B 40) 1 (kp ((B 40 1).toInt64 + (B 40 (1684 + 11 * h + 9)).toInt64)) (1684 + 11 * h + 9) = B 40 (1684 + 11 * h + 9) := upd_o (by omega)
          have e5 : upd (B 40) 1 (kp ((B 40 1).toInt64 + (B 40 (1684 + 11 * h + 9)).toInt64)) (1684 + 11 * h + 5) = B 40 (1684 + 11 * h + 5) := upd_o (by omega)
          have ez : upd (upd (B 40) 1 (kp ((B 40 1).toInt64 + (B 40 (1684 + 11 * h + 9)).toInt64))) (1684 + 11 * h + 5) (kp ((B 40 (1684 + 11 * h + 5)).toInt64 + (B 40 (1684 + 11 * h + 9)).toInt64)) = reW (B 40) h (B 40 (1684 + 11 * h + 9)).toInt64 := by
            unfold reW
            rw [upd_cm (by omega)]
            show _ = upd (upd _ _ _) 1 (kp ((upd _ _ _ 1).toInt64 + _))
            rw [upd_o (show (1 : Nat) ≠ 1684 + 11 * h + 5 by omega)]
          simp -implicitDefEqProofs only [hc_39, ri_9 h2, q_I, r_inc, q_U, ri_5 h2, rs_5 h2, up40, e9, e5, nI_p1]
          refine ⟨(_, M), rfl, ?_, Fg_tr hFr (Fg_tr Fg_up Fg_up), ?_, ?_, hM⟩
          · show up (up B 40 1 _) 40 _ _ 40 = _
            rw [up40, up40, ez]
          · show Iv c (up (up B 40 1 _) 40 _ _ 40)
            rw [up40, up40, ez]; exact hJ'
          · show hn (up (up B 40 1 _) 40 _ _ 40) = _
            rw [up40, up40, ez]; exact hN'
        · rw [if_neg q5, if_neg q5, nI_p1]
          exact ⟨(B, M), rfl, rfl, hFr, hJ, hN, hM⟩
  · rintro g ⟨B, M⟩ ⟨hB, hFr, hJ, hN, hM⟩
    simp only at hB hFr hJ hN hM
    have l1 : B 40 1683 = nI (hn (A 40)) := by rw [← hN]; exact hJ.2.2.2.2.1.1
    rw [g_X12_autumn_2]
    simp -implicitDefEqProofs only [hv_39_1, aw_40_1683, l1, if_pos (Int32.le_refl (nI (hn (A 40))))]
    exact ⟨B, M, rfl, hB, hFr, hJ, hM⟩
end YearG
