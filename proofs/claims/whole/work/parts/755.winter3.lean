/-! winter in the reference; a season; the seasons -/
section YearL
variable {S : sT} {d c : Nat} {k : Value} {E : List dsc} {A : fA} {L : fL} {T : fT} {W : fW}
def wnA (W : fW) : fW := itW goF 48 (itW bgF 48 W)
def wnB (W : fW) : fW := itW dgF (hn W) W
def wnC (W : fW) : fW := itW lnF (ln W) W
def wnD (W : fW) : fW := itW elF (hn W) W
def wnF (W : fW) : fW := wnD (pcF (wnC (wnB (wnA W))))
theorem r_win6 {n0 : Nat} {o2 : Option Value} (hI : Iv c (A 40)) (g : Nat) (hg : g + 1 + 24 ≤ n0) : ∃ A' g', g ≤ g' ∧ bd S (ex S (d + 8)) dflT E_X12_winter n0 6 [some (.ref 39), some (.int 0), o2] [] (Hh k E A L T) = bd S (ex S (d + 8)) dflT E_X12_winter g' 49 [some (.ref 39), some (.int 0), o2] [] (Hh k E A' L T) ∧ A' 40 = wnB (A 40) ∧ Fg A A' ∧ Iv c (A' 40) := by
  have h24 := hI.2.2.2.2.1.2.1
  obtain ⟨B, g', hg', f1, f2, f3, f4, f5⟩ := loop_RK (K := 1) (α := fA) (F := fun g i B => bd S (ex S (d + 8)) dflT E_X12_winter g 6 [some (.ref 39), some (.int (nI i)), o2] [] (Hh k E B L T)) (N := hn (A 40)) (P := fun i B => B 40 = itW dgF i (A 40) ∧ Fg A B ∧ Iv c (B 40) ∧ hn (B 40) = hn (A 40)) (s := A) (by
    rintro g h B hh ⟨hB, hFr, hJ, hN⟩
    have ei : itW dgF (h + 1) (A 40) = dgF (B 40) h := by rw [hB]; rfl
    rw [ei]
    have hhV : h < hn (B 40) := by rw [hN]; exact hh
    have h2 : h < 24 := by omega
    have l1 : B 40 1683 = nI (hn (A 40)) := by rw [← hN]; exact hJ.2.2.2.2.1.1
    have g0 : ¬ nI (hn (A 40)) ≤ nI h := nI_ge hh (by omega)
    have hN' := (dg_hn (W := B 40) h2).trans hN
    have hJ' := jDg hJ hhV
    have fl := fo_lt (B 40) h
    rw [g_X12_winter_6]
    simp -implicitDefEqProofs only [hv_39_1, aw_40_1683, l1, if_neg g0, hc_39, ri_0 h2, q_I]
    by_cases q4 : B 40 (1684 + 11 * h + 0) = 4
    · rw [if_pos q4]
      simp -implicitDefEqProofs only [hc_39, r_fieldsOf, q_I]
      by_cases q0 : fo (B 40) h = 0
      · have e : dgF (B 40) h = B 40 := by unfold dgF; rw [if_neg (fun z => z.2 q0)]
        rw [q0, if_pos (by decide), nI_p1, e]
        exact ⟨B, g, Nat.le_refl _, rfl, rfl, hFr, hJ, hN⟩
      · obtain ⟨A', z1, z2, z3⟩ := r_digs (S := S) (d := d) (k := k) (E := E) (A := B) (L := L) (T := T) hJ hhV q4 q0
        rw [if_neg (show ¬ nI (fo (B 40) h) ≤ 0 from nI_ge (a := 0) (by omega) fl)]
        simp -implicitDefEqProofs only [hc_39, z1, q_U, nI_p1]
        exact ⟨A', g, Nat.le_refl _, rfl, z2, Fg_tr hFr z3, by rw [z2]; exact hJ', by rw [z2]; exact hN'⟩
    · have e : dgF (B 40) h = B 40 := by unfold dgF; rw [if_neg (fun z => q4 z.1)]
      rw [if_neg q4, nI_p1, e]
      exact ⟨B, g, Nat.le_refl _, rfl, rfl, hFr, hJ, hN⟩) ⟨rfl, Fg_refl, hI, rfl⟩ (g + 1) n0 (by omega)
  have f1' : bd S (ex S (d + 8)) dflT E_X12_winter n0 6 [some (.ref 39), some (.int 0), o2] [] (Hh k E A L T) = _ := f1
  obtain ⟨g2, rfl⟩ : ∃ g2, g' = g2 + 1 := ⟨g' - 1, by omega⟩
  have l1 : B 40 1683 = nI (hn (A 40)) := by rw [← f5]; exact f4.2.2.2.2.1.1
  rw [f1', g_X12_winter_6]
  simp -implicitDefEqProofs only [hv_39_1, aw_40_1683, l1, if_pos (Int32.le_refl (nI (hn (A 40))))]
  exact ⟨B, g2, by omega, rfl, f2, f3, f4⟩
theorem r_win49 {n0 : Nat} {o2 : Option Value} (hI : Iv c (A 40)) (g : Nat) (hg : g + 1 + 12 ≤ n0) : ∃ A' L' g', g ≤ g' ∧ bd S (ex S (d + 8)) dflT E_X12_winter n0 49 [some (.ref 39), some (.int 0), o2] [] (Hh k E A L T) = bd S (ex S (d + 8)) dflT E_X12_winter g' 111 [some (.ref 39), some (.int (chW (wnC (A 40)))), some (.int 0)] [] (Hh k E A' L' T) ∧ A' 40 = pcF (wnC (A 40)) ∧ Fg A A' ∧ Iv c (A' 40) ∧ ∀ r, r ≠ 44 → r ≠ 45 → L' r = L r := by
  have h12 := hI.2.2.2.2.2.2.1.2.1
  obtain ⟨B, g', hg', f1, f2, f3, f4, f5⟩ := loop_RK (K := 1) (α := fA) (F := fun g i B => bd S (ex S (d + 8)) dflT E_X12_winter g 49 [some (.ref 39), some (.int (nI i)), o2] [] (Hh k E B L T)) (N := ln (A 40)) (P := fun i B => B 40 = itW lnF i (A 40) ∧ Fg A B ∧ Iv c (B 40) ∧ ln (B 40) = ln (A 40)) (s := A) (by
    rintro g l B hl ⟨hB, hFr, hJ, hN⟩
    have ei : itW lnF (l + 1) (A 40) = lnF (B 40) l := by rw [hB]; rfl
    rw [ei]
    have hl2 : l < 12 := by omega
    have l1 : B 40 1948 = nI (ln (A 40)) := by rw [← hN]; exact hJ.2.2.2.2.2.2.1.1
    have g0 : ¬ nI (ln (A 40)) ≤ nI l := nI_ge hl (by omega)
    have ea : (1949 : Int32) + 4 * nI l = nI (1949 + 4 * l) := by rw [show (1949 : Int32) = nI 1949 from rfl, show (4 : Int32) = nI 4 from rfl, pk_mul, nI_add]
    obtain ⟨A', z1, z2, z3⟩ := r_loan1 (S := S) (d := d + 5) (k := k) (E := E) (A := B) (L := L) (T := T) hJ hl2
    rw [g_X12_winter_49]
    simp -implicitDefEqProofs only [hv_39_1, aw_40_1948, l1, if_neg g0, hc_39, ea, z1, q_U, nI_p1]
    exact ⟨A', g, Nat.le_refl _, rfl, z2, Fg_tr hFr z3, by rw [z2]; exact jLn hJ hl2, by rw [z2]; exact (ln_n hl2).trans hN⟩) ⟨rfl, Fg_refl, hI, rfl⟩ (g + 1) n0 (by omega)
  have f1' : bd S (ex S (d + 8)) dflT E_X12_winter n0 49 [some (.ref 39), some (.int 0), o2] [] (Hh k E A L T) = _ := f1
  obtain ⟨g2, rfl⟩ : ∃ g2, g' = g2 + 1 := ⟨g' - 1, by omega⟩
  have l1 : B 40 1948 = nI (ln (A 40)) := by rw [← f5]; exact f4.2.2.2.2.2.2.1.1
  obtain ⟨C, L', c1, c2, c3⟩ := r_charges (S := S) (d := d + 3) (k := k) (E := E) (A := B) (L := L) (T := T) f4
  have c40 : C 40 = B 40 := c2.1 40 (by decide) (by decide)
  have eC : B 40 = wnC (A 40) := f2
  have e4 : upd (C 40) 1 (kp ((C 40 1).toInt64 + (-chW (B 40)).toInt64)) 4 = C 40 4 := upd_o (by decide)
  rw [f1', g_X12_winter_49]
  simp -implicitDefEqProofs only [hv_39_1, aw_40_1948, l1, if_pos (Int32.le_refl (nI (ln (A 40)))), hc_39, c1, q_I, r_inc, q_U, aw_40_4, up40, e4, r_kept, sw_40_4]
  have e40 : up (up C 40 1 (kp ((C 40 1).toInt64 + (-chW (B 40)).toInt64))) 40 4 (kp ((C 40 4).toInt64 + (chW (B 40)).toInt64)) 40 = pcF (wnC (A 40)) := by
    rw [up40, up40, c40, ← eC]
    unfold pcF adW
    rw [upd_o (show (4 : Nat) ≠ 1 by decide)]
  refine ⟨_, L', g2, by omega, by rw [← eC], e40, Fg_tr f3 (Fg_tr (Fo_g c2) (Fg_tr Fg_up Fg_up)), by rw [e40, ← eC]; exact jPc f4, c3⟩
theorem r_win111 {x1 : Int32} {n0 : Nat} (hI : Iv c (A 40)) (hg : 30 ≤ n0) : ∃ A' L', bd S (ex S (d + 8)) dflT E_X12_winter n0 111 [some (.ref 39), some (.int x1), some (.int 0)] [] (Hh k E A L T) = some (.inl none, Hh k E A' L' T) ∧ A' 40 = wnD (A 40) ∧ Fg A A' ∧ Iv c (A' 40) ∧ ∀ r, r ≠ 44 → r ≠ 45 → L' r = L r := by
  have h24 := hI.2.2.2.2.1.2.1
  refine loop_Q (α := fA × fL) (F := fun g i s => bd S (ex S (d + 8)) dflT E_X12_winter g 111 [some (.ref 39), some (.int x1), some (.int (nI i))] [] (Hh k E s.1 s.2 T)) (N := hn (A 40)) (P := fun i s => s.1 40 = itW elF i (A 40) ∧ Fg A s.1 ∧ Iv c (s.1 40) ∧ hn (s.1 40) = hn (A 40) ∧ ∀ r, r ≠ 44 → r ≠ 45 → s.2 r = L r) (Q := fun r => ∃ A' L', r = some (.inl none, Hh k E A' L' T) ∧ A' 40 = wnD (A 40) ∧ Fg A A' ∧ Iv c (A' 40) ∧ ∀ r, r ≠ 44 → r ≠ 45 → L' r = L r) ?_ ?_ (s := (A, L)) ⟨rfl, Fg_refl, hI, rfl, fun _ _ _ => rfl⟩ (by omega)
  · rintro g h ⟨B, M⟩ hh ⟨hB, hFr, hJ, hN, hM⟩
    simp only at hB hFr hJ hN hM
    right
    have ei : itW elF (h + 1) (A 40) = elF (B 40) h := by rw [hB]; rfl
    rw [ei]
    have hhV : h < hn (B 40) := by rw [hN]; exact hh
    have h2 : h < 24 := by omega
    have l1 : B 40 1683 = nI (hn (A 40)) := by rw [← hN]; exact hJ.2.2.2.2.1.1
    have g0 : ¬ nI (hn (A 40)) ≤ nI h := nI_ge hh (by omega)
    have hN' := (el_hn (W := B 40) h2).trans hN
    have hJ' := jEl hJ hhV
    have skip : ¬ enW (B 40) h → ∃ s' : fA × fL, bd S (ex S (d + 8)) dflT E_X12_winter g 111 [some (.ref 39), some (.int x1), some (.int (nI (h + 1)))] [] (Hh k E B M T) = bd S (ex S (d + 8)) dflT E_X12_winter g 111 [some (.ref 39), some (.int x1), some (.int (nI (h + 1)))] [] (Hh k E s'.1 s'.2 T) ∧ s'.1 40 = elF (B 40) h ∧ Fg A s'.1 ∧ Iv c (s'.1 40) ∧ hn (s'.1 40) = hn (A 40) ∧ ∀ r, r ≠ 44 → r ≠ 45 → s'.2 r = L r := fun q => ⟨(B, M), rfl, (show elF (B 40) h = B 40 from if_neg q).symm, hFr, hJ, hN, hM⟩
    have out : enW (B 40) h → ∃ s' : fA × fL, cU (ex S (d + 8) 254 [.ref 39, .int (nI h)] (Hh k E B M T)) (fun h16 => bd S (ex S (d + 8)) dflT E_X12_winter g 111 [some (.ref 39), some (.int x1), some (.int (nI (h + 1)))] [] h16) = bd S (ex S (d + 8)) dflT E_X12_winter g 111 [some (.ref 39), some (.int x1), some (.int (nI (h + 1)))] [] (Hh k E s'.1 s'.2 T) ∧ s'.1 40 = elF (B 40) h ∧ Fg A s'.1 ∧ Iv c (s'.1 40) ∧ hn (s'.1 40) = hn (A 40) ∧ ∀ r, r ≠ 44 → r ≠ 45 → s'.2 r = L r := by
      intro q
      obtain ⟨A', L', z1, z2, z3, z4⟩ := r_goesOut (S := S) (d := d + 3) (k := k) (E := E) (A := B) (L := M) (T := T) hJ hhV (en_k q).1
      have ee : elF (B 40) h = ouF (B 40) h := if_pos q
      rw [z1, q_U]
      refine ⟨(A', L'), rfl, by rw [ee]; exact z2, Fg_tr hFr z3, ?_, ?_, fun r x1 x2 => (z4 r x1 x2).trans (hM r x1 x2)⟩
      · show Iv c (A' 40); rw [z2, ← ee]; exact hJ'
      · show hn (A' 40) = _; rw [z2, ← ee]; exact hN'
    rw [g_X12_winter_111]
    simp -implicitDefEqProofs only [hv_39_1, aw_40_1683, l1, if_neg g0, hc_39, r_isLet h2, q_I]
    rcases let_c (hJ.2.2.2.2.1.2.2 h hhV) with ⟨e1, e2⟩ | ⟨e1, e2⟩
    · rw [e1, if_neg (by decide)]
      simp -implicitDefEqProofs only [hc_39, r_fieldsOf, q_I]
      by_cases q0 : fo (B 40) h = 0
      · rw [q0, if_pos (by decide), nI_p1]
        exact skip (fun z => z.1 q0)
      · rw [if_neg (show ¬ nI (fo (B 40) h) = 0 from fun q => q0 ((nI_eq (b := 0) (fo_lt _ _) (by decide)).mp q))]
        simp -implicitDefEqProofs only [hc_39, ri_0 h2, q_I]
        by_cases k0 : B 40 (1684 + 11 * h + 0) = 0
        · rw [if_pos k0]
          simp -implicitDefEqProofs only [hc_39, ri_4 h2, r_season, q_I]
          by_cases ql : B 40 0 < B 40 (1684 + 11 * h + 4)
          · rw [if_pos ql, nI_p1]
            refine skip (fun z => ?_)
            rcases z.2 with z | z
            · exact absurd ql (Int32.not_lt.mpr z.2)
            · rw [k0] at z; exact absurd z.1 (by decide)
          · rw [if_neg ql, nI_p1]
            exact out ⟨q0, Or.inl ⟨k0, Int32.not_lt.mp ql⟩⟩
        · have k1 := e2.resolve_left k0
          rw [if_neg k0]
          simp -implicitDefEqProofs only [hc_39, ri_8 h2, q_I]
          by_cases q8 : B 40 (1684 + 11 * h + 8) = 1
          · rw [if_pos q8, nI_p1]
            exact out ⟨q0, Or.inr ⟨k1, q8⟩⟩
          · rw [if_neg q8, nI_p1]
            refine skip (fun z => ?_)
            rcases z.2 with z | z
            · exact k0 z.1
            · exact q8 z.2
    · rw [e1, if_pos rfl, nI_p1]
      refine skip (fun z => ?_)
      rcases z.2 with z | z
      · exact e2.1 z.1
      · exact e2.2 z.1
  · rintro g ⟨B, M⟩ ⟨hB, hFr, hJ, hN, hM⟩
    simp only at hB hFr hJ hN hM
    have l1 : B 40 1683 = nI (hn (A 40)) := by rw [← hN]; exact hJ.2.2.2.2.1.1
    rw [g_X12_winter_111]
    simp -implicitDefEqProofs only [hv_39_1, aw_40_1683, l1, if_pos (Int32.le_refl (nI (hn (A 40))))]
    exact ⟨B, M, rfl, hB, hFr, hJ, hM⟩
theorem r_winter (hI : Iv c (A 40)) : ∃ A' L', ex S (d + 9) 255 [.ref 39] (Hh k E A L T) = some (.inl none, Hh k E A' L' T) ∧ A' 40 = wnF (A 40) ∧ Fg A A' ∧ Iv c (A' 40) ∧ ∀ r, r ≠ 44 → r ≠ 45 → L' r = L r := by
  obtain ⟨A1, a1, a2, a3, a4⟩ := r_grows (S := S) (d := d + 3) (k := k) (E := E) (A := A) (L := L) (T := T) hI
  obtain ⟨A2, g2, b0, b1, b2, b3, b4⟩ := r_win6 (S := S) (d := d) (k := k) (E := E) (A := A1) (L := L) (T := T) (n0 := 99999) (o2 := none) a4 90000 (by decide)
  obtain ⟨A3, L3, g3, c0, c1, c2, c3, c4, c5⟩ := r_win49 (S := S) (d := d) (k := k) (E := E) (A := A2) (L := L) (T := T) (n0 := g2) (o2 := none) b4 80000 (by omega)
  obtain ⟨A4, L4, d1, d2, d3, d4, d5⟩ := r_win111 (S := S) (d := d) (k := k) (E := E) (A := A3) (L := L3) (T := T) (n0 := g3) (x1 := chW (wnC (A2 40))) c4 (by omega)
  rw [x_X12_winter, g_X12_winter_0]
  simp -implicitDefEqProofs only [hc_39, a1, q_U]
  rw [b1, c1, d1]
  refine ⟨A4, L4, rfl, ?_, Fg_tr (Fg_tr a3 b3) (Fg_tr c3 d3), d4, fun r x1 x2 => (d5 r x1 x2).trans (c5 r x1 x2)⟩
  rw [d2, c2, b2, a2]
  rfl
end YearL
