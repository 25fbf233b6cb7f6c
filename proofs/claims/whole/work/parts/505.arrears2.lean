/-! who owes most: the reference picks one after another -/
section RankC
variable {S : sT} {d c : Nat} {k : Value} {E : List dsc} {A : fA} {L : fL} {T : fT} {W : fW}
def tld (W : fW) (m h : Nat) : Bool := decide ((0 : Int32) < arW W h) && decide (rkA (arW W) (hn W) h < m)
/-- B is A but for what is told -/
def Bt (A B : fA) (m : Nat) : Prop := (∀ r, r ≠ 47 → B r = A r) ∧ ∀ h, h < hn (A 40) → B 47 h = if tld (A 40) m h = true then 1 else 0
theorem nb0 : vp_nar .boolean 0 = 0 := by decide
theorem nb1 : vp_nar .boolean 1 = 1 := by decide
theorem r_pick {n m : Nat} {B : fA} (hp : A 40 1683 = nI (hn (A 40))) (h24 : hn (A 40) ≤ 24) (hB : Bt A B m) (hc : cntF (tld (A 40) m) (hn (A 40)) = m) (g : Nat) (hg : 26 ≤ g) : (bd S (ex S (d + 2)) dflT E_X12_arrears g 60 [some (.ref 39), some (.int (nI n)), some (.int (-1)), some (.int (nI m)), some (.int (nI 0))] [] (Hh k E B L T) = some (.inl (some (.int (-1))), Hh k E B L T) ∧ ∀ h, h < hn (A 40) → (0 : Int32) < arW (A 40) h → rkA (arW (A 40)) (hn (A 40)) h < m)
    ∨ ∃ j g' o, g ≤ g' + 26 ∧ j < hn (A 40) ∧ (0 : Int32) < arW (A 40) j ∧ rkA (arW (A 40)) (hn (A 40)) j = m ∧ bd S (ex S (d + 2)) dflT E_X12_arrears g 60 [some (.ref 39), some (.int (nI n)), some (.int (-1)), some (.int (nI m)), some (.int (nI 0))] [] (Hh k E B L T) = bd S (ex S (d + 2)) dflT E_X12_arrears g' 50 [some (.ref 39), some (.int (nI n)), some (.int (nI j)), some (.int (nI (m + 1))), o] [] (Hh k E (up B 47 j 1) L T) := by
  obtain ⟨b1, b2⟩ := hB
  have e40 : B 40 = A 40 := b1 40 (by decide)
  -- what may be picked
  let cnd : Nat → Prop := fun i => (0 : Int32) < arW (A 40) i ∧ ¬ rkA (arW (A 40)) (hn (A 40)) i < m
  obtain ⟨x2, g', hg', e1, e2⟩ := loop_RK (α := Int32) (K := 1) (F := fun q i x2 => bd S (ex S (d + 2)) dflT E_X12_arrears q 60 [some (.ref 39), some (.int (nI n)), some (.int x2), some (.int (nI m)), some (.int (nI i))] [] (Hh k E B L T)) (N := hn (A 40)) (P := fun i x2 => (x2 = -1 ∧ ∀ o, o < i → ¬ cnd o) ∨ ∃ j, j < i ∧ x2 = nI j ∧ cnd j ∧ ∀ o, o < i → cnd o → o = j ∨ ah (arW (A 40)) j o = true) (s := -1) (by
    intro q i x2 hi hP
    have g0 : ¬ nI (hn (A 40)) ≤ nI i := nI_ge hi (by omega)
    have i24 : i < 24 := by omega
    rw [g_X12_arrears_60]
    simp -implicitDefEqProofs only [hv_39_1, hv_39_17, aw_40_1683, e40, hp, if_neg g0, an_47 i24, b2 i hi, hc_39, ri_2 i24, q_I, nI_p1]
    by_cases t : tld (A 40) m i = true
    · have nc : ¬ cnd i := by
        intro q; unfold tld at t
        simp -implicitDefEqProofs only [Bool.and_eq_true, decide_eq_true_eq] at t
        exact q.2 t.2
      simp -implicitDefEqProofs only [if_pos t, i1_0, if_false]
      refine ⟨x2, q, Nat.le_refl _, rfl, ?_⟩
      rcases hP with ⟨h1, h2⟩ | ⟨j, h1, h2, h3, h4⟩
      · exact Or.inl ⟨h1, fun o ho => by by_cases e : o = i
                                         · rw [e]; exact nc
                                         · exact h2 o (by omega)⟩
      · exact Or.inr ⟨j, by omega, h2, h3, fun o ho => by by_cases e : o = i
                                                          · rw [e]; exact fun q => absurd q nc
                                                          · exact h4 o (by omega)⟩
    · simp -implicitDefEqProofs only [if_neg t, if_true, i0_0]
      by_cases c1 : A 40 (1684 + 11 * i + 2) ≤ 0
      · have nc : ¬ cnd i := fun q => absurd c1 (Int32.not_le.mpr q.1)
        rw [if_pos c1]
        refine ⟨x2, q, Nat.le_refl _, rfl, ?_⟩
        rcases hP with ⟨h1, h2⟩ | ⟨j, h1, h2, h3, h4⟩
        · exact Or.inl ⟨h1, fun o ho => by by_cases e : o = i
                                           · rw [e]; exact nc
                                           · exact h2 o (by omega)⟩
        · exact Or.inr ⟨j, by omega, h2, h3, fun o ho => by by_cases e : o = i
                                                            · rw [e]; exact fun q => absurd q nc
                                                            · exact h4 o (by omega)⟩
      · have c1' : (0 : Int32) < arW (A 40) i := Int32.not_le.mp c1
        have ci : cnd i := ⟨c1', fun q => t (by unfold tld; simp [c1', q])⟩
        rw [if_neg c1]
        rcases hP with ⟨h1, h2⟩ | ⟨j, h1, h2, h3, h4⟩
        · subst h1
          rw [if_pos (by decide)]
          exact ⟨_, q, Nat.le_refl _, rfl, Or.inr ⟨i, by omega, rfl, ci, fun o ho co => by by_cases e : o = i
                                                                                           · exact Or.inl e
                                                                                           · exact absurd co (h2 o (by omega))⟩⟩
        · subst h2
          have j24 : j < 24 := by omega
          rw [if_neg (nI_pos (by omega))]
          simp -implicitDefEqProofs only [ri_2 j24, e40, q_I]
          by_cases c2 : A 40 (1684 + 11 * i + 2) ≤ A 40 (1684 + 11 * j + 2)
          · rw [if_pos c2]
            refine ⟨_, q, Nat.le_refl _, rfl, Or.inr ⟨j, by omega, rfl, h3, fun o ho co => ?_⟩⟩
            by_cases e : o = i
            · subst e
              right
              rw [ah_iff]; unfold arW
              rw [Int32.le_iff_toInt_le] at c2
              omega
            · exact h4 o (by omega) co
          · rw [if_neg c2]
            refine ⟨_, q, Nat.le_refl _, rfl, Or.inr ⟨i, by omega, rfl, ci, fun o ho co => ?_⟩⟩
            by_cases e : o = i
            · exact Or.inl e
            · right
              have c3 := Int32.not_le.mp c2
              rw [Int32.lt_iff_toInt_lt] at c3
              rcases h4 o (by omega) co with r | r
              · subst r; rw [ah_iff]; unfold arW; omega
              · rw [ah_iff] at r ⊢; unfold arW at r ⊢; omega) (Or.inl ⟨rfl, fun o ho => absurd ho (Nat.not_lt_zero o)⟩) (g - 25) g (by omega)
  obtain ⟨g2, rfl⟩ : ∃ g2, g' = g2 + 1 := ⟨g' - 1, by omega⟩
  rw [e1, g_X12_arrears_60]
  simp -implicitDefEqProofs only [hv_39_1, hv_39_17, aw_40_1683, e40, hp, if_pos (Int32.le_refl (nI (hn (A 40)))), nb1]
  rcases e2 with ⟨h1, h2⟩ | ⟨j, h1, h2, h3, h4⟩
  · left
    subst h1
    refine ⟨by rw [if_neg (by decide)], fun h hh hp => ?_⟩
    exact Decidable.byContradiction fun q => h2 h hh ⟨hp, q⟩
  · right
    subst h2
    refine ⟨j, g2, some (.int (nI (hn (A 40)))), by omega, h1, h3.1, ?_, ?_⟩
    · have le : rkA (arW (A 40)) (hn (A 40)) j ≤ cntF (tld (A 40) m) (hn (A 40)) := by
        unfold rkA
        apply cntF_mono
        intro o ho q
        have hpos : (0 : Int32) < arW (A 40) o := by
          have h5 := h3.1
          rw [ah_iff] at q
          rw [Int32.lt_iff_toInt_lt] at h5 ⊢
          omega
        unfold tld
        simp -implicitDefEqProofs only [Bool.and_eq_true, decide_eq_true_eq]
        refine ⟨hpos, Decidable.byContradiction fun q3 => ?_⟩
        rcases h4 o ho ⟨hpos, q3⟩ with r | r
        · subst r; rw [ah_iff] at q; omega
        · rw [ah_iff] at q r; omega
      have := h3.2
      omega
    · rw [if_pos (nI_pos' (by omega)), sn_47 (show j < 24 by omega), nI_p1]
theorem tld_s {m j : Nat} (hj : j < hn W) (h1 : (0 : Int32) < arW W j) (h2 : rkA (arW W) (hn W) j = m) {o : Nat} (ho : o < hn W) : tld W (m + 1) o = (tld W m o || decide (o = j)) := by
  unfold tld
  by_cases q : o = j
  · subst q; simp [h1, h2]
  · have : rkA (arW W) (hn W) o ≠ m := fun e => q (rk_inj ho hj (e.trans h2.symm))
    by_cases q2 : rkA (arW W) (hn W) o < m
    · have q3 : rkA (arW W) (hn W) o < m + 1 := by omega
      simp [q, q2, q3]
    · have q3 : ¬ rkA (arW W) (hn W) o < m + 1 := by omega
      simp [q, q2, q3]
theorem r_arr {n : Nat} (hp : A 40 1683 = nI (hn (A 40))) (h24 : hn (A 40) ≤ 24) (hN : n < hn (A 40)) (hw : wi (nI n) 0 (nI (hn (A 40)) - 1)) : ∃ B, ex S (d + 3) 276 [.ref 39, .int (nI n)] (Hh k E A L T) = some (.inl (some (.int (fnd (pAr (A 40) (nI n)) (hn (A 40)) 0))), Hh k E B L T) ∧ ∀ r, r ≠ 47 → B r = up A 39 0 0 r := by
  rw [x_X12_arrears, g_X12_arrears_0]
  have hp' : up A 39 0 0 40 1683 = nI (hn (A 40)) := hp
  simp -implicitDefEqProofs only [hp_39_0, hv_39_1, aw_40_1683, hp', r_in1 hw, q_I, i1_0, if_false]
  obtain ⟨⟨B, o3, o4⟩, g', hg', e1, e2, e3⟩ := loop_RK (α := fA × Option Value × Option Value) (K := 1) (F := fun q i s => bd S (ex S (d + 2)) dflT E_X12_arrears q 27 [some (.ref 39), some (.int (nI n)), some (.int (nI i)), s.2.1, s.2.2] [] (Hh k E s.1 L T)) (N := 24) (P := fun i s => (∀ r, r ≠ 47 → s.1 r = up A 39 0 0 r) ∧ ∀ h, h < i → s.1 47 h = 0) (s := (up A 39 0 0, none, none)) (by
    rintro q i ⟨B, o3, o4⟩ hi ⟨h1, h2⟩
    have g0 : ¬ (24 : Int32) ≤ nI i := nI_ge hi (by decide)
    rw [g_X12_arrears_27]
    simp -implicitDefEqProofs only [if_neg g0, hv_39_17, nb0, sn_47 hi, nI_p1]
    refine ⟨(up B 47 i 0, o3, o4), q, Nat.le_refl _, rfl, fun r hr => by show up B 47 i 0 r = _; rw [up_ne hr]; exact h1 r hr, fun h hh => ?_⟩
    show up B 47 i 0 47 h = 0
    by_cases e : h = i
    · subst e; exact up_ii
    · rw [up_rr e]; exact h2 h (by omega)) ⟨fun _ _ => rfl, fun h hh => absurd hh (Nat.not_lt_zero h)⟩ 90000 99999 (by decide)
  simp only at e2 e3
  rw [show bd S (ex S (d + 2)) dflT E_X12_arrears 99999 27 [some (.ref 39), some (.int (nI n)), some (.int 0), none, none] [] (Hh k E (up A 39 0 0) L T) = _ from e1]
  obtain ⟨g2, rfl⟩ : ∃ g2, g' = g2 + 1 := ⟨g' - 1, by omega⟩
  rw [g_X12_arrears_27, if_pos (show (24 : Int32) ≤ nI 24 by decide)]
  refine loop_QK (α := fA × Int32 × Option Value) (K := 30) (F := fun q m s => bd S (ex S (d + 2)) dflT E_X12_arrears q 50 [some (.ref 39), some (.int (nI n)), some (.int s.2.1), some (.int (nI m)), s.2.2] [] (Hh k E s.1 L T)) (N := n + 1) (P := fun m s => Bt (up A 39 0 0) s.1 m ∧ cntF (tld (A 40) m) (hn (A 40)) = m ∧ (0 < m → ∃ j, j < hn (A 40) ∧ s.2.1 = nI j ∧ (0 : Int32) < arW (A 40) j ∧ rkA (arW (A 40)) (hn (A 40)) j + 1 = m)) (Q := fun r => ∃ B, r = some (.inl (some (.int (fnd (pAr (A 40) (nI n)) (hn (A 40)) 0))), Hh k E B L T) ∧ ∀ r, r ≠ 47 → B r = up A 39 0 0 r) ?_ ?_ (s := (B, -1, o4)) ?_ (by omega)
  · rintro q m ⟨B, x2, o⟩ hm ⟨h1, h2, h3⟩
    have g0 : ¬ nI n < nI m := nI_nlt (by omega) (by omega)
    rw [g_X12_arrears_50]
    simp -implicitDefEqProofs only [if_neg g0]
    rcases r_pick (S := S) (d := d) (k := k) (E := E) (L := L) (T := T) (A := up A 39 0 0) (n := n) hp' h24 h1 h2 (q + 29) (by omega) with ⟨e1, e2⟩ | ⟨j, g', o', e1, e2, e3, e4, e5⟩
    · left
      have e2 : ∀ h, h < hn (A 40) → (0 : Int32) < arW (A 40) h → rkA (arW (A 40)) (hn (A 40)) h < m := e2
      refine ⟨B, ?_, h1.1⟩
      rw [show bd S (ex S (d + 2)) dflT E_X12_arrears (q + 29) 60 [some (.ref 39), some (.int (nI n)), some (.int (-1)), some (.int (nI m)), some (.int 0)] [] (Hh k E B L T) = _ from e1, fnd_no]
      intro j _ hj
      unfold pAr
      by_cases hp : (0 : Int32) < arW (A 40) j
      · have := e2 j (by omega) hp
        have ne : ¬ nI (rkA (arW (A 40)) (hn (A 40)) j) = nI n := fun e => by
          have := (nI_eq (by omega) (by omega)).mp e
          omega
        simp [ne]
      · simp [hp]
    · right
      have e2 : j < hn (A 40) := e2
      have e3 : (0 : Int32) < arW (A 40) j := e3
      have e4 : rkA (arW (A 40)) (hn (A 40)) j = m := e4
      refine ⟨(up B 47 j 1, nI j, o'), g', by omega, (show bd S (ex S (d + 2)) dflT E_X12_arrears (q + 29) 60 [some (.ref 39), some (.int (nI n)), some (.int (-1)), some (.int (nI m)), some (.int 0)] [] (Hh k E B L T) = _ from e5), ⟨fun r hr => by show up B 47 j 1 r = _; rw [up_ne hr]; exact h1.1 r hr, fun h hh => ?_⟩, ?_, fun _ => ⟨j, e2, rfl, e3, by omega⟩⟩
      · show up B 47 j 1 47 h = _
        rw [show tld (up A 39 0 0 40) (m + 1) h = _ from tld_s (W := A 40) e2 e3 e4 hh]
        by_cases e : h = j
        · subst e; rw [up_ii]; simp
        · rw [up_rr e, show B 47 h = if tld (A 40) m h = true then 1 else 0 from h1.2 h hh]; simp [e]
      · rw [cntF_add1 (p := tld (A 40) m) e2 ?_ (fun o ho => tld_s e2 e3 e4 ho), h2]
        unfold tld; simp [e4]
  · rintro q ⟨B, x2, o⟩ ⟨h1, h2, h3⟩
    obtain ⟨j, j1, j2, j3, j4⟩ := h3 (by omega)
    simp only at j2
    rw [g_X12_arrears_50, if_pos (nI_lt (Nat.lt_succ_self n) (by omega))]
    refine ⟨B, ?_, h1.1⟩
    simp only
    rw [j2, fnd_yes (j := j) (Nat.zero_le _) (by omega)]
    · unfold pAr; rw [show rkA (arW (A 40)) (hn (A 40)) j = n by omega]; simp [j3]
    · intro o _ ho q
      unfold pAr at q
      simp -implicitDefEqProofs only [Bool.and_eq_true, decide_eq_true_eq] at q
      have := rk_N (a := arW (A 40)) (N := hn (A 40)) (h := o) (by omega)
      have := (nI_eq (by omega) (by omega)).mp q.2
      exact rk_inj (a := arW (A 40)) (by omega) j1 (by omega)
  · refine ⟨⟨e2, fun h hh => ?_⟩, cntF_zero (fun f hf => by unfold tld; simp), fun q => absurd q (by decide)⟩
    have hh' : h < hn (A 40) := hh
    show B 47 h = _
    rw [e3 h (by omega)]
    have : ¬ tld (up A 39 0 0 40) 0 h = true := by unfold tld; simp
    rw [if_neg this]
theorem p_arrears (hR : Rel c k E A T) (x : Int32) : PK c S (d + 6) k E A T 275 276 [.int x] cd0 := by
  have hI := Rel_w hR
  have h1 := hI.2.2.2.2.1.1
  have h24 := hI.2.2.2.2.1.2.1
  have l1 : A 11 0 = nI (hn (A 40)) := (Rel_h hR).1.trans h1
  intro L
  refine ⟨k, E, A, L, T, Or.inl ⟨some (.int (fnd (pAr (A 40) x) (hn (A 40)) 0)), rfl, ?_, fun M => ?_⟩⟩
  · simp -implicitDefEqProofs only [x_X11_arrears, g_X11_arrears_0, hv_0_1, hv_4_2, hc_11, c_ofRank l1 h24 (Rel_h hR).2.1, q_I]
  · rcases idx_c x (n := hn (A 40)) (by omega) with ⟨n, hn', rfl, hw⟩ | ⟨hx, hw⟩
    · obtain ⟨B, e1, e2⟩ := r_arr (S := S) (d := d + 3) (k := k) (E := E) (L := M) (T := T) h1 h24 hn' hw
      refine ⟨B, M, e1, rfl, by rw [e2 39 (by decide)]; exact up_ii, Rel_fr hR (fun r hr => by rw [e2 r (by omega)]; exact up_ne (by omega)) (fun r hr => by rw [e2 r (by omega)]; exact up_ne (by omega)) (by rw [e2 40 (by decide)]; rfl) (by rw [e2 41 (by decide)]; rfl) (by rw [e2 42 (by decide)]; rfl) (by rw [e2 39 (by decide)]; rfl) (by rw [e2 39 (by decide)]; rfl) (by rw [e2 39 (by decide)]; rfl)⟩
    · have w1 : up A 39 0 0 40 1683 = nI (hn (A 40)) := h1
      refine ⟨up A 39 0 0, M, ?_, rfl, up_ii, Rel_thr hR 0⟩
      rw [fnd_no]
      · simp -implicitDefEqProofs only [x_X12_arrears, g_X12_arrears_0, hp_39_0, hv_39_1, aw_40_1683, w1, r_in0 hw, q_I, i0_0, if_true]
      · intro j _ hj
        have hj' : j < hn (A 40) := by omega
        have hr := rk_N (a := arW (A 40)) hj'
        have ne : ¬ nI (rkA (arW (A 40)) (hn (A 40)) j) = x := by
          intro e; subst e
          rcases hx with hx | hx
          · exact nI_pos (by omega) hx
          · exact nI_ge hr (by omega) hx
        unfold pAr; simp [ne]
end RankC
