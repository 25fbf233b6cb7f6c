/-! PLANS: the least, the best; jobs and troubles are told -/
section PlanC
variable {S : sT} {d c : Nat} {k : Value} {E : List dsc} {A : fA} {L : fL} {T : fT} {W : fW}
theorem jobT_rg {set : Int32} {y k : Nat} (hk : k < 6) (hJ : IvJb W) : rg (jobT W set y k) (-100000) 10000 := by
  obtain ⟨-, -, h⟩ := hJ
  obtain ⟨⟨a1, a2⟩, b1, b2⟩ := h k hk
  unfold jobT rg
  split
  · decide
  · split
    · split
      · rw [n32 (by omega)]; omega
      · decide
    · omega
theorem sumJ_rg {set : Int32} {y n : Nat} (hn : n ≤ 6) (hJ : IvJb W) : rg (sumI (jobT W set y) n) (-100000 * n) (10000 * n) := by
  induction n with
  | zero => unfold rg; simp -implicitDefEqProofs only [sumI]; decide
  | succ n ih =>
    obtain ⟨a1, a2⟩ := ih (by omega)
    obtain ⟨b1, b2⟩ := jobT_rg (set := set) (y := y) (k := n) (by omega) hJ
    unfold rg sumI
    rw [a32 (by omega) (by omega)]
    omega
theorem end_rg {set f ch x : Int32} (hJ : IvJb W) (hx : rg x 0 1000000) (hf : rg f (-200000) 100000) (hc : rg ch (-1000) 1000) {n : Nat} (hn : n ≤ 30) {z : Int32} (h : endY W set f ch x n = some z) : rg z 0 (1000000 + 200000 * n) := by
  induction n generalizing z with
  | zero => simp -implicitDefEqProofs only [endY, Option.some.injEq] at h; subst h; exact ⟨hx.1, by have := hx.2; omega⟩
  | succ n ih =>
    unfold endY at h
    cases e : endY W set f ch x n with
    | none => rw [e] at h; cases h
    | some v =>
      rw [e] at h
      obtain ⟨a1, a2⟩ := ih (by omega) e
      obtain ⟨b1, b2⟩ := sumJ_rg (set := set) (y := n) (n := jn W) hJ.2.1 hJ
      have hj := hJ.2.1
      obtain ⟨f1, f2⟩ := hf
      obtain ⟨c1, c2⟩ := hc
      have e1 : (nI n).toInt = (n : Int) := nI_toInt (by omega)
      have m1 : -30000 ≤ ch.toInt * (n : Int) := by
        have : (-1000) * (n : Int) ≤ ch.toInt * n := Int.mul_le_mul_of_nonneg_right c1 (by omega)
        omega
      have m2 : ch.toInt * (n : Int) ≤ 30000 := by
        have : ch.toInt * (n : Int) ≤ 1000 * n := Int.mul_le_mul_of_nonneg_right c2 (by omega)
        omega
      have t1 : (ch * nI n).toInt = ch.toInt * n := by rw [m32 (by rw [e1]; omega) (by rw [e1]; omega), e1]
      have t2 : (f + ch * nI n).toInt = f.toInt + ch.toInt * n := by rw [a32 (by rw [t1]; omega) (by rw [t1]; omega), t1]
      have t3 : ((f + ch * nI n) + sumI (jobT W set n) (jn W)).toInt = f.toInt + ch.toInt * n + (sumI (jobT W set n) (jn W)).toInt := by rw [a32 (by rw [t2]; omega) (by rw [t2]; omega), t2]
      have t4 : (v + ((f + ch * nI n) + sumI (jobT W set n) (jn W))).toInt = v.toInt + (f.toInt + ch.toInt * n + (sumI (jobT W set n) (jn W)).toInt) := by rw [a32 (by rw [t3]; omega) (by rw [t3]; omega), t3]
      simp only at h
      split at h
      · rename_i hp
        cases h
        have e0 : (0 : Int32).toInt = 0 := rfl
        rw [Int32.le_iff_toInt_le, e0] at hp
        refine ⟨hp, ?_⟩
        rw [t4]
        have e1 : (f.toInt + ch.toInt * n + (sumI (jobT W set n) (jn W)).toInt) ≤ 200000 := by omega
        omega
      · cases h
/-- a trouble's end -/
def endT (W : fW) (x q set : Int32) (t : Nat) : Int32 := endV (endY W set (W (2257 + 2 * t) - q) (W (2257 + 2 * t + 1)) x 30)
theorem endT_c {x q set : Int32} {t : Nat} (hJ : IvJb W) (hT : IvTb W) (ht : t < 4) (hx : rg x 0 1000000) (hq : rg q 0 100000) : endT W x q set t = -1000000000 ∨ rg (endT W x q set t) 0 7000000 := by
  unfold endT
  obtain ⟨⟨a1, a2⟩, b⟩ := hT.2.2 t ht
  cases e : endY W set (W (2257 + 2 * t) - q) (W (2257 + 2 * t + 1)) x 30 with
  | none => exact Or.inl rfl
  | some z =>
    right
    obtain ⟨q1, q2⟩ := hq
    have := end_rg hJ hx (by unfold rg; rw [s32 (by omega) (by omega)]; omega) b (n := 30) (Nat.le_refl _) e
    exact ⟨this.1, by have := this.2; simp -implicitDefEqProofs only [endV]; omega⟩
def lstT (W : fW) (x q set : Int32) : Nat → Int32
  | 0 => 2000000000
  | n + 1 => if endT W x q set n < lstT W x q set n then endT W x q set n else lstT W x q set n
def lstW (W : fW) (x q set : Int32) : Int32 := if W 2256 = 0 then endV (endY W set (0 - q) 0 x 30) else lstT W x q set (tn W)
theorem r_wset {x q set : Int32} (hj : A 40 2237 = nI (jn (A 40)) ∧ jn (A 40) ≤ 6) (ht : A 40 2256 = nI (tn (A 40)) ∧ tn (A 40) ≤ 4) : ex S (d + 2) 339 [.ref 39, .int x, .int q, .int set] (Hh k E A L T) = some (.inl (some (.int (lstW (A 40) x q set))), Hh k E A L T) := by
  rw [x_X12_worthOfSet, g_X12_worthOfSet_0]
  obtain ⟨t1, t2⟩ := ht
  unfold lstW
  simp -implicitDefEqProofs only [hv_39_1, aw_40_2256]
  by_cases h0 : A 40 2256 = 0
  · rw [if_pos h0, if_pos h0]
    simp -implicitDefEqProofs only [hc_39, r_ends hj, q_I]
  · rw [if_neg h0, if_neg h0]
    refine loop_Q (α := Unit) (F := fun m t _ => bd S (ex S (d + 1)) dflT E_X12_worthOfSet m 29 [some (.ref 39), some (.int x), some (.int q), some (.int set), some (.int (lstT (A 40) x q set t)), some (.int (nI t))] [] (Hh k E A L T)) (N := tn (A 40)) (P := fun _ _ => True) (Q := fun r => r = some (.inl (some (.int (lstT (A 40) x q set (tn (A 40))))), Hh k E A L T)) ?_ ?_ (s := ()) trivial (by omega)
    · intro n t _ h _
      right
      refine ⟨(), ?_, trivial⟩
      have g0 : ¬ nI (tn (A 40)) ≤ nI t := nI_ge h (by omega)
      simp -implicitDefEqProofs only [g_X12_worthOfSet_29, hv_39_1, aw_40_2256, t1, if_neg g0, ix_2257, nI_p1, an_40 (show 2257 + 2 * t < 35877 by omega), an_40 (show 2257 + 2 * t + 1 < 35877 by omega), hc_39, r_ends hj, q_I]
      rfl
    · intro n _ _
      simp -implicitDefEqProofs only [g_X12_worthOfSet_29, hv_39_1, aw_40_2256, t1]
      rw [if_pos (Int32.le_refl _)]
theorem c_least {x q set : Int32} (hP : LkP (A 27) (A 28) (A 29) (A 30) (A 31) (A 32) W) (hJ : IvJb W) (hT : IvTb W) (hx : rg x 0 1000000) (hq : rg q 0 100000) : ex S (d + 3) 334 [.ref 27, .int x, .int q, .int set] (Hh k E A L T) = some (.inl (some (.int (lstW W x q set))), Hh k E A L T) := by
  rw [x_X5_leastEnd, g_X5_leastEnd_0]
  have hj : W 2237 = nI (jn W) ∧ jn W ≤ 6 := ⟨hJ.1, hJ.2.1⟩
  have t1 := hT.1
  have t2 := hT.2.1
  obtain ⟨p1, p2, p3, p4⟩ := id hP
  unfold lstW
  simp -implicitDefEqProofs only [hg_27_1, p2]
  by_cases h0 : W 2256 = 0
  · rw [if_pos h0, if_pos h0]
    simp -implicitDefEqProofs only [hc_27, c_endOf hP hj, q_I]
    rw [g_X5_leastEnd_44]
    simp -implicitDefEqProofs only [hg_27_1, p2, h0]
    rw [if_pos (by decide), Int32.zero_sub]
  · rw [if_neg h0, if_neg h0]
    have h1 : tn W ≠ 0 := fun e => h0 (by rw [t1, e]; rfl)
    have e0 : lstT W x q set 1 = endT W x q set 0 := by
      have e9 : lstT W x q set 1 = if endT W x q set 0 < (2000000000 : Int32) then endT W x q set 0 else 2000000000 := rfl
      rw [e9]
      rcases endT_c (set := set) (t := 0) hJ hT (by omega) hx hq with e | e
      · rw [e, if_pos (by decide)]
      · rw [if_pos]
        rw [Int32.lt_iff_toInt_lt]
        have e1 : (2000000000 : Int32).toInt = 2000000000 := rfl
        have := e.2
        omega
    obtain ⟨a1, a2⟩ := p4 0 (by omega)
    simp -implicitDefEqProofs only [hv_27_5, hv_27_6, aw_31_0, aw_32_0, a1, a2, hc_27, c_endOf hP hj, q_I]
    refine loop_Q (α := Unit) (F := fun m t _ => bd S (ex S (d + 2)) dflT E_X5_leastEnd m 44 [some (.ref 27), some (.int x), some (.int q), some (.int set), some (.int (lstT W x q set (t + 1))), some (.int (nI (t + 1)))] [] (Hh k E A L T)) (N := tn W - 1) (P := fun _ _ => True) (Q := fun r => r = some (.inl (some (.int (lstT W x q set (tn W)))), Hh k E A L T)) ?_ ?_ (s := ()) trivial (by omega) |> (fun h => by rw [e0] at h; exact h)
    · intro n t _ h _
      right
      refine ⟨(), ?_, trivial⟩
      have g0 : ¬ nI (tn W) ≤ nI (t + 1) := nI_ge (by omega) (by omega)
      obtain ⟨a1, a2⟩ := p4 (t + 1) (by omega)
      simp -implicitDefEqProofs only [g_X5_leastEnd_44, hg_27_1, p2, t1, if_neg g0, hv_27_5, hv_27_6, an_31 (show t + 1 < 4 by omega), an_32 (show t + 1 < 4 by omega), a1, a2, hc_27, c_endOf hP hj, q_I, nI_p1]
      rfl
    · intro n _ _
      have e : tn W - 1 + 1 = tn W := by omega
      simp -implicitDefEqProofs only [g_X5_leastEnd_44, hg_27_1, p2, t1, e]
      rw [if_pos (Int32.le_refl _)]
theorem lst_c {x q set : Int32} (hJ : IvJb W) (hT : IvTb W) (hx : rg x 0 1000000) (hq : rg q 0 100000) : lstW W x q set = -1000000000 ∨ 0 ≤ (lstW W x q set).toInt := by
  unfold lstW
  split
  · cases e : endY W set (0 - q) 0 x 30 with
    | none => exact Or.inl rfl
    | some z =>
      right
      obtain ⟨q1, q2⟩ := hq
      exact (end_rg hJ hx (by unfold rg; rw [s32 (by rw [show (0 : Int32).toInt = 0 from rfl]; omega) (by rw [show (0 : Int32).toInt = 0 from rfl]; omega), show (0 : Int32).toInt = 0 from rfl]; omega) (by unfold rg; decide) (n := 30) (Nat.le_refl _) e).1
  · have : ∀ n, n ≤ 4 → lstT W x q set n = -1000000000 ∨ 0 ≤ (lstT W x q set n).toInt := by
      intro n
      induction n with
      | zero => intro _; right; show 0 ≤ (2000000000 : Int32).toInt; decide
      | succ n ih =>
        intro hn
        unfold lstT
        split
        · rcases endT_c (set := set) (t := n) hJ hT (by omega) hx hq with e | e
          · exact Or.inl e
          · exact Or.inr e.1
        · exact ih (by omega)
    exact this _ hT.2.1
theorem p_worth (hR : Rel c k E A T) (x q set : Int32) : PI c S (d + 6) k E A T 335 340 [.int x, .int q, .int set] cdA := by
  obtain ⟨-, -, -, -, -, -, -, hJ, hT, -, -⟩ := Rel_w hR
  by_cases q1 : wi x 0 1000000
  · by_cases q2 : wi q 0 100000
    · refine ⟨k, E, A, T, up A 39 0 0, Rel_thr hR 0, Or.inl ⟨some (.int (lstW (A 40) x q set)), rfl, fun L => ⟨L, ?_⟩, fun L => ⟨L, ?_, rfl⟩, up_ii⟩⟩
      · simp -implicitDefEqProofs only [x_X11_worth, g_X11_worth_0, c_in1 q1, c_in1 q2, q_U, hv_0_1, hv_4_5, hc_27, c_least (Rel_p hR) hJ hT (rg_wi q1) (rg_wi q2), q_I]
      · simp -implicitDefEqProofs only [x_X12_worth, g_X12_worth_0, hp_39_0, hc_39, x_X12_noPlan, g_X12_noPlan_0, r_in1 q1, r_in1 q2, q_I, i1_0, if_false, q_z0, r_thr0, i0_0, if_true, r_wset (A := up A 39 0 0) ⟨hJ.1, hJ.2.1⟩ ⟨hT.1, hT.2.1⟩]
        rfl
    · refine ⟨k, E, A, T, up A 39 0 1, Rel_thr hR 1, Or.inr ⟨1, by decide, fun L => ⟨L, ?_⟩, fun L => ⟨L, some (.int 0), rfl, ?_, rfl⟩, up_ii⟩⟩
      · simp -implicitDefEqProofs only [x_X11_worth, g_X11_worth_0, c_in1 q1, c_in0 q2, q_U, q_Ue]
      · simp -implicitDefEqProofs only [x_X12_worth, g_X12_worth_0, hp_39_0, hc_39, x_X12_noPlan, g_X12_noPlan_0, r_in1 q1, r_in0 q2, q_I, i1_0, if_false, q_z1, r_thr1, i0_0, if_true, up_up]
  · refine ⟨k, E, A, T, up A 39 0 1, Rel_thr hR 1, Or.inr ⟨1, by decide, fun L => ⟨L, ?_⟩, fun L => ⟨L, some (.int 0), rfl, ?_, rfl⟩, up_ii⟩⟩
    · simp -implicitDefEqProofs only [x_X11_worth, g_X11_worth_0, c_in0 q1, q_Ue]
    · simp -implicitDefEqProofs only [x_X12_worth, g_X12_worth_0, hp_39_0, hc_39, x_X12_noPlan, g_X12_noPlan_0, r_in0 q1, q_I, i1_0, if_false, q_z1, r_thr1, i0_0, if_true, up_up]
/-- how many bits -/
theorem bc_ex (x : Int32) : ∃ b, ∀ (S : sT) (d : Nat) (h : pH), ex S (d + 1) 341 [.int x] h = some (.inl (some (.int b)), h) := ⟨_, fun S d h => by rw [x_J6_bitCount_0f7a4, g_J6_bitCount_0f7a4_0]⟩
noncomputable def bcW (x : Int32) : Int32 := Classical.choose (bc_ex x)
theorem j_bc {x : Int32} {h : pH} : ex S (d + 1) 341 [.int x] h = some (.inl (some (.int (bcW x))), h) := Classical.choose_spec (bc_ex x) S d h
/-- the best set among the first so many, and its end -/
noncomputable def bst (W : fW) (x q : Int32) : Nat → Int32 × Int32
  | 0 => (-1, -1000000000)
  | n + 1 => let s := bst W x q n; let v := lstW W x q (nI n)
    if v = -1000000000 then s else if s.1 < 0 then (nI n, v) else if v < s.2 then s else if v = s.2 then (if bcW (nI n) < bcW s.1 then (nI n, v) else s) else (nI n, v)
theorem bst_c {x q : Int32} (hJ : IvJb W) (hT : IvTb W) (hx : rg x 0 1000000) (hq : rg q 0 100000) {n : Nat} (hn : n ≤ 64) : bst W x q n = (-1, -1000000000) ∨ (∃ j, j < n ∧ (bst W x q n).1 = nI j) ∧ 0 ≤ (bst W x q n).2.toInt := by
  induction n with
  | zero => exact Or.inl rfl
  | succ n ih =>
    have h := ih (by omega)
    have hv := lst_c (set := nI n) hJ hT hx hq
    have keep : bst W x q n = (-1, -1000000000) ∨ (∃ j, j < n + 1 ∧ (bst W x q n).1 = nI j) ∧ 0 ≤ (bst W x q n).2.toInt := by
      rcases h with h | ⟨⟨j, hj, e⟩, h⟩
      · exact Or.inl h
      · exact Or.inr ⟨⟨j, by omega, e⟩, h⟩
    unfold bst
    simp only
    split
    · exact keep
    · rename_i hne
      have hv2 := hv.resolve_left hne
      split
      · exact Or.inr ⟨⟨n, by omega, rfl⟩, hv2⟩
      · split
        · exact keep
        · split
          · split
            · exact Or.inr ⟨⟨n, by omega, rfl⟩, hv2⟩
            · exact keep
          · exact Or.inr ⟨⟨n, by omega, rfl⟩, hv2⟩
theorem shl_n {n : Nat} (hn : n ≤ 6) : (1 : Int32) <<< (nI n &&& 31) = nI (2 ^ n) := by
  match n, hn with
  | 0, _ | 1, _ | 2, _ | 3, _ | 4, _ | 5, _ | 6, _ => decide
theorem two_le {n : Nat} (hn : n ≤ 6) : 2 ^ n ≤ 64 := by
  match n, hn with
  | 0, _ | 1, _ | 2, _ | 3, _ | 4, _ | 5, _ | 6, _ => decide
theorem c_best {x q : Int32} (hP : LkP (A 27) (A 28) (A 29) (A 30) (A 31) (A 32) W) (hJ : IvJb W) (hT : IvTb W) (hx : rg x 0 1000000) (hq : rg q 0 100000) : ex S (d + 4) 342 [.ref 27, .int x, .int q] (Hh k E A L T) = some (.inl (some (.int (bst W x q (2 ^ jn W)).1)), Hh k E A L T) := by
  rw [x_X5_bestSet, g_X5_bestSet_0]
  have j1 := hJ.1
  have j2 := hJ.2.1
  have t64 := two_le j2
  refine loop_QK (α := Option Value × Option Value) (K := 2) (F := fun m f s => bd S (ex S (d + 3)) dflT E_X5_bestSet m 9 [some (.ref 27), some (.int x), some (.int q), some (.int (bst W x q f).1), some (.int (bst W x q f).2), some (.int (nI f)), s.1, s.2] [] (Hh k E A L T)) (N := 2 ^ jn W) (P := fun _ _ => True) (Q := fun r => r = some (.inl (some (.int (bst W x q (2 ^ jn W)).1)), Hh k E A L T)) ?_ ?_ (s := (none, none)) trivial (by omega)
  · rintro n f ⟨o1, o2⟩ hf _
    right
    have g0 : ¬ nI (2 ^ jn W) ≤ nI f := nI_ge hf (by omega)
    have hb := bst_c hJ hT hx hq (n := f) (by omega)
    have hv := lst_c (set := nI f) hJ hT hx hq
    have e : bst W x q (f + 1) = if lstW W x q (nI f) = -1000000000 then bst W x q f else if (bst W x q f).1 < 0 then (nI f, lstW W x q (nI f)) else if lstW W x q (nI f) < (bst W x q f).2 then bst W x q f else if lstW W x q (nI f) = (bst W x q f).2 then (if bcW (nI f) < bcW (bst W x q f).1 then (nI f, lstW W x q (nI f)) else bst W x q f) else (nI f, lstW W x q (nI f)) := rfl
    have e9 : (-1000000000 : Int32).toInt = -1000000000 := rfl
    simp -implicitDefEqProofs only [g_X5_bestSet_9, g_X5_bestSet_52, hg_27_0, hP.1, j1, shl_n j2, if_neg g0, hc_27, c_least hP hJ hT hx hq, q_I, j_bc, nI_p1]
    rw [e]
    generalize lstW W x q (nI f) = v at *
    rcases hb with hb | ⟨⟨j, hj, hb1⟩, hb2⟩
    · rw [hb]
      simp -implicitDefEqProofs only [if_true]
      rcases hv with hv | hv
      · subst hv
        exact ⟨(some (.int (-1000000000)), some (.int 0)), n, Nat.le_refl _, by simp, trivial⟩
      · have h1 : (-1000000000 : Int32) < v := by rw [Int32.lt_iff_toInt_lt, e9]; omega
        have h2 : ¬ v = -1000000000 := fun q => by rw [q] at h1; exact absurd h1 (by decide)
        rw [if_pos h1, if_neg h2, if_pos (by decide)]
        exact ⟨(_, _), n, Nat.le_refl _, rfl, trivial⟩
    · generalize (bst W x q f) = s at *
      have h0 : ¬ s.1 = -1 := fun q => by rw [hb1] at q; exact absurd (q ▸ nI_pos' (show j < 2 ^ 31 by omega)) (by decide)
      have h3 : ¬ s.1 < 0 := by rw [hb1]; exact nI_pos (by omega)
      rw [if_neg h0, if_neg h3]
      rcases hv with hv | hv
      · have h1 : ¬ s.2 < v := by rw [Int32.lt_iff_toInt_lt, hv, e9]; omega
        have h2 : ¬ v = s.2 := fun q => by rw [hv] at q; rw [← q, e9] at hb2; omega
        rw [if_pos hv, if_neg h1, if_neg h2, if_neg h1, if_neg h2]
        by_cases h7 : bcW s.1 ≤ bcW (nI f)
        · simp -implicitDefEqProofs only [if_pos h7]; exact ⟨(_, _), n, Nat.le_refl _, rfl, trivial⟩
        · simp -implicitDefEqProofs only [if_neg h7]; exact ⟨(_, _), n, Nat.le_refl _, rfl, trivial⟩
      · have h5 : ¬ v = -1000000000 := fun q => by rw [q, e9] at hv; omega
        rw [if_neg h5]
        by_cases h1 : s.2 < v
        · have h2 : ¬ v < s.2 := fun q => absurd (Int32.lt_trans h1 q) (Int32.lt_irrefl)
          have h4 : ¬ v = s.2 := fun q => by rw [q] at h1; exact absurd h1 (Int32.lt_irrefl)
          simp -implicitDefEqProofs only [if_pos h1, if_neg h2, if_neg h4]
          by_cases h7 : bcW s.1 ≤ bcW (nI f)
          · simp -implicitDefEqProofs only [if_pos h7]; exact ⟨(_, _), n, Nat.le_refl _, rfl, trivial⟩
          · simp -implicitDefEqProofs only [if_neg h7]; exact ⟨(_, _), n, Nat.le_refl _, rfl, trivial⟩
        · by_cases h4 : v = s.2
          · have h2 : ¬ v < s.2 := by rw [h4]; exact Int32.lt_irrefl
            simp -implicitDefEqProofs only [if_neg h1, if_neg h2, if_pos h4]
            by_cases h6 : bcW s.1 ≤ bcW (nI f)
            · simp -implicitDefEqProofs only [if_pos h6, if_neg (Int32.not_lt.mpr h6), if_true]
              exact ⟨(_, _), n, Nat.le_refl _, rfl, trivial⟩
            · simp -implicitDefEqProofs only [if_neg h6, if_pos (Int32.not_le.mp h6), i1_0, if_false]
              exact ⟨(_, _), n, Nat.le_refl _, rfl, trivial⟩
          · have h2 : v < s.2 := by
              rw [Int32.lt_iff_toInt_lt] at h1 ⊢
              have : v.toInt ≠ s.2.toInt := fun q => h4 (i32_ext q)
              omega
            simp -implicitDefEqProofs only [if_neg h1, if_pos h2, if_neg h4]
            by_cases h7 : bcW s.1 ≤ bcW (nI f)
            · simp -implicitDefEqProofs only [if_pos h7]; exact ⟨(_, _), n, Nat.le_refl _, rfl, trivial⟩
            · simp -implicitDefEqProofs only [if_neg h7]; exact ⟨(_, _), n, Nat.le_refl _, rfl, trivial⟩
  · rintro n ⟨o1, o2⟩ _
    simp -implicitDefEqProofs only [g_X5_bestSet_9, hg_27_0, hP.1, j1, shl_n j2]
    rw [if_pos (Int32.le_refl _)]
theorem p_best (hR : Rel c k E A T) (x q : Int32) : PI c S (d + 7) k E A T 343 345 [.int x, .int q] cdA := by
  obtain ⟨-, -, -, -, -, -, -, hJ, hT, -, -⟩ := Rel_w hR
  by_cases q1 : wi x 0 1000000
  · by_cases q2 : wi q 0 100000
    · refine ⟨k, E, A, T, up A 39 0 0, Rel_thr hR 0, Or.inl ⟨some (.int (bst (A 40) x q (2 ^ jn (A 40))).1), rfl, fun L => ⟨L, ?_⟩, fun L => ⟨L, ?_, rfl⟩, up_ii⟩⟩
      · simp -implicitDefEqProofs only [x_X11_best, g_X11_best_0, c_in1 q1, c_in1 q2, q_U, hv_0_1, hv_4_5, hc_27, c_best (Rel_p hR) hJ hT (rg_wi q1) (rg_wi q2), q_I]
      · simp -implicitDefEqProofs only [x_X12_best, g_X12_best_0, hp_39_0, hc_39, x_X12_noPlan, g_X12_noPlan_0, r_in1 q1, r_in1 q2, q_I, i1_0, if_false, q_z0, r_thr0, i0_0, if_true]
        have j1 := hJ.1
        have j2 := hJ.2.1
        have t64 := two_le j2
        refine loop_Q (α := Option Value) (F := fun m f s => bd S (ex S (d + 6)) dflT E_X12_best m 31 [some (.ref 39), some (.int x), some (.int q), some (.int (bst (A 40) x q f).1), some (.int (bst (A 40) x q f).2), some (.int (nI f)), s] [] (Hh k E (up A 39 0 0) L T)) (N := 2 ^ jn (A 40)) (P := fun _ _ => True) (Q := fun r => r = some (.inl (some (.int (bst (A 40) x q (2 ^ jn (A 40))).1)), Hh k E (up A 39 0 0) L T)) ?_ ?_ (s := none) trivial (by omega)
        · intro n f o hf _
          right
          have g0 : ¬ nI (2 ^ jn (A 40)) ≤ nI f := nI_ge hf (by omega)
          have e : bst (A 40) x q (f + 1) = if lstW (A 40) x q (nI f) = -1000000000 then bst (A 40) x q f else if (bst (A 40) x q f).1 < 0 then (nI f, lstW (A 40) x q (nI f)) else if lstW (A 40) x q (nI f) < (bst (A 40) x q f).2 then bst (A 40) x q f else if lstW (A 40) x q (nI f) = (bst (A 40) x q f).2 then (if bcW (nI f) < bcW (bst (A 40) x q f).1 then (nI f, lstW (A 40) x q (nI f)) else bst (A 40) x q f) else (nI f, lstW (A 40) x q (nI f)) := rfl
          have f0 : up A 39 0 0 40 = A 40 := rfl
          have j1' : up A 39 0 0 40 2237 = nI (jn (A 40)) := j1
          simp -implicitDefEqProofs only [g_X12_best_31, hv_39_1, aw_40_2237, j1', shl_n j2, if_neg g0, hc_39, r_wset (A := up A 39 0 0) ⟨hJ.1, hJ.2.1⟩ ⟨hT.1, hT.2.1⟩, f0, q_I, j_bc, nI_p1]
          rw [e]
          split
          · exact ⟨_, rfl, trivial⟩
          · split
            · exact ⟨_, rfl, trivial⟩
            · split
              · exact ⟨_, rfl, trivial⟩
              · split
                · split
                  · exact ⟨_, rfl, trivial⟩
                  · exact ⟨_, rfl, trivial⟩
                · exact ⟨_, rfl, trivial⟩
        · intro n o _
          have j1' : up A 39 0 0 40 2237 = nI (jn (A 40)) := j1
          simp -implicitDefEqProofs only [g_X12_best_31, hv_39_1, aw_40_2237, j1', shl_n j2]
          rw [if_pos (Int32.le_refl _)]
    · refine ⟨k, E, A, T, up A 39 0 1, Rel_thr hR 1, Or.inr ⟨1, by decide, fun L => ⟨L, ?_⟩, fun L => ⟨L, some (.int 0), rfl, ?_, rfl⟩, up_ii⟩⟩
      · simp -implicitDefEqProofs only [x_X11_best, g_X11_best_0, c_in1 q1, c_in0 q2, q_U, q_Ue]
      · simp -implicitDefEqProofs only [x_X12_best, g_X12_best_0, hp_39_0, hc_39, x_X12_noPlan, g_X12_noPlan_0, r_in1 q1, r_in0 q2, q_I, i1_0, if_false, q_z1, r_thr1, i0_0, if_true, up_up]
  · refine ⟨k, E, A, T, up A 39 0 1, Rel_thr hR 1, Or.inr ⟨1, by decide, fun L => ⟨L, ?_⟩, fun L => ⟨L, some (.int 0), rfl, ?_, rfl⟩, up_ii⟩⟩
    · simp -implicitDefEqProofs only [x_X11_best, g_X11_best_0, c_in0 q1, q_Ue]
    · simp -implicitDefEqProofs only [x_X12_best, g_X12_best_0, hp_39_0, hc_39, x_X12_noPlan, g_X12_noPlan_0, r_in0 q1, q_I, i1_0, if_false, q_z1, r_thr1, i0_0, if_true, up_up]
end PlanC
