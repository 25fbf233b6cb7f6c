/-! the tape: fed, ended, where the fault is -/
section TapeB
variable {S : sT} {d c : Nat} {k : Value} {E : List dsc} {A A' : fA} {L : fL} {T : fT} {W : fW}
theorem Rel_tp (hR : Rel c k E A T) (h : ∀ r, r ≠ 1 → r ≠ 2 → r ≠ 3 → r ≠ 39 → r ≠ 42 → r ≠ 43 → A' r = A r) (h1 : ∃ n, n ≤ 400 ∧ A' 1 1 = nI n ∧ A' 39 5 = nI n) (h2 : ∀ i, i < 400 → A' 2 i = A' 42 i) (h3 : A' 1 2 = A' 39 10) (h4 : A' 39 3 = A 39 3) : Rel (c + 1) k E A' T := by
  obtain ⟨a1, a2, a3, a4, a5, a6, a7, a8, a9⟩ := hR
  have e40 : A' 40 = A 40 := h 40 (by decide) (by decide) (by decide) (by decide) (by decide) (by decide)
  refine ⟨?_, ?_, h1, h2, h3, ?_, KP_A (KP_c (Nat.le_succ c) a7) h4 (h 41 (by decide) (by decide) (by decide) (by decide) (by decide) (by decide)) (fun r hr => h r (by omega) (by omega) (by omega) (by omega) (by omega) (by omega)), by omega, by omega⟩
  · rw [e40]; exact Iv_c (Nat.le_succ c) a1
  · rw [e40]; exact LkA_A a2 (fun i hi => h _ (by omega) (by omega) (by omega) (by omega) (by omega) (by omega)) (fun r hr => h r (by have := hr.1; omega) (by have := hr.1; omega) (by have := hr.1; omega) (by have := hr.1; omega) (by have := hr.1; omega) (by have := hr.1; omega))
  · rw [h 36 (by decide) (by decide) (by decide) (by decide) (by decide) (by decide)]; exact a6
/-- a byte of a number -/
def byt (x s : Int32) : Int32 := ((x >>> (s &&& 31)).toInt8.toInt32).toInt8.toInt32
def bt (x : Int32) (j : Nat) : Int32 := byt x (nI (24 - 8 * j))
/-- the tape with m bytes of five numbers behind n -/
def tpN (t : Nat → Int32) (n : Nat) (f : Nat → Int32) (m : Nat) : Nat → Int32 := fun i => if n ≤ i ∧ i < n + m then bt (f ((i - n) / 4)) ((i - n) % 4) else t i
theorem tpN_0 (t : Nat → Int32) (n : Nat) (f : Nat → Int32) : tpN t n f 0 = t := by
  funext i; unfold tpN; rw [if_neg (by omega)]
theorem tpN_s (t : Nat → Int32) (n : Nat) (f : Nat → Int32) (m : Nat) : tpN t n f (m + 1) = upd (tpN t n f m) (n + m) (bt (f (m / 4)) (m % 4)) := by
  funext i
  simp -implicitDefEqProofs only [tpN, upd]
  by_cases q : i = n + m
  · subst q
    rw [if_pos (by omega), if_pos rfl, show n + m - n = m by omega]
  · rw [if_neg q]
    by_cases q2 : n ≤ i ∧ i < n + m
    · rw [if_pos (by omega), if_pos q2]
    · rw [if_neg (by omega), if_neg q2]
theorem c_addB {n q : Nat} {t f : Nat → Int32} {x : Int32} (hx : f q = x) (hn : A 1 1 = nI (n + 4 * q)) (h4 : n + 4 * q + 4 ≤ 400) (ht : A 2 = tpN t n f (4 * q)) : ∃ A', ex S (d + 1) 14 [.ref 1, .int x] (Hh k E A L T) = some (.inl none, Hh k E A' L T) ∧ A' 1 = upd (A 1) 1 (nI (n + 4 * (q + 1))) ∧ A' 2 = tpN t n f (4 * (q + 1)) ∧ ∀ r, r ≠ 1 → r ≠ 2 → A' r = A r := by
  have g0 : ¬ (400 : Int32) ≤ nI (n + 4 * q) := nI_ge (b := 400) (by omega) (by decide)
  have g1 : ¬ (400 : Int32) ≤ nI (n + 4 * q + 1) := nI_ge (b := 400) (by omega) (by decide)
  have g2 : ¬ (400 : Int32) ≤ nI (n + 4 * q + 2) := nI_ge (b := 400) (by omega) (by decide)
  have g3 : ¬ (400 : Int32) ≤ nI (n + 4 * q + 3) := nI_ge (b := 400) (by omega) (by decide)
  have e1 : (24 : Int32) + (-8) = 16 := by decide
  have e2 : (16 : Int32) + (-8) = 8 := by decide
  have e3 : (8 : Int32) + (-8) = 0 := by decide
  have e4 : (0 : Int32) + (-8) = -8 := by decide
  have n1 : ¬ (24 : Int32) < 0 := by decide
  have n2 : ¬ (16 : Int32) < 0 := by decide
  have n3 : ¬ (8 : Int32) < 0 := by decide
  have n4 : ¬ (0 : Int32) < 0 := by decide
  have n5 : (-8 : Int32) < 0 := by decide
  refine ⟨up (up (up (up (up (up (up (up A 2 (n + 4 * q) (byt x 24)) 1 1 (nI (n + 4 * q + 1))) 2 (n + 4 * q + 1) (byt x 16)) 1 1 (nI (n + 4 * q + 2))) 2 (n + 4 * q + 2) (byt x 8)) 1 1 (nI (n + 4 * q + 3))) 2 (n + 4 * q + 3) (byt x 0)) 1 1 (nI (n + 4 * q + 4)), ?_, ?_, ?_, fun r h1 h2 => by rw [up_ne h1, up_ne h2, up_ne h1, up_ne h2, up_ne h1, up_ne h2, up_ne h1, up_ne h2]⟩
  · rw [x_X6_addBytes, g_X6_addBytes_0, g_X6_addBytes_3]
    simp -implicitDefEqProofs only [if_neg n1, hg_1_1, hn, if_neg g0, hv_1_0, sn_2 (show n + 4 * q < 400 by omega), up_ne (show (1 : Nat) ≠ 2 by decide), hp_1_1, nI_p1, e1]
    rw [g_X6_addBytes_3]
    simp -implicitDefEqProofs only [if_neg n2, hg_1_1, up_ii, if_neg g1, hv_1_0, sn_2 (show n + 4 * q + 1 < 400 by omega), up_ne (show (1 : Nat) ≠ 2 by decide), hp_1_1, nI_p1, e2]
    rw [g_X6_addBytes_3]
    simp -implicitDefEqProofs only [if_neg n3, hg_1_1, up_ii, if_neg g2, hv_1_0, sn_2 (show n + 4 * q + 2 < 400 by omega), up_ne (show (1 : Nat) ≠ 2 by decide), hp_1_1, nI_p1, e3]
    rw [g_X6_addBytes_3]
    simp -implicitDefEqProofs only [if_neg n4, hg_1_1, up_ii, if_neg g3, hv_1_0, sn_2 (show n + 4 * q + 3 < 400 by omega), up_ne (show (1 : Nat) ≠ 2 by decide), hp_1_1, nI_p1, e4]
    rw [g_X6_addBytes_3, if_pos n5]
    rfl
  · rw [up_eq, up_ne (by decide), up_eq, up_ne (by decide), up_eq, up_ne (by decide), up_eq, up_ne (by decide), upd_two, upd_two, upd_two]
    rfl
  · rw [up_ne (by decide), up_eq, up_ne (by decide), up_eq, up_ne (by decide), up_eq, up_ne (by decide), up_eq, ht, show 4 * (q + 1) = 4 * q + 1 + 1 + 1 + 1 by omega, tpN_s, tpN_s, tpN_s, tpN_s, show (4 * q + 1 + 1 + 1) / 4 = q by omega, show (4 * q + 1 + 1 + 1) % 4 = 3 by omega, show (4 * q + 1 + 1) / 4 = q by omega, show (4 * q + 1 + 1) % 4 = 2 by omega, show (4 * q + 1) / 4 = q by omega, show (4 * q + 1) % 4 = 1 by omega, show 4 * q / 4 = q by omega, show 4 * q % 4 = 0 by omega, hx]
    rfl
def fiv (x1 x2 x3 x4 x5 : Int32) (i : Nat) : Int32 := match i with | 0 => x1 | 1 => x2 | 2 => x3 | 3 => x4 | _ => x5
theorem p_feed (hR : Rel c k E A T) (x1 x2 x3 x4 x5 : Int32) : PK c S (d + 6) k E A T 15 16 [.int x1, .int x2, .int x3, .int x4, .int x5] cd0 := by
  obtain ⟨n, hn, n1, n2⟩ := hR.2.2.1
  have ht := hR.2.2.2.1
  intro L
  by_cases q : n + 20 ≤ 400
  · obtain ⟨A1, r1, a1, b1, c1⟩ := c_addB (S := S) (d := d + 4) (k := k) (E := E) (L := L) (T := T) (A := A) (n := n) (q := 0) (t := A 2) (f := fiv x1 x2 x3 x4 x5) rfl n1 (by omega) (tpN_0 _ _ _).symm
    obtain ⟨A2, r2, a2, b2, c2⟩ := c_addB (S := S) (d := d + 4) (k := k) (E := E) (L := L) (T := T) (A := A1) (n := n) (q := 1) (t := A 2) (f := fiv x1 x2 x3 x4 x5) rfl (by rw [a1, upd_s]) (by omega) b1
    obtain ⟨A3, r3, a3, b3, c3⟩ := c_addB (S := S) (d := d + 4) (k := k) (E := E) (L := L) (T := T) (A := A2) (n := n) (q := 2) (t := A 2) (f := fiv x1 x2 x3 x4 x5) rfl (by rw [a2, upd_s]) (by omega) b2
    obtain ⟨A4, r4, a4, b4, c4⟩ := c_addB (S := S) (d := d + 4) (k := k) (E := E) (L := L) (T := T) (A := A3) (n := n) (q := 3) (t := A 2) (f := fiv x1 x2 x3 x4 x5) rfl (by rw [a3, upd_s]) (by omega) b3
    obtain ⟨A5, r5, a5, b5, c5⟩ := c_addB (S := S) (d := d + 4) (k := k) (E := E) (L := L) (T := T) (A := A4) (n := n) (q := 4) (t := A 2) (f := fiv x1 x2 x3 x4 x5) rfl (by rw [a4, upd_s]) (by omega) b4
    have r1 : ex S (d + 5) 14 [.ref 1, .int x1] (Hh k E A L T) = _ := r1
    have r2 : ex S (d + 5) 14 [.ref 1, .int x2] (Hh k E A1 L T) = _ := r2
    have r3 : ex S (d + 5) 14 [.ref 1, .int x3] (Hh k E A2 L T) = _ := r3
    have r4 : ex S (d + 5) 14 [.ref 1, .int x4] (Hh k E A3 L T) = _ := r4
    have r5 : ex S (d + 5) 14 [.ref 1, .int x5] (Hh k E A4 L T) = _ := r5
    have e5 : A5 1 1 = nI (n + 20) := by rw [a5, upd_s]
    have cc : ∀ r, r ≠ 1 → r ≠ 2 → A5 r = A r := fun r h1 h2 => (c5 r h1 h2).trans ((c4 r h1 h2).trans ((c3 r h1 h2).trans ((c2 r h1 h2).trans (c1 r h1 h2))))
    have g0 : nI n + 20 ≤ 400 := by rw [nI_p20]; exact nI_le (b := 400) q (by decide)
    refine ⟨k, E, A5, L, T, Or.inl ⟨some (.int (nI (n + 20))), rfl, ?_, fun M => ?_⟩⟩
    · simp -implicitDefEqProofs only [x_X11_feed, g_X11_feed_0, hv_0_0, hg_1_1, n1, if_pos g0, hc_1, r1, r2, r3, r4, r5, q_U, e5]
    · -- the reference
      generalize hB : up (up (up (up (up (up A5 39 0 0) 43 0 x1) 43 1 x2) 43 2 x3) 43 3 x4) 43 4 x5 = B
      have b39 : B 39 = upd (A5 39) 0 0 := by rw [← hB]; funext j; simp [up, upd]
      have n2' : A5 39 5 = nI n := by rw [cc 39 (by decide) (by decide)]; exact n2
      have b5' : B 39 5 = nI n := by rw [b39, upd_o (by decide)]; exact n2'
      have b42 : B 42 = A 42 := by rw [← hB]; show A5 42 = _; exact cc 42 (by decide) (by decide)
      have b43 : ∀ i, i < 5 → B 43 i = fiv x1 x2 x3 x4 x5 i := by
        intro i hi; rw [← hB]
        match i, hi with
        | 0, _ | 1, _ | 2, _ | 3, _ | 4, _ => rfl
      have f0 : up A5 39 0 0 39 5 = nI n := n2'
      rw [x_X12_feed, g_X12_feed_0]
      simp -implicitDefEqProofs only [hp_39_0, hg_39_5, f0, if_pos g0, hv_39_11, sw_43_0, sw_43_1, sw_43_2, sw_43_3, sw_43_4, hB]
      refine loop_Q (α := fA) (F := fun g i C => bd S (ex S (d + 5)) dflT E_X12_feed g 60 [some (.ref 39), some (.int x1), some (.int x2), some (.int x3), some (.int x4), some (.int x5), some (.int (nI i))] [] (Hh k E C M T)) (N := 20) (P := fun i C => C 42 = tpN (A 42) n (fiv x1 x2 x3 x4 x5) i ∧ ∀ r, r ≠ 42 → C r = B r) (Q := fun r => ∃ A2 L2, r = some (.inl (some (.int (nI (n + 20)))), Hh k E A2 L2 T) ∧ L2 48 = M 48 ∧ A2 39 0 = 0 ∧ Rel (c + 1) k E A2 T) ?_ ?_ (s := B) ⟨by rw [tpN_0]; exact b42, fun _ _ => rfl⟩ (by decide)
      · rintro g i C hi ⟨h1, h2⟩
        right
        have g1 : ¬ (20 : Int32) ≤ nI i := nI_ge hi (by decide)
        have c5' : C 39 5 = nI n := by rw [h2 39 (by decide)]; exact b5'
        have d1 : nI i / 4 = nI (i / 4) := pk_div (d := 4) (by omega) (by decide) (by decide)
        have d2 : nI i - nI i / 4 * 4 = nI (i % 4) := pk_rem (d := 4) (by omega) (by decide) (by decide)
        have d2 : nI i - nI (i / 4) * 4 = nI (i % 4) := by rw [← d1]; exact d2
        have d3 : (24 : Int32) - 8 * nI (i % 4) = nI (24 - 8 * (i % 4)) := by
          rw [show (8 : Int32) = nI 8 from rfl, pk_mul, show (24 : Int32) = nI 24 from rfl, pk_sub (by omega)]
        have v43 : C 43 (i / 4) = fiv x1 x2 x3 x4 x5 (i / 4) := by rw [h2 43 (by decide)]; exact b43 _ (by omega)
        rw [g_X12_feed_60]
        simp -implicitDefEqProofs only [if_neg g1, hv_39_4, hg_39_5, c5', hv_39_11, dv_4, d2, d3, d1, an_43 (show i / 4 < 5 by omega), v43, nI_add, sn_42 (show n + i < 400 by omega), nI_p1]
        refine ⟨_, rfl, ?_, fun r hr => by rw [up_ne hr]; exact h2 r hr⟩
        rw [up_eq, h1, tpN_s]
        rfl
      · rintro g C ⟨h1, h2⟩
        have c5' : C 39 5 = nI n := by rw [h2 39 (by decide)]; exact b5'
        rw [g_X12_feed_60, if_pos (by decide)]
        simp -implicitDefEqProofs only [hg_39_5, c5', nI_p20, hp_39_5, up_ii]
        have rB : ∀ r, r ≠ 39 → r ≠ 43 → B r = A5 r := fun r q1 q2 => by rw [← hB, up_ne q2, up_ne q2, up_ne q2, up_ne q2, up_ne q2, up_ne q1]
        refine ⟨_, _, rfl, rfl, ?_, Rel_tp hR (fun r q1 q2 q3 q4 q5 q6 => by rw [up_ne q4, h2 r q5, rB r q4 q6]; exact cc r q1 q2) ⟨n + 20, q, ?_, up_ii⟩ ?_ ?_ ?_⟩
        · rw [up_rr (by decide), h2 39 (by decide), b39, upd_s]
        · rw [up_ne (by decide), h2 1 (by decide), rB 1 (by decide) (by decide)]; exact e5
        · intro i hi
          rw [up_ne (by decide), up_ne (by decide), h2 2 (by decide), rB 2 (by decide) (by decide), b5, h1]
          unfold tpN
          rw [ht i hi]
        · rw [up_ne (by decide), up_rr (by decide), h2 1 (by decide), h2 39 (by decide), b39, upd_o (by decide), rB 1 (by decide) (by decide), cc 39 (by decide) (by decide), a5, upd_o (by decide), a4, upd_o (by decide), a3, upd_o (by decide), a2, upd_o (by decide), a1, upd_o (by decide)]
          exact hR.2.2.2.2.1
        · rw [up_rr (by decide), h2 39 (by decide), b39, upd_o (by decide), cc 39 (by decide) (by decide)]
  · have g0 : ¬ nI n + 20 ≤ 400 := by rw [nI_p20]; exact nI_ge (a := 400) (by omega) (by omega)
    have f0 : up A 39 0 0 39 5 = nI n := n2
    refine ⟨k, E, A, L, T, Or.inl ⟨some (.int (-1)), rfl, ?_, fun M => ⟨up A 39 0 0, M, ?_, rfl, up_ii, Rel_thr hR 0⟩⟩⟩
    · simp -implicitDefEqProofs only [x_X11_feed, g_X11_feed_0, hv_0_0, hg_1_1, n1, if_neg g0]
    · simp -implicitDefEqProofs only [x_X12_feed, g_X12_feed_0, hp_39_0, hg_39_5, f0, if_neg g0]
theorem p_end (hR : Rel c k E A T) (x : Int32) : PI c S (d + 6) k E A T 17 18 [.int x] cd0 := by
  obtain ⟨n, hn, n1, n2⟩ := hR.2.2.1
  have f0 : up A 39 0 0 39 5 = nI n := n2
  by_cases q1 : x < 0
  · refine ⟨k, E, A, T, up A 39 0 0, Rel_thr hR 0, Or.inl ⟨some (.int 0), rfl, fun L => ⟨L, ?_⟩, fun L => ⟨L, ?_, rfl⟩, up_ii⟩⟩
    · simp -implicitDefEqProofs only [x_X11_end, g_X11_end_0, if_pos q1, q_z0]
    · simp -implicitDefEqProofs only [x_X12_end, g_X12_end_0, hp_39_0, if_pos q1, q_z0]
  · by_cases q2 : x ≤ nI n
    · obtain ⟨j, hj, rfl⟩ := wi_n (M := n) (by omega) ⟨q1, Int32.not_lt.mpr q2⟩
      refine ⟨k, E, up A 1 1 (nI j), T, up (up (up A 1 1 (nI j)) 39 0 0) 39 5 (nI j), ?_, Or.inl ⟨some (.int 1), rfl, fun L => ⟨L, ?_⟩, fun L => ⟨L, ?_, rfl⟩, rfl⟩⟩
      · refine Rel_tp hR (fun r q1 q2 q3 q4 q5 q6 => by rw [up_ne q4, up_ne q4, up_ne q1]) ⟨j, by omega, rfl, up_ii⟩ (fun i hi => hR.2.2.2.1 i hi) ?_ rfl
        exact hR.2.2.2.2.1
      · simp -implicitDefEqProofs only [x_X11_end, g_X11_end_0, if_neg q1, hv_0_0, hg_1_1, n1, if_pos q2, hp_1_1, q_z1]
      · have f1 : up (up A 1 1 (nI j)) 39 0 0 39 5 = nI n := n2
        simp -implicitDefEqProofs only [x_X12_end, g_X12_end_0, hp_39_0, if_neg q1, hg_39_5, f1, if_pos q2, hp_39_5, q_z1]
    · refine ⟨k, E, A, T, up A 39 0 0, Rel_thr hR 0, Or.inl ⟨some (.int 0), rfl, fun L => ⟨L, ?_⟩, fun L => ⟨L, ?_, rfl⟩, up_ii⟩⟩
      · simp -implicitDefEqProofs only [x_X11_end, g_X11_end_0, if_neg q1, hv_0_0, hg_1_1, n1, if_neg q2, q_z0]
      · simp -implicitDefEqProofs only [x_X12_end, g_X12_end_0, hp_39_0, if_neg q1, hg_39_5, f0, if_neg q2, q_z0]
theorem p_fault (hR : Rel c k E A T) : PI c S (d + 6) k E A T 282 283 [] cd0 := by
  have e := hR.2.2.2.2.1
  refine ⟨k, E, A, T, up A 39 0 0, Rel_thr hR 0, Or.inl ⟨some (.int (A 1 2)), rfl, fun L => ⟨L, ?_⟩, fun L => ⟨L, ?_, rfl⟩, up_ii⟩⟩
  · simp -implicitDefEqProofs only [x_X11_fault, g_X11_fault_0, hv_0_0, hg_1_2]
  · rw [e]
    simp -implicitDefEqProofs only [x_X12_fault, g_X12_fault_0, hp_39_0, hg_39_10]
    rfl
end TapeB
