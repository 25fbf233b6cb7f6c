/-! conditions, in the class and in the reference -/
section HoldsB
variable {S : sT} {d c : Nat} {k : Value} {E : List dsc} {A : fA} {L : fL} {T : fT} {W : fW}
def CsL (L : fL) (Fc v : Nat → Int64) (m : Nat) : Prop := (∀ j, j < 11 → L 37 j = Fc j) ∧ ∀ j, j < m → L 37 (11 + j) = v j
theorem uL_s (v : Nat → Int64) (i : Nat) (x : Int64) : uL v i x i = x := by simp [uL]
theorem uL_o {v : Nat → Int64} {i j : Nat} {x : Int64} (h : j ≠ i) : uL v i x j = v j := by simp [uL, h]
theorem upL_ii {a i : Nat} {x : Int64} : upL L a i x a i = x := by simp [upL]
theorem upL_rr {a i j : Nat} {x : Int64} (h : j ≠ i) : upL L a i x a j = L a j := by simp [upL, h]
theorem CsL_put {Fc v : Nat → Int64} {m i : Nat} {x : Int64} (h : CsL L Fc v m) (hi : i ≤ m) : CsL (upL L 37 (11 + i) x) Fc (uL v i x) (i + 1) := by
  refine ⟨fun j hj => by rw [upL_rr (by omega)]; exact h.1 j hj, fun j hj => ?_⟩
  by_cases e : j = i
  · subst e; rw [upL_ii, uL_s]
  · rw [upL_rr (by omega), uL_o e]; exact h.2 j (by omega)
theorem tr_f : ∀ f, f < 11 → ∀ n, tr (nI f) n = -1 - nI f ∧ ¬ (-1 - nI f : Int32) ≤ -12 ∧ (-1 - nI f : Int32) < 0 ∧ (-1 : Int32) - (-1 - nI f) = nI f := by
  intro f hf n
  match f, hf with
  | 0, _ | 1, _ | 2, _ | 3, _ | 4, _ | 5, _ | 6, _ | 7, _ | 8, _ | 9, _ | 10, _ => exact ⟨rfl, by decide, by decide, by decide⟩
theorem c_step {Fc v : Nat → Int64} {m : Nat} {s n : Int32} {st st' : List Bool} (h : ck1 s n st = some st') (ht : Ty st v m) (hc : CsL L Fc v m) (hm : m ≤ 20) : ∃ L', ex S (d + 1) 198 [.int (tr s n), .int (nI (11 + m)), .ref 37] (Hh k E A L T) = some (.inl (some (.int (nI (11 + (st1 Fc s n v m).2)))), Hh k E A L' T) ∧ CsL L' Fc (st1 Fc s n v m).1 (st1 Fc s n v m).2 ∧ ∀ r, r ≠ 37 → L' r = L r := by
  have hlen := ht.1
  have g11 : ¬ nI (11 + m) < 11 := nI_nlt (b := 11) (by omega) (by omega)
  rcases ck_c h with ⟨rfl, hn, hl, -⟩ | ⟨f, hf, rfl, hl, -⟩ | ⟨rfl, r, hst, -⟩ | ⟨rfl, r, hst, -⟩ | ⟨e, r, hst, -⟩ | ⟨e, r, hst, -⟩
  · -- a number
    have g0 : ¬ n ≤ (-12 : Int32) := fun q => hn (Int32.lt_of_le_of_lt q (by decide))
    have g1 : nI (11 + m) < nI 51 := nI_lt (by omega) (by decide)
    refine ⟨upL L 37 (11 + m) n.toInt64, ?_, CsL_put hc (Nat.le_refl _), fun r hr => upL_ne hr⟩
    rw [show tr 100 n = n from rfl]
    simp -implicitDefEqProofs only [x_X8_step, g_X8_step_0, if_neg g0, if_neg g11, q_iR, hl_37, if_pos g1, if_neg hn, sn_37 (show 11 + m < 51 by omega), nI_p1]
    rfl
  · obtain ⟨e1, g0, g2, e2⟩ := tr_f f hf n
    have g1 : nI (11 + m) < nI 51 := nI_lt (by omega) (by decide)
    have es : st1 Fc (nI f) n v m = (uL v m (Fc f), m + 1) := by
      unfold st1
      have n1 : ¬ nI f = 100 := fun e => by rw [show (100 : Int32) = nI 100 from rfl, nI_eq (by omega) (by decide)] at e; omega
      rw [if_neg n1, if_pos (show nI f < 100 from nI_lt (b := 100) (by omega) (by decide)), nI_clamp (by omega)]
    rw [es, e1]
    refine ⟨upL L 37 (11 + m) (Fc f), ?_, CsL_put hc (Nat.le_refl _), fun r hr => upL_ne hr⟩
    simp -implicitDefEqProofs only [x_X8_step, g_X8_step_0, if_neg g0, if_neg g11, q_iR, hl_37, if_pos g1, if_pos g2, e2, an_37 (show f < 51 by omega), hc.1 f hf, sn_37 (show 11 + m < 51 by omega), nI_p1]
    rfl
  · have hm1 : 1 ≤ m := by rw [hlen, hst]; simp
    obtain ⟨q, rfl⟩ : ∃ q, m = q + 1 := ⟨m - 1, by omega⟩
    have g0 : ¬ nI (11 + (q + 1)) < (11 : Int32) + 1 := nI_nlt (b := 12) (by omega) (by omega)
    have g1 : nI (11 + (q + 1)) ≤ nI 51 := nI_le (by omega) (by decide)
    have e1 : nI (11 + (q + 1)) - 1 = nI (11 + q) := nI_pred (11 + q)
    refine ⟨upL L 37 (11 + q) (1 - v q), ?_, CsL_put (i := q) hc (by omega), fun r hr => upL_ne hr⟩
    rw [show tr 104 n = -15 from rfl]
    simp -implicitDefEqProofs only [x_X8_step, g_X8_step_0, g_X8_step_55, if_pos (show (-15 : Int32) ≤ -12 by decide), if_true, if_neg g0, q_iR, hl_37, if_pos g1, e1, an_37 (show 11 + q < 51 by omega), hc.2 q (by omega), q_nr, sn_37 (show 11 + q < 51 by omega)]
    rfl
  · have hm1 : 2 ≤ m := by rw [hlen, hst]; simp
    obtain ⟨q, rfl⟩ : ∃ q, m = q + 2 := ⟨m - 2, by omega⟩
    have g0 : ¬ nI (11 + (q + 2)) < (11 : Int32) + 2 := nI_nlt (b := 13) (by omega) (by omega)
    have g1 : nI (11 + (q + 2)) ≤ nI 51 := nI_le (by omega) (by decide)
    have e1 : nI (11 + (q + 2)) - 1 = nI (11 + (q + 1)) := nI_pred (11 + (q + 1))
    have e2 : nI (11 + (q + 2)) - 2 = nI (11 + q) := by rw [show (2 : Int32) = nI 2 from rfl, pk_sub (by omega)]; rfl
    refine ⟨upL L 37 (11 + q) (v q + v (q + 1)), ?_, CsL_put (i := q) hc (by omega), fun r hr => upL_ne hr⟩
    rw [show tr 101 n = -12 from rfl]
    simp -implicitDefEqProofs only [x_X8_step, g_X8_step_0, g_X8_step_55, if_pos (show (-12 : Int32) ≤ -12 by decide), if_neg (show ¬ (-12 : Int32) = -15 by decide), if_neg g0, q_iR, hl_37, if_pos g1, e1, e2, an_37 (show 11 + (q + 1) < 51 by omega), an_37 (show 11 + q < 51 by omega), hc.2 q (by omega), hc.2 (q + 1) (by omega), q_nr, if_true, sn_37 (show 11 + q < 51 by omega)]
    rfl
  · have hm1 : 2 ≤ m := by rw [hlen, hst]; simp
    obtain ⟨q, rfl⟩ : ∃ q, m = q + 2 := ⟨m - 2, by omega⟩
    have g0 : ¬ nI (11 + (q + 2)) < (11 : Int32) + 2 := nI_nlt (b := 13) (by omega) (by omega)
    have g1 : nI (11 + (q + 2)) ≤ nI 51 := nI_le (by omega) (by decide)
    have e1 : nI (11 + (q + 2)) - 1 = nI (11 + (q + 1)) := nI_pred (11 + (q + 1))
    have e2 : nI (11 + (q + 2)) - 2 = nI (11 + q) := by rw [show (2 : Int32) = nI 2 from rfl, pk_sub (by omega)]; rfl
    rcases e with rfl | rfl
    · refine ⟨upL L 37 (11 + q) (if v (q + 1) ≤ v q then 0 else 1), ?_, CsL_put (i := q) hc (by omega), fun r hr => upL_ne hr⟩
      rw [show tr 102 n = -13 from rfl]
      simp -implicitDefEqProofs only [x_X8_step, g_X8_step_0, g_X8_step_55, if_pos (show (-13 : Int32) ≤ -12 by decide), if_neg (show ¬ (-13 : Int32) = -15 by decide), if_neg g0, q_iR, hl_37, if_pos g1, e1, e2, an_37 (show 11 + (q + 1) < 51 by omega), an_37 (show 11 + q < 51 by omega), hc.2 q (by omega), hc.2 (q + 1) (by omega), q_nr, if_neg (show ¬ (-13 : Int32) = -12 by decide), if_neg (show ¬ (-13 : Int32) = -16 by decide), if_neg (show ¬ (-13 : Int32) = -17 by decide), if_true, sn_37 (show 11 + q < 51 by omega), lg_cmp_ge]
      by_cases z : v (q + 1) ≤ v q
      · rw [if_pos z, if_pos z]; rfl
      · rw [if_neg z, if_neg z]; rfl
    · refine ⟨upL L 37 (11 + q) (if v q ≤ v (q + 1) then 0 else 1), ?_, CsL_put (i := q) hc (by omega), fun r hr => upL_ne hr⟩
      rw [show tr 103 n = -14 from rfl]
      simp -implicitDefEqProofs only [x_X8_step, g_X8_step_0, g_X8_step_55, if_pos (show (-14 : Int32) ≤ -12 by decide), if_neg (show ¬ (-14 : Int32) = -15 by decide), if_neg g0, q_iR, hl_37, if_pos g1, e1, e2, an_37 (show 11 + (q + 1) < 51 by omega), an_37 (show 11 + q < 51 by omega), hc.2 q (by omega), hc.2 (q + 1) (by omega), q_nr, if_neg (show ¬ (-14 : Int32) = -12 by decide), if_neg (show ¬ (-14 : Int32) = -16 by decide), if_neg (show ¬ (-14 : Int32) = -17 by decide), if_neg (show ¬ (-14 : Int32) = -13 by decide), sn_37 (show 11 + q < 51 by omega), lg_cmp_le]
      by_cases z : v q ≤ v (q + 1)
      · rw [if_pos z, if_pos z]; rfl
      · rw [if_neg z, if_neg z]; rfl
  · have hm1 : 2 ≤ m := by rw [hlen, hst]; simp
    obtain ⟨q, rfl⟩ : ∃ q, m = q + 2 := ⟨m - 2, by omega⟩
    have g0 : ¬ nI (11 + (q + 2)) < (11 : Int32) + 2 := nI_nlt (b := 13) (by omega) (by omega)
    have g1 : nI (11 + (q + 2)) ≤ nI 51 := nI_le (by omega) (by decide)
    have e1 : nI (11 + (q + 2)) - 1 = nI (11 + (q + 1)) := nI_pred (11 + (q + 1))
    have e2 : nI (11 + (q + 2)) - 2 = nI (11 + q) := by rw [show (2 : Int32) = nI 2 from rfl, pk_sub (by omega)]; rfl
    have h1 := ht.2 (q + 1) (by omega) (by rw [hst, show q + 2 - 1 - (q + 1) = 0 by omega]; rfl)
    have h2 := ht.2 q (by omega) (by rw [hst, show q + 2 - 1 - q = 1 by omega]; rfl)
    rcases e with rfl | rfl
    · have ev : v q &&& v (q + 1) = op2 105 (v q) (v (q + 1)) := by
        rcases h1 with h1 | h1 <;> rcases h2 with h2 | h2 <;> rw [h1, h2] <;> decide
      refine ⟨upL L 37 (11 + q) (op2 105 (v q) (v (q + 1))), ?_, CsL_put (i := q) hc (by omega), fun r hr => upL_ne hr⟩
      rw [show tr 105 n = -16 from rfl]
      simp -implicitDefEqProofs only [x_X8_step, g_X8_step_0, g_X8_step_55, if_pos (show (-16 : Int32) ≤ -12 by decide), if_neg (show ¬ (-16 : Int32) = -15 by decide), if_neg g0, q_iR, hl_37, if_pos g1, e1, e2, an_37 (show 11 + (q + 1) < 51 by omega), an_37 (show 11 + q < 51 by omega), hc.2 q (by omega), hc.2 (q + 1) (by omega), q_nr, if_neg (show ¬ (-16 : Int32) = -12 by decide), if_true, sn_37 (show 11 + q < 51 by omega), ev]
      rfl
    · have ev : v q ||| v (q + 1) = op2 106 (v q) (v (q + 1)) := by
        rcases h1 with h1 | h1 <;> rcases h2 with h2 | h2 <;> rw [h1, h2] <;> decide
      refine ⟨upL L 37 (11 + q) (op2 106 (v q) (v (q + 1))), ?_, CsL_put (i := q) hc (by omega), fun r hr => upL_ne hr⟩
      rw [show tr 106 n = -17 from rfl]
      simp -implicitDefEqProofs only [x_X8_step, g_X8_step_0, g_X8_step_55, if_pos (show (-17 : Int32) ≤ -12 by decide), if_neg (show ¬ (-17 : Int32) = -15 by decide), if_neg g0, q_iR, hl_37, if_pos g1, e1, e2, an_37 (show 11 + (q + 1) < 51 by omega), an_37 (show 11 + q < 51 by omega), hc.2 q (by omega), hc.2 (q + 1) (by omega), q_nr, if_neg (show ¬ (-17 : Int32) = -12 by decide), if_neg (show ¬ (-17 : Int32) = -16 by decide), if_true, sn_37 (show 11 + q < 51 by omega), ev]
      rfl
/-- the run of the kinds, step by step -/
theorem ckN_s {cc : Nat → Int32 × Int32} {i q : Nat} {st fin : List Bool} (h : ckN cc i (q + 1) st = some fin) : ∃ st', ck1 (cc i).1 (cc i).2 st = some st' ∧ ckN cc (i + 1) q st' = some fin := by
  unfold ckN at h
  cases e : ck1 (cc i).1 (cc i).2 st with
  | none => rw [e] at h; cases h
  | some st' => rw [e] at h; exact ⟨st', rfl, h⟩
theorem ck_len {s n : Int32} {st st' : List Bool} (h : ck1 s n st = some st') (hl : st.length ≤ 20) : st'.length ≤ 20 := by
  rcases ck_c h with ⟨-, -, h1, rfl⟩ | ⟨f, -, -, h1, rfl⟩ | ⟨-, r, rfl, rfl⟩ | ⟨-, r, rfl, rfl⟩ | ⟨-, r, rfl, rfl⟩ | ⟨-, r, rfl, rfl⟩ <;> simp at * <;> omega
theorem c_holds {a b nl nc B n : Nat} {Fc : Nat → Int64} (h : TX k E A a b nl nc W B) (hn : n < nl) (hF : ∀ j, j < 11 → L 37 j = Fc j) : ∃ L', ex S (d + 2) 199 [.ref a, .int (nI n), .ref 37] (Hh k E A L T) = some (.inl (some (.int (hlW W B n Fc))), Hh k E A L' T) ∧ (∀ j, j < 11 → L' 37 j = Fc j) ∧ ∀ r, r ≠ 37 → L' r = L r := by
  obtain ⟨n1, n2⟩ := tx_n h
  obtain ⟨h1, h2, h3, h4, h5, h6⟩ := id h
  obtain ⟨-, -, -, -, -, -, -, -, i, j, wi, wj, hij, hjn, hck⟩ := h4.2.2.2 n hn
  rw [x_X8_holds, g_X8_holds_0]
  simp -implicitDefEqProofs only [tl h1, h3, tc h1, c_tg5 h hn, c_tg4 h hn, q_I, q_nr, mx_6, wi, wj, nI_add]
  -- the loop over the steps
  have loop : ∀ q i st v m (L : fL) (g : Nat) (fin : List Bool), i + q = j → ckN (cds W B) i q st = some fin → Ty st v m → m ≤ 20 → CsL L Fc v m → q + 2 ≤ g →
      ∃ L' g', 1 ≤ g' ∧ bd S (ex S (d + 1)) dflT E_X8_holds g 35 [some (.ref a), some (.int (nI n)), some (.ref 37), some (.int (nI (6 * nl + j))), some (.int (nI (11 + m))), some (.int (nI (6 * nl + i)))] [] (Hh k E A L T) = bd S (ex S (d + 1)) dflT E_X8_holds g' 72 [some (.ref a), some (.int (nI n)), some (.ref 37), some (.int (nI (6 * nl + j))), some (.int (nI (11 + (rnN Fc (cds W B) i q (v, m)).2))), some (.int (nI (6 * nl + j)))] [] (Hh k E A L' T) ∧ Ty fin (rnN Fc (cds W B) i q (v, m)).1 (rnN Fc (cds W B) i q (v, m)).2 ∧ CsL L' Fc (rnN Fc (cds W B) i q (v, m)).1 (rnN Fc (cds W B) i q (v, m)).2 ∧ ∀ r, r ≠ 37 → L' r = L r := by
    intro q
    induction q with
    | zero =>
      intro i st v m L g fin hi hk ht hm hc hg
      obtain ⟨g1, rfl⟩ : ∃ g1, g = g1 + 1 := ⟨g - 1, by omega⟩
      have e : i = j := by omega
      subst e
      unfold ckN at hk; cases hk
      refine ⟨L, g1, by omega, ?_, ht, hc, fun _ _ => rfl⟩
      rw [g_X8_holds_35, if_pos (Int32.le_refl _)]
      rfl
    | succ q ih =>
      intro i st v m L g fin hi hk ht hm hc hg
      obtain ⟨g1, rfl⟩ : ∃ g1, g = g1 + 1 := ⟨g - 1, by omega⟩
      obtain ⟨st', k1, k2⟩ := ckN_s hk
      have g0 : ¬ nI (6 * nl + j) ≤ nI (6 * nl + i) := nI_ge (by omega) (by omega)
      have g2 : ¬ nI (6 * nl + nc) ≤ nI (6 * nl + i) := nI_ge (by omega) (by omega)
      have e6 : A b (6 * nl + i) = tr (cds W B i).1 (cds W B i).2 := h6 i (by omega)
      obtain ⟨L1, s1, s2, s3⟩ := c_step (S := S) (d := d) (k := k) (E := E) (A := A) (T := T) k1 ht hc hm
      have ht' := st1_ty (Fc := Fc) k1 ht
      have hl' : (st1 Fc (cds W B i).1 (cds W B i).2 v m).2 ≤ 20 := by rw [ht'.1]; exact ck_len k1 (by rw [← ht.1]; exact hm)
      obtain ⟨L', g', a1, a2, a3, a4, a5⟩ := ih (i + 1) st' _ _ L1 g1 fin (by omega) k2 ht' hl' s2 (by omega)
      refine ⟨L', g', a1, ?_, a3, a4, fun r hr => (a5 r hr).trans (s3 r hr)⟩
      rw [g_X8_holds_35]
      simp -implicitDefEqProofs only [if_neg g0, tv h1, tal h2, if_neg g2, ta h2 (show 6 * nl + i < 6 * nl + nc by omega) (by omega), e6, q_iR, s1, q_I, nI_p1]
      exact a2
  have hc0 : CsL L Fc (fun _ => 0) 0 := ⟨hF, fun q hq => absurd hq (Nat.not_lt_zero q)⟩
  have ht0 : Ty [] (fun _ => (0 : Int64)) 0 := ⟨rfl, fun q hq => absurd hq (Nat.not_lt_zero q)⟩
  unfold hlW
  rw [wi, wj]
  rcases hck with e | hck
  · subst e
    rw [if_pos rfl]
    obtain ⟨L', g', a1, a2, -, a4, a5⟩ := loop 0 i [] (fun _ => 0) 0 L 99999 [] (by omega) rfl ht0 (by omega) hc0 (by decide)
    refine ⟨L', ?_, a4.1, a5⟩
    obtain ⟨g2, rfl⟩ : ∃ g2, g' = g2 + 1 := ⟨g' - 1, by omega⟩
    rw [show bd S (ex S (d + 1)) dflT E_X8_holds 99999 35 [some (.ref a), some (.int (nI n)), some (.ref 37), some (.int (nI (6 * nl + i))), some (.int 11), some (.int (nI (6 * nl + i)))] [] (Hh k E A L T) = _ from a2, g_X8_holds_72, if_pos (by show nI 11 ≤ 11; decide), q_z1]
  · by_cases e : i = j
    · subst e
      rw [Nat.sub_self] at hck
      unfold ckN at hck; cases hck
    · have ne : ¬ nI i = nI j := fun q => e ((nI_eq (by omega) (by omega)).mp q)
      rw [if_neg ne, nI_clamp (by omega), nI_clamp (by omega)]
      obtain ⟨L', g', a1, a2, a3, a4, a5⟩ := loop (j - i) i [] (fun _ => 0) 0 L 99999 [true] (by omega) hck ht0 (by omega) hc0 (by omega)
      refine ⟨L', ?_, a4.1, a5⟩
      obtain ⟨g2, rfl⟩ : ∃ g2, g' = g2 + 1 := ⟨g' - 1, by omega⟩
      generalize rnN Fc (cds W B) i (j - i) (fun _ => 0, 0) = p at *
      have p2 : p.2 = 1 := a3.1
      have p1 := a3.2 0 (by omega) (by rw [p2]; rfl)
      have c11 : L' 37 11 = p.1 0 := a4.2 0 (by omega)
      rw [show bd S (ex S (d + 1)) dflT E_X8_holds 99999 35 [some (.ref a), some (.int (nI n)), some (.ref 37), some (.int (nI (6 * nl + j))), some (.int 11), some (.int (nI (6 * nl + i)))] [] (Hh k E A L T) = _ from a2, g_X8_holds_72, p2, if_neg (by decide)]
      simp -implicitDefEqProofs only [q_iR, aw_37_11, c11, lg_cmp_eq, q_z0, q_z1]
      rcases p1 with p1 | p1 <;> rw [p1]
      · rw [if_pos rfl, if_neg (by decide)]
      · rw [if_neg (by decide), if_pos rfl]
end HoldsB
