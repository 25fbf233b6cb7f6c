/-! conditions, in the reference -/
section HoldsC
variable {S : sT} {d c : Nat} {k : Value} {E : List dsc} {A : fA} {L : fL} {T : fT} {W : fW}
def RsL (L : fL) (Fc v : Nat → Int64) (m : Nat) : Prop := (∀ j, j < 11 → L 45 j = Fc j) ∧ ∀ j, j < m → L 44 j = v j
theorem RsL_put {Fc v : Nat → Int64} {m i : Nat} {x : Int64} (h : RsL L Fc v m) (hi : i ≤ m) : RsL (upL L 44 i x) Fc (uL v i x) (i + 1) := by
  refine ⟨fun j hj => by rw [upL_ne (by decide)]; exact h.1 j hj, fun j hj => ?_⟩
  by_cases e : j = i
  · subst e; rw [upL_ii, uL_s]
  · rw [upL_rr e, uL_o e]; exact h.2 j (by omega)
theorem r_hstep {t n i m j : Nat} {Fc v : Nat → Int64} {st st' : List Bool} {o6 o7 o8 o9 o10 : Option Value} (ht : t < 37) (hn : n < 16) (hi : i < j) (hj : j ≤ 400) (wj : A 40 (tx t + 2 + 6 * n + 5) = nI j) (h : ck1 (cds (A 40) (tx t) i).1 (cds (A 40) (tx t) i).2 st = some st') (hty : Ty st v m) (hc : RsL L Fc v m) (hm : m ≤ 20) (g : Nat) : ∃ L' p6 p7 p8 p9 p10, bd S (ex S (d + 2)) dflT E_X12_holds (g + 1) 19 [some (.ref 39), some (.int (nI t)), some (.int (nI n)), some (.int (nI (tx t + 2 + 6 * n))), some (.int (nI m)), some (.int (nI i)), o6, o7, o8, o9, o10] [] (Hh k E A L T) = bd S (ex S (d + 2)) dflT E_X12_holds g 19 [some (.ref 39), some (.int (nI t)), some (.int (nI n)), some (.int (nI (tx t + 2 + 6 * n))), some (.int (nI (st1 Fc (cds (A 40) (tx t) i).1 (cds (A 40) (tx t) i).2 v m).2)), some (.int (nI (i + 1))), p6, p7, p8, p9, p10] [] (Hh k E A L' T) ∧ RsL L' Fc (st1 Fc (cds (A 40) (tx t) i).1 (cds (A 40) (tx t) i).2 v m).1 (st1 Fc (cds (A 40) (tx t) i).1 (cds (A 40) (tx t) i).2 v m).2 ∧ ∀ r, r ≠ 44 → L' r = L r := by
  have hlen := hty.1
  have g0 : ¬ nI j ≤ nI i := nI_ge hi (by omega)
  have i1 : tx t + 98 + 2 * i + 1 < 35877 := by unfold tx; omega
  have i5 : tx t + 2 + 6 * n + 5 < 35877 := by unfold tx; omega
  have cx : ∀ B i, cds (A 40) B i = (A 40 (B + 98 + 2 * i), A 40 (B + 98 + 2 * i + 1)) := fun _ _ => rfl
  rw [cx] at h ⊢
  simp only at h ⊢
  rw [g_X12_holds_19]
  simp -implicitDefEqProofs only [hv_39_1, nI_p5, an_40 i5, wj, if_neg g0, r_tat, q_I, nI_p98, mx_2, nI_add, an_40 (show tx t + 98 + 2 * i < 35877 by omega), nI_p1, an_40 i1]
  generalize hs : A 40 (tx t + 98 + 2 * i) = s at *
  generalize A 40 (tx t + 98 + 2 * i + 1) = x at *
  rcases ck_c h with ⟨rfl, hnn, hl, -⟩ | ⟨f, hf, rfl, hl, -⟩ | ⟨rfl, r, hst, -⟩ | ⟨rfl, r, hst, -⟩ | ⟨e, r, hst, -⟩ | ⟨e, r, hst, -⟩
  · rw [if_neg (by decide)]
    simp -implicitDefEqProofs only [hv_39_13, if_true, sn_44 (show m < 400 by omega)]
    exact ⟨upL L 44 m x.toInt64, _, _, _, _, _, rfl, RsL_put hc (Nat.le_refl _), fun r hr => upL_ne hr⟩
  · have n1 : ¬ nI f = 100 := fun e => by rw [show (100 : Int32) = nI 100 from rfl, nI_eq (by omega) (by decide)] at e; omega
    have n2 : nI f < 100 := nI_lt (b := 100) (by omega) (by decide)
    have n3 : ¬ (100 : Int32) < nI f := nI_nlt (a := 100) (by omega) (by decide)
    have es : st1 Fc (nI f) x v m = (uL v m (Fc f), m + 1) := by
      unfold st1; rw [if_neg n1, if_pos n2, nI_clamp (by omega)]
    rw [es, if_neg n3]
    simp -implicitDefEqProofs only [hv_39_13, if_neg n1, hv_39_14, an_45 (show f < 11 by omega), hc.1 f hf, sn_44 (show m < 400 by omega)]
    exact ⟨upL L 44 m (Fc f), _, _, _, _, _, rfl, RsL_put hc (Nat.le_refl _), fun r hr => upL_ne hr⟩
  · have hm1 : 1 ≤ m := by rw [hlen, hst]; simp
    obtain ⟨q, rfl⟩ : ∃ q, m = q + 1 := ⟨m - 1, by omega⟩
    rw [if_pos (by decide), if_pos rfl]
    simp -implicitDefEqProofs only [hv_39_13, nI_pred, an_44 (show q < 400 by omega), hc.2 q (by omega), sn_44 (show q < 400 by omega)]
    exact ⟨upL L 44 q (1 - v q), _, _, _, _, _, rfl, RsL_put (i := q) hc (by omega), fun r hr => upL_ne hr⟩
  · have hm1 : 2 ≤ m := by rw [hlen, hst]; simp
    obtain ⟨q, rfl⟩ : ∃ q, m = q + 2 := ⟨m - 2, by omega⟩
    have e1 : nI (q + 2) + (-1) = nI (q + 1) := pk_m1 (q + 1)
    rw [if_pos (by decide), if_neg (by decide)]
    simp -implicitDefEqProofs only [hv_39_13, e1, nI_pred, an_44 (show q < 400 by omega), an_44 (show q + 1 < 400 by omega), hc.2 q (by omega), hc.2 (q + 1) (by omega), if_true, sn_44 (show q < 400 by omega)]
    exact ⟨upL L 44 q (v q + v (q + 1)), _, _, _, _, _, rfl, RsL_put (i := q) hc (by omega), fun r hr => upL_ne hr⟩
  · have hm1 : 2 ≤ m := by rw [hlen, hst]; simp
    obtain ⟨q, rfl⟩ : ∃ q, m = q + 2 := ⟨m - 2, by omega⟩
    have e1 : nI (q + 2) + (-1) = nI (q + 1) := pk_m1 (q + 1)
    rcases e with rfl | rfl
    · rw [if_pos (by decide), if_neg (by decide)]
      simp -implicitDefEqProofs only [hv_39_13, e1, nI_pred, an_44 (show q < 400 by omega), an_44 (show q + 1 < 400 by omega), hc.2 q (by omega), hc.2 (q + 1) (by omega), if_neg (show ¬ (102 : Int32) = 101 by decide), if_true, sn_44 (show q < 400 by omega), lg_cmp_ge]
      refine ⟨upL L 44 q (if v (q + 1) ≤ v q then 0 else 1), some (.int 102), some (.long (v q)), none, some (.long (v (q + 1))), none, ?_, RsL_put (i := q) hc (by omega), fun r hr => upL_ne hr⟩
      by_cases z : v (q + 1) ≤ v q
      · rw [if_pos z, if_pos z]; rfl
      · rw [if_neg z, if_neg z]; rfl
    · rw [if_pos (by decide), if_neg (by decide)]
      simp -implicitDefEqProofs only [hv_39_13, e1, nI_pred, an_44 (show q < 400 by omega), an_44 (show q + 1 < 400 by omega), hc.2 q (by omega), hc.2 (q + 1) (by omega), if_neg (show ¬ (103 : Int32) = 101 by decide), if_neg (show ¬ (103 : Int32) = 102 by decide), if_true, sn_44 (show q < 400 by omega), lg_cmp_le]
      refine ⟨upL L 44 q (if v q ≤ v (q + 1) then 0 else 1), some (.int 103), some (.long (v q)), none, some (.long (v (q + 1))), none, ?_, RsL_put (i := q) hc (by omega), fun r hr => upL_ne hr⟩
      by_cases z : v q ≤ v (q + 1)
      · rw [if_pos z, if_pos z]; rfl
      · rw [if_neg z, if_neg z]; rfl
  · have hm1 : 2 ≤ m := by rw [hlen, hst]; simp
    obtain ⟨q, rfl⟩ : ∃ q, m = q + 2 := ⟨m - 2, by omega⟩
    have e1 : nI (q + 2) + (-1) = nI (q + 1) := pk_m1 (q + 1)
    rcases e with rfl | rfl
    · rw [if_pos (by decide), if_neg (by decide)]
      simp -implicitDefEqProofs only [hv_39_13, e1, nI_pred, an_44 (show q < 400 by omega), an_44 (show q + 1 < 400 by omega), hc.2 q (by omega), hc.2 (q + 1) (by omega), if_neg (show ¬ (105 : Int32) = 101 by decide), if_neg (show ¬ (105 : Int32) = 102 by decide), if_neg (show ¬ (105 : Int32) = 103 by decide), if_true, sn_44 (show q < 400 by omega)]
      exact ⟨upL L 44 q (v q * v (q + 1)), _, _, _, _, _, rfl, RsL_put (i := q) hc (by omega), fun r hr => upL_ne hr⟩
    · rw [if_pos (by decide), if_neg (by decide)]
      simp -implicitDefEqProofs only [hv_39_13, e1, nI_pred, an_44 (show q < 400 by omega), an_44 (show q + 1 < 400 by omega), hc.2 q (by omega), hc.2 (q + 1) (by omega), if_neg (show ¬ (106 : Int32) = 101 by decide), if_neg (show ¬ (106 : Int32) = 102 by decide), if_neg (show ¬ (106 : Int32) = 103 by decide), if_neg (show ¬ (106 : Int32) = 105 by decide), sn_44 (show q < 400 by omega)]
      exact ⟨upL L 44 q (if v (q + 1) < v q then v q else v (q + 1)), _, _, _, _, _, rfl, RsL_put (i := q) hc (by omega), fun r hr => upL_ne hr⟩
theorem r_holds {t n nl nc : Nat} {Fc : Nat → Int64} (hw : WT (A 40) (tx t) nl nc) (ht : t < 37) (hn : n < nl) (hF : ∀ j, j < 11 → L 45 j = Fc j) : ∃ L', ex S (d + 3) 239 [.ref 39, .int (nI t), .int (nI n)] (Hh k E A L T) = some (.inl (some (.int (hlW (A 40) (tx t) n Fc))), Hh k E A L' T) ∧ (∀ j, j < 11 → L' 45 j = Fc j) ∧ ∀ r, r ≠ 44 → L' r = L r := by
  have n16 := hw.2.1
  have c400 := hw.2.2.1
  obtain ⟨-, -, -, -, -, -, -, -, i, j, wi, wj, hij, hjn, hck⟩ := hw.2.2.2 n hn
  have i5 : tx t + 2 + 6 * n + 5 < 35877 := by unfold tx; omega
  rw [x_X12_holds, g_X12_holds_0]
  simp -implicitDefEqProofs only [r_lat, q_I, hv_39_1, nI_p4, an_40 (show tx t + 2 + 6 * n + 4 < 35877 by omega), wi]
  have loop : ∀ q i st v m (L : fL) (g : Nat) (fin : List Bool) (o6 o7 o8 o9 o10 : Option Value), i + q = j → ckN (cds (A 40) (tx t)) i q st = some fin → Ty st v m → m ≤ 20 → RsL L Fc v m → q + 1 ≤ g →
      ∃ L' g' p6 p7 p8 p9 p10, 1 ≤ g' ∧ bd S (ex S (d + 2)) dflT E_X12_holds g 19 [some (.ref 39), some (.int (nI t)), some (.int (nI n)), some (.int (nI (tx t + 2 + 6 * n))), some (.int (nI m)), some (.int (nI i)), o6, o7, o8, o9, o10] [] (Hh k E A L T) = bd S (ex S (d + 2)) dflT E_X12_holds g' 19 [some (.ref 39), some (.int (nI t)), some (.int (nI n)), some (.int (nI (tx t + 2 + 6 * n))), some (.int (nI (rnN Fc (cds (A 40) (tx t)) i q (v, m)).2)), some (.int (nI j)), p6, p7, p8, p9, p10] [] (Hh k E A L' T) ∧ Ty fin (rnN Fc (cds (A 40) (tx t)) i q (v, m)).1 (rnN Fc (cds (A 40) (tx t)) i q (v, m)).2 ∧ RsL L' Fc (rnN Fc (cds (A 40) (tx t)) i q (v, m)).1 (rnN Fc (cds (A 40) (tx t)) i q (v, m)).2 ∧ ∀ r, r ≠ 44 → L' r = L r := by
    intro q
    induction q with
    | zero =>
      intro i st v m L g fin o6 o7 o8 o9 o10 hi hk ht hm hc hg
      have e : i = j := by omega
      subst e
      unfold ckN at hk; cases hk
      exact ⟨L, g, o6, o7, o8, o9, o10, by omega, rfl, ht, hc, fun _ _ => rfl⟩
    | succ q ih =>
      intro i st v m L g fin o6 o7 o8 o9 o10 hi hk hty hm hc hg
      obtain ⟨g1, rfl⟩ : ∃ g1, g = g1 + 1 := ⟨g - 1, by omega⟩
      obtain ⟨st', k1, k2⟩ := ckN_s hk
      obtain ⟨L1, p6, p7, p8, p9, p10, s1, s2, s3⟩ := r_hstep (S := S) (d := d) (k := k) (E := E) (A := A) (T := T) (o6 := o6) (o7 := o7) (o8 := o8) (o9 := o9) (o10 := o10) ht (show n < 16 by omega) (show i < j by omega) (by omega) wj k1 hty hc hm g1
      have ht' := st1_ty (Fc := Fc) k1 hty
      have hl' : (st1 Fc (cds (A 40) (tx t) i).1 (cds (A 40) (tx t) i).2 v m).2 ≤ 20 := by rw [ht'.1]; exact ck_len k1 (by rw [← hty.1]; exact hm)
      obtain ⟨L', g', r6, r7, r8, r9, r10, a1, a2, a3, a4, a5⟩ := ih (i + 1) st' _ _ L1 g1 fin p6 p7 p8 p9 p10 (by omega) k2 ht' hl' s2 (by omega)
      exact ⟨L', g', r6, r7, r8, r9, r10, a1, s1.trans a2, a3, a4, fun r hr => (a5 r hr).trans (s3 r hr)⟩
  have hc0 : RsL L Fc (fun _ => 0) 0 := ⟨hF, fun q hq => absurd hq (Nat.not_lt_zero q)⟩
  have ht0 : Ty [] (fun _ => (0 : Int64)) 0 := ⟨rfl, fun q hq => absurd hq (Nat.not_lt_zero q)⟩
  unfold hlW
  rw [wi, wj]
  rcases hck with e | hck
  · subst e
    rw [if_pos rfl]
    refine ⟨L, ?_, hF, fun _ _ => rfl⟩
    rw [g_X12_holds_19]
    simp -implicitDefEqProofs only [hv_39_1, nI_p5, an_40 i5, wj, if_pos (Int32.le_refl (nI i)), if_true, q_z1]
  · by_cases e : i = j
    · subst e
      rw [Nat.sub_self] at hck
      unfold ckN at hck; cases hck
    · have ne : ¬ nI i = nI j := fun q => e ((nI_eq (by omega) (by omega)).mp q)
      rw [if_neg ne, nI_clamp (by omega), nI_clamp (by omega)]
      obtain ⟨L', g', p6, p7, p8, p9, p10, a1, a2, a3, a4, a5⟩ := loop (j - i) i [] (fun _ => 0) 0 L 99999 [true] none none none none none (by omega) hck ht0 (by omega) hc0 (by omega)
      refine ⟨L', ?_, a4.1, a5⟩
      obtain ⟨g2, rfl⟩ : ∃ g2, g' = g2 + 1 := ⟨g' - 1, by omega⟩
      generalize rnN Fc (cds (A 40) (tx t)) i (j - i) (fun _ => 0, 0) = p at *
      have p2 : p.2 = 1 := a3.1
      have c0 : L' 44 0 = p.1 0 := a4.2 0 (by omega)
      rw [show bd S (ex S (d + 2)) dflT E_X12_holds 99999 19 [some (.ref 39), some (.int (nI t)), some (.int (nI n)), some (.int (nI (tx t + 2 + 6 * n))), some (.int 0), some (.int (nI i)), none, none, none, none, none] [] (Hh k E A L T) = _ from a2, g_X12_holds_19, p2]
      simp -implicitDefEqProofs only [hv_39_1, nI_p5, an_40 i5, wj, if_pos (Int32.le_refl (nI j)), if_neg (show ¬ nI 1 = 0 by decide), hv_39_13, aw_44_0, c0, lg_cmp_eq, q_z0, q_z1]
      split <;> rfl
end HoldsC
