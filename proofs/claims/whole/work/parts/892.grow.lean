/-! what is tied stays tied over a larger heap -/
section GrowB
variable {S : sT} {d c : Nat} {k : Value} {E F : List dsc} {A A' : fA} {L : fL} {T T' : fT} {W V : fW}
/-- what is tied but for the reader's numbers -/
def RelM (c : Nat) (k : Value) (E : List dsc) (A : fA) (T : fT) : Prop := Iv c (A 40) ∧ LkA 4 k E A T (A 40) ∧ (∀ i, i < 400 → A 2 i = A 42 i) ∧ (A 36 0 = 0 ∧ A 36 5 = 0) ∧ KP c k E A T ∧ E.length ≤ 34 * c ∧ esz E ≤ 4000 * c
theorem Rel_M (h : Rel c k E A T) : RelM c k E A T := ⟨h.1, h.2.1, h.2.2.2.1, h.2.2.2.2.2.1, h.2.2.2.2.2.2.1, h.2.2.2.2.2.2.2.1, h.2.2.2.2.2.2.2.2⟩
theorem M_Rel (h : RelM c k E A T) (h1 : ∃ n, n ≤ 400 ∧ A 1 1 = nI n ∧ A 39 5 = nI n) (h2 : A 1 2 = A 39 10) : Rel c k E A T := ⟨h.1, h.2.1, h1, h.2.2.1, h2, h.2.2.2.1, h.2.2.2.2.1, h.2.2.2.2.2.1, h.2.2.2.2.2.2⟩
theorem M_c (h : RelM c k E A T) : RelM (c + 1) k E A T := ⟨Iv_c (Nat.le_succ c) h.1, h.2.1, h.2.2.1, h.2.2.2.1, KP_c (Nat.le_succ c) h.2.2.2.2.1, by have := h.2.2.2.2.2.1; omega, by have := h.2.2.2.2.2.2; omega⟩
theorem Iv_lo (e : ∀ i, i < 34979 → V i = W i) (hI : Iv c W) : Iv c V := by
  obtain ⟨i0, i1, i2, i3, i4, i5, i6, i7, i8, i9, i10⟩ := hI
  exact ⟨Iv0_c (e 0 (by omega)) i0, IvF_c (fun i hi => e i (by omega)) i4.2.1 i1, IvRn_c (fun i h1 h2 => e i (by omega)) i2, IvPr_c (by rw [e 0 (by omega)]; exact Int32.lt_irrefl) (fun i h1 h2 => e i (by omega)) i3, IvHs_c (fun i hi => e i (by omega)) i4, IvG_0 (fun i h1 h2 => e i (by omega)) i5, IvLn_c (fun i h1 h2 => e i (by omega)) i6, IvJb_c (fun i h1 h2 => e i (by omega)) i7, IvTb_c (fun i h1 h2 => e i (by omega)) i8, IvRw_c (e _ (by omega)) i9, IvXs_c (fun i h1 h2 => e i (by omega)) i10⟩
theorem LkA_lo {o : Nat} (e : ∀ i, i < 34979 → V i = W i) (hI : Iv c W) (h : LkA o k E A T W) : LkA o k E A T V := by
  obtain ⟨i0, i1, i2, i3, i4, i5, i6, i7, i8, i9, i10⟩ := hI
  obtain ⟨l0, l1, l2, l3, l4, l5, l6, l7⟩ := h
  exact ⟨l0.trans (e 0 (by omega)).symm, LkL_c (fun i h1 h2 => e i (by omega)) l1, LkM_c i3.2.1 (fun i h1 h2 => e i (by omega)) l2, LkG_c (fun i hi => e i (by omega)) l3, LkP_c (fun i h1 h2 => e i (by omega)) l4, LkR_c (fun i h1 h2 => e i (by omega)) l5, LkH_c i4.2.1 (fun i hi => e i (by omega)) l6, LkX_c i10.2.1 (fun i h1 h2 => e i (by omega)) l7⟩
/-- class and reference have read something -/
theorem M_rd (h : RelM c k E A T) (h1 : ∀ r, r ≠ 1 → r ≠ 3 → r ≠ 39 → r ≠ 40 → A' r = A r) (h40 : ∀ i, i < 34979 → A' 40 i = A 40 i) (h3 : A' 39 3 = A 39 3) : RelM c k E A' T := by
  obtain ⟨a1, a2, a3, a4, a5, a6, a7⟩ := h
  refine ⟨Iv_lo h40 a1, ?_, ?_, ?_, KP_A a5 h3 (h1 41 (by decide) (by decide) (by decide) (by decide)) (fun r hr => h1 r (by omega) (by omega) (by omega) (by omega)), a6, a7⟩
  · exact LkA_A (LkA_lo h40 a1 a2) (fun i hi => h1 _ (by omega) (by omega) (by omega) (by omega)) (fun r hr => by have := hr.1; exact h1 r (by omega) (by omega) (by omega) (by omega))
  · rw [h1 2 (by decide) (by decide) (by decide) (by decide), h1 42 (by decide) (by decide) (by decide) (by decide)]; exact a3
  · rw [h1 36 (by decide) (by decide) (by decide) (by decide)]; exact a4
theorem DE_lt {a : Nat} {y : dsc} (h : (D0 k ++ E)[a]? = some y) : a < 49 + E.length := by
  have := (List.getElem?_eq_some_iff.mp h).1
  rw [DE_len] at this; exact this
theorem TR_g {a B : Nat} (ha : ∀ r, outK k r → r < 49 + E.length → A' r = A r) (h : TR k E A a W B) : TR k (E ++ F) A' a W B := by
  obtain ⟨b, nl, nc, o1, o2, h1, h2, h3, h4, h5, h6⟩ := h
  have e1 := ha a o1 (DE_lt h1)
  have e2 := ha b o2 (DE_lt h2)
  exact ⟨b, nl, nc, o1, o2, DE_old h1, DE_old h2, by rw [e1]; exact h3, h4, by rw [e2]; exact h5, by rw [e2]; exact h6⟩
theorem TS_g {o : Option Nat} (h : TS k E o) : TS k (E ++ F) o := by
  rcases h with h | ⟨a, b, h1, h2⟩
  · exact Or.inl h
  · exact Or.inr ⟨a, b, h1, DE_old h2⟩
theorem LkH_g {H C : Nat → Int32} {Tl : Nat → Option Nat} (ha : ∀ r, outK k r → r < 49 + E.length → A' r = A r) (h : LkH k E A H C Tl W) : LkH k (E ++ F) A' H C Tl W := by
  obtain ⟨h1, h2, h3, h4⟩ := h
  exact ⟨h1, h2, fun g hg => TS_g (h3 g hg), fun g hg hk => by obtain ⟨a, e, t⟩ := h4 g hg hk; exact ⟨a, e, TR_g ha t⟩⟩
theorem LkX_g {X sn od : Nat → Int32} {Tx : Nat → Option Nat} (ha : ∀ r, outK k r → r < 49 + E.length → A' r = A r) (h : LkX k E A X Tx sn od W) : LkX k (E ++ F) A' X Tx sn od W := by
  obtain ⟨h1, h2, h3, h4⟩ := h
  exact ⟨h1, fun t ht => TS_g (h2 t ht), fun t ht => by obtain ⟨e0, a, e, t⟩ := h3 t ht; exact ⟨e0, a, e, TR_g ha t⟩, h4⟩
theorem LkA_g {o : Nat} (h : LkA o k E A T W) (hr : ∀ i, i < 32 → A' (o + i) = A (o + i)) (ha : ∀ r, outK k r → r < 49 + E.length → A' r = A r) (h2 : T' (o + 2) = T (o + 2)) (h9 : T' (o + 9) = T (o + 9)) : LkA o k (E ++ F) A' T' W := by
  obtain ⟨q1, q2, q3, q4, q5, q6, q7, q8⟩ := h
  unfold LkA
  rw [show A' o = A o from hr 0 (by decide), hr 6 (by decide), hr 12 (by decide), hr 13 (by decide), hr 14 (by decide), hr 15 (by decide), hr 16 (by decide), hr 17 (by decide), hr 18 (by decide), hr 19 (by decide), hr 20 (by decide), hr 21 (by decide), hr 22 (by decide), hr 23 (by decide), hr 24 (by decide), hr 25 (by decide), hr 26 (by decide), hr 27 (by decide), hr 28 (by decide), hr 29 (by decide), hr 30 (by decide), hr 31 (by decide), hr 7 (by decide), hr 8 (by decide), hr 1 (by decide), hr 3 (by decide), hr 4 (by decide), h2, h9]
  exact ⟨q1, q2, q3, q4, q5, q6, LkH_g ha q7, LkX_g ha q8⟩
theorem DK_lt {K : Nat} (h : DK K (D0 k ++ E)) : K + 34 ≤ 49 + E.length := by
  have := h 33 (by decide)
  have := DE_lt this
  omega
theorem DK_g {K : Nat} (h : DK K (D0 k ++ E)) : DK K (D0 k ++ (E ++ F)) := by
  intro i hi
  have := DK_lt h
  rw [← h i hi, ← List.append_assoc, List.getElem?_append_left (by rw [DE_len]; omega)]
theorem KP_g (hK : KP c k E A T) (h3 : A' 39 3 = A 39 3) (h41 : A' 41 = A 41) (ha : ∀ r, 49 ≤ r → r < 49 + E.length → A' r = A r) (hT : ∀ r, 49 ≤ r → T' r = T r) : KP c k (E ++ F) A' T' := by
  rcases hK with ⟨e, hK⟩ | ⟨K, a1, a2, a3, a4, a5, a6⟩
  · exact Or.inl ⟨e, by rw [h3]; exact hK⟩
  · have := DK_lt a4
    have a3' : Nat.le 49 K := a3
    have a3' : (49 : Nat) ≤ K := a3'
    refine Or.inr ⟨K, a1, by rw [h3]; exact a2, a3, DK_g a4, ?_, by rw [h41]; exact a6⟩
    rw [h41]
    exact LkA_g a5 (fun i hi => ha _ (by omega) (by omega)) (fun r hr h => ha r hr.1 h) (hT _ (by omega)) (hT _ (by omega))
/-- a new thing lies outside the first and the kept estate -/
theorem out_new (hK : KP c k E A T) {a : Nat} (h : 49 + E.length ≤ a) : outK k a := by
  refine ⟨by omega, fun K e => ?_⟩
  rcases hK with ⟨e', -⟩ | ⟨K', a1, a2, a3, a4, -⟩
  · rw [e'] at e; cases e
  · rw [a1] at e; cases e
    have := DK_lt a4
    exact Or.inr (Nat.le_trans this h)
theorem esz_app (E F : List dsc) : esz (E ++ F) = esz E + esz F := by unfold esz; rw [List.map_append, List.sum_append]
/-- a text is copied -/
def cpW (W : fW) (t : Nat) : fW := fun i => if tx t ≤ i ∧ i < tx t + 898 then W (34979 + (i - tx t)) else W i
theorem r_copies {t : Nat} (ht : t < 36) : ∃ B, ex S (d + 2) 153 [.ref 39, .int (nI t)] (Hh k E A L T) = some (.inl none, Hh k E B L T) ∧ B 40 = cpW (A 40) t ∧ ∀ r, r ≠ 40 → B r = A r := by
  have t1 : ∀ H : pH, ex S (d + 1) 116 [.int (nI t)] H = some (.inl (some (.int (nI (tx t)))), H) := fun H => r_tat
  have t2 : ∀ H : pH, ex S (d + 1) 116 [.int 36] H = some (.inl (some (.int (nI 34979))), H) := fun H => r_tat (S := S) (d := d) (t := 36)
  have htx : tx t + 898 ≤ 34979 := by unfold tx; omega
  rw [x_X12_copies, g_X12_copies_0]
  refine loop_Q (α := fA) (F := fun m j B => bd S (ex S (d + 1)) dflT E_X12_copies m 2 [some (.ref 39), some (.int (nI t)), some (.int (nI j))] [] (Hh k E B L T)) (N := 898) (P := fun j B => (∀ i, B 40 i = if tx t ≤ i ∧ i < tx t + j then A 40 (34979 + (i - tx t)) else A 40 i) ∧ ∀ r, r ≠ 40 → B r = A r) (Q := fun r => ∃ B, r = some (.inl none, Hh k E B L T) ∧ B 40 = cpW (A 40) t ∧ ∀ r, r ≠ 40 → B r = A r) ?_ ?_ (s := A) ⟨fun i => by rw [if_neg (by omega)], fun _ _ => rfl⟩ (by decide)
  · rintro m j B hj ⟨h1, h2⟩
    right
    rw [g_X12_copies_2, if_neg (show ¬ (898 : Int32) ≤ nI j from nI_ge (b := 898) hj (by decide))]
    simp -implicitDefEqProofs only [hv_39_1, t1, q_I, t2, nI_add, an_40 (show 34979 + j < 35877 by omega), sn_40 (show tx t + j < 35877 by omega), nI_p1]
    refine ⟨_, rfl, fun i => ?_, fun r hr => by rw [up_ne hr]; exact h2 r hr⟩
    by_cases q : i = tx t + j
    · subst q
      rw [up_ii, if_pos (by omega), h1, if_neg (by omega)]
      congr 1; omega
    · rw [up_rr q, h1]
      by_cases q2 : tx t ≤ i ∧ i < tx t + j
      · rw [if_pos q2, if_pos (by omega)]
      · rw [if_neg q2, if_neg (by omega)]
  · rintro m B ⟨h1, h2⟩
    rw [g_X12_copies_2, if_pos (by decide)]
    exact ⟨B, rfl, funext h1, h2⟩
/-- the class orders a new text -/
theorem c_tA0 {i n : Nat} (h5 : A 5 0 = nI n) (hi : i < n) (hn : n ≤ 12) : ex S (d + 1) 87 [.ref 5, .int (nI i)] (Hh k E A L T) = some (.inl (some (.int (A 8 i))), Hh k E A L T) := by
  simp -implicitDefEqProofs only [x_X9_textAt, g_X9_textAt_0, if_neg (nI_pos (show i < 2 ^ 31 by omega)), hg_5_0, h5, if_neg (show ¬ nI n ≤ nI i from nI_ge hi (by omega)), hv_5_3, an_8 (show i < 12 by omega)]
def addP (A B : fA) (n : Nat) (l : List Nat) (s : Int32) (q : Nat) : Prop := (∀ i, i < q → B 8 i = A 8 i) ∧ (∀ i, q ≤ i → i < n → B 8 (i + 1) = A 8 i) ∧ (∀ i u, q ≤ i → l[i]? = some u → s < A 7 u) ∧ ∀ r, r ≠ 8 → B r = A r
theorem c_add {n a : Nat} {l : List Nat} {s : Int32} {ks : List (Option Value)} (hn : n < 12) (h5 : A 5 0 = nI n) (hl : l.length = n) (hm : ∀ u, u ∈ l → u < n) (hod : ∀ i u, l[i]? = some u → A 8 i = nI u) (hD : (D0 k ++ E)[a]? = some (.inr (11, ks))) : ∃ p A', p ≤ n ∧ ex S (d + 2) 278 [.ref 5, .ref a, .int s] (Hh k E A L T) = some (.inl none, Hh k E A' L (upT T 6 n (some a))) ∧ A' 5 0 = nI (n + 1) ∧ A' 7 = upd (A 7) n s ∧ (∀ i, i < p → A' 8 i = A 8 i) ∧ A' 8 p = nI n ∧ (∀ i, p ≤ i → i < n → A' 8 (i + 1) = A 8 i) ∧ (∀ i u, p ≤ i → l[i]? = some u → s < A 7 u) ∧ (∀ u, 0 < p → l[p - 1]? = some u → ¬ s < A 7 u) ∧ ∀ r, r ≠ 5 → r ≠ 7 → r ≠ 8 → A' r = A r := by
  have fin : ∀ (q g : Nat) (B : fA), q ≤ n → addP A B n l s q → (∀ u, 0 < q → l[q - 1]? = some u → ¬ s < A 7 u) → ∃ p A', p ≤ n ∧ bd S (ex S (d + 1)) dflT E_X9_add (g + 1) 55 [some (.ref 5), some (.ref a), some (.int s), some (.int (nI q))] [] (Hh k E B L T) = some (.inl none, Hh k E A' L (upT T 6 n (some a))) ∧ A' 5 0 = nI (n + 1) ∧ A' 7 = upd (A 7) n s ∧ (∀ i, i < p → A' 8 i = A 8 i) ∧ A' 8 p = nI n ∧ (∀ i, p ≤ i → i < n → A' 8 (i + 1) = A 8 i) ∧ (∀ i u, p ≤ i → l[i]? = some u → s < A 7 u) ∧ (∀ u, 0 < p → l[p - 1]? = some u → ¬ s < A 7 u) ∧ ∀ r, r ≠ 5 → r ≠ 7 → r ≠ 8 → A' r = A r := by
    intro q g B hq ⟨b1, b2, b3, b4⟩ b5
    have z0 : B 5 0 = nI n := by rw [b4 5 (by decide)]; exact h5
    have z1 : up B 8 q (nI n) 5 0 = nI n := by rw [up_ne (by decide)]; exact z0
    have z2 : up (up B 8 q (nI n)) 7 n s 5 0 = nI n := by rw [up_ne (by decide)]; exact z1
    have d6 : (D0 k ++ E)[6]? = some (.inl (4, 12)) := rfl
    have st : ∀ κ : pH → rO, sTx (Hh k E (up (up B 8 q (nI n)) 7 n s) L T) (.ref 6) (nI n) (.ref a) κ = κ (Hh k E (up (up B 8 q (nI n)) 7 n s) L (upT T 6 n (some a))) := by
      intro κ
      unfold Hh
      rw [sTx_H d6 hD (nI_pos (by omega)) (by rw [nI_clamp (by omega)]; exact hn), nI_clamp (by omega)]
    rw [g_X9_add_55]
    simp -implicitDefEqProofs only [hv_5_3, hg_5_0, z0, sn_8 (show q < 12 by omega), hv_5_2, z1, sn_7 hn, hv_5_1, z2, q_iR, st, nI_p1, hp_5_0]
    refine ⟨q, _, hq, rfl, up_ii, ?_, fun i hi => ?_, ?_, fun i h1 h2 => ?_, b3, b5, fun r r5 r7 r8 => ?_⟩
    · rw [up_ne (by decide), up_eq, up_ne (by decide), b4 7 (by decide)]
    · rw [up_ne (by decide), up_ne (by decide), up_rr (by omega)]; exact b1 i hi
    · rw [up_ne (by decide), up_ne (by decide)]; exact up_ii
    · rw [up_ne (by decide), up_ne (by decide), up_rr (by omega)]; exact b2 i h1 h2
    · rw [up_ne r5, up_ne r7, up_ne r8]; exact b4 r r8
  have loop : ∀ (q g : Nat) (B : fA), q ≤ n → q + 2 ≤ g → addP A B n l s q → ∃ p A', p ≤ n ∧ bd S (ex S (d + 1)) dflT E_X9_add g 15 [some (.ref 5), some (.ref a), some (.int s), some (.int (nI q))] [] (Hh k E B L T) = some (.inl none, Hh k E A' L (upT T 6 n (some a))) ∧ A' 5 0 = nI (n + 1) ∧ A' 7 = upd (A 7) n s ∧ (∀ i, i < p → A' 8 i = A 8 i) ∧ A' 8 p = nI n ∧ (∀ i, p ≤ i → i < n → A' 8 (i + 1) = A 8 i) ∧ (∀ i u, p ≤ i → l[i]? = some u → s < A 7 u) ∧ (∀ u, 0 < p → l[p - 1]? = some u → ¬ s < A 7 u) ∧ ∀ r, r ≠ 5 → r ≠ 7 → r ≠ 8 → A' r = A r := by
    intro q
    induction q with
    | zero =>
      intro g B hq hg hB
      obtain ⟨g, rfl⟩ : ∃ g', g = g' + 2 := ⟨g - 2, by omega⟩
      rw [show g + 2 = (g + 1) + 1 from rfl, g_X9_add_15, if_pos (by decide)]
      exact fin 0 g B (by omega) hB (fun u h => absurd h (by decide))
    | succ q ih =>
      intro g B hq hg hB
      obtain ⟨g, rfl⟩ : ∃ g', g = g' + 2 := ⟨g - 2, by omega⟩
      obtain ⟨b1, b2, b3, b4⟩ := id hB
      have z0 : B 5 0 = nI n := by rw [b4 5 (by decide)]; exact h5
      have hu : ∃ u, l[q]? = some u := ⟨_, List.getElem?_eq_getElem (by omega)⟩
      obtain ⟨u, hu⟩ := hu
      have un : u < n := hm u (List.mem_of_getElem? hu)
      have e8 : B 8 q = nI u := by rw [b1 q (by omega)]; exact hod q u hu
      have e7 : B 7 u = A 7 u := by rw [b4 7 (by decide)]
      have ta := c_tA0 (S := S) (d := d) (k := k) (E := E) (L := L) (T := T) (i := q) z0 (by omega) (by omega)
      rw [show g + 2 = (g + 1) + 1 from rfl, g_X9_add_15, if_neg (show ¬ nI (q + 1) ≤ 0 from nI_ge (a := 0) (by omega) (by omega))]
      simp -implicitDefEqProofs only [hv_5_2, hc_5, nI_pred, ta, q_I, e8, an_7 (show u < 12 by omega), e7]
      by_cases w : A 7 u ≤ s
      · rw [if_pos w]
        exact fin (q + 1) g B hq hB (fun u' _ hu' => by
          have : l[q]? = some u' := hu'
          rw [hu] at this; cases this
          exact Int32.not_lt.mpr w)
      · rw [if_neg w]
        simp -implicitDefEqProofs only [hv_5_3, an_8 (show q < 12 by omega), sn_8 (show q + 1 < 12 by omega), e8]
        rw [show nI (q + 1) + (-1) = nI q by rw [← Int32.sub_eq_add_neg, nI_pred]]
        refine ih (g + 1) _ (by omega) (by omega) ⟨fun i hi => by rw [up_rr (by omega)]; exact b1 i (by omega), fun i h1 h2 => ?_, fun i u' h1 h2 => ?_, fun r hr => by rw [up_ne hr]; exact b4 r hr⟩
        · by_cases e : i = q
          · subst e; rw [up_ii]; exact (hod i u hu).symm
          · rw [up_rr (by omega)]; exact b2 i (by omega) h2
        · by_cases e : i = q
          · subst e; rw [hu] at h2; cases h2; exact Int32.not_le.mp w
          · exact b3 i u' (by omega) h2
  rw [x_X9_add, g_X9_add_0]
  simp -implicitDefEqProofs only [hg_5_0, h5, if_pos (show nI n < 12 from nI_lt (b := 12) hn (by decide))]
  exact loop n 99999 A (Nat.le_refl _) (by omega) ⟨fun _ _ => rfl, fun i h1 h2 => absurd h1 (by omega), fun i u h1 h2 => absurd (List.getElem?_eq_some_iff.mp h2).1 (by omega), fun _ _ => rfl⟩
end GrowB
