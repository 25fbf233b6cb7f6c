/-! the reference reads the parts of a condition -/
section RParB
variable {S : sT} {d c : Nat} {k : Value} {E : List dsc} {A : fA} {L : fL} {T : fT} {W : fW} {t : Nat → Int32} {n : Nat}
def RSt (t : Nat → Int32) (n : Nat) (A : fA) (s : Nat) (cs : Cs) : Prop := Rp A t n ∧ Nm t n s ∧ (∃ p, p ≤ n ∧ A 39 6 = nI p ∧ tS t n p = s) ∧ A 39 12 = nI cs.length ∧ ∀ i, i < cs.length → A 40 (35077 + 2 * i) = (cs.getD i (0, 0)).1 ∧ A 40 (35077 + 2 * i + 1) = (cs.getD i (0, 0)).2
def RFr (A B : fA) : Prop := (∀ r, r ≠ 39 → r ≠ 40 → B r = A r) ∧ (∀ j, j ≠ 6 → j ≠ 8 → j ≠ 9 → j ≠ 12 → B 39 j = A 39 j) ∧ ∀ i, i < 35077 → B 40 i = A 40 i
theorem RFr_refl : RFr A A := ⟨fun _ _ _ => rfl, fun _ _ _ _ _ => rfl, fun _ _ => rfl⟩
theorem RFr_tr {B C : fA} (h : RFr A B) (g : RFr B C) : RFr A C := ⟨fun r a b => (g.1 r a b).trans (h.1 r a b), fun j a b c e => (g.2.1 j a b c e).trans (h.2.1 j a b c e), fun i hi => (g.2.2 i hi).trans (h.2.2 i hi)⟩
theorem RFr_R {B : fA} (h : Ry A B) : RFr A B := ⟨fun r a _ => h.1 r a, fun j a b _ _ => h.2 j a b, fun i _ => by rw [h.1 40 (by decide)]⟩
theorem RSt_R {B : fA} {s s' p : Nat} {cs : Cs} (h : RSt t n A s cs) (g : Ry A B) (hp : p ≤ n) (h6 : B 39 6 = nI p) (hs : tS t n p = s') : RSt t n B s' cs :=
  ⟨Rp_R h.1 g, hs ▸ Nm_S hp, ⟨p, hp, h6, hs⟩, by rw [g.2 12 (by decide) (by decide)]; exact h.2.2.2.1, fun i hi => by rw [g.1 40 (by decide)]; exact h.2.2.2.2 i hi⟩
theorem sg_iff {s : Nat} {x : Int32} (hs : Nm t n s) (hl : isL x = false) (hd : isD x = false) : (s < n ∧ t s = x) ↔ sgP t n s x = true := by
  unfold sgP tK tV
  rw [hs.2]
  simp -implicitDefEqProofs only [Bool.and_eq_true, decide_eq_true_eq]
  constructor
  · rintro ⟨h1, h2⟩
    rw [if_neg (by omega), h2, hl, hd]
    simp [show ¬ n ≤ s by omega]
  · rintro ⟨h1, h2⟩
    by_cases q : n ≤ s
    · rw [if_pos q] at h1; exact absurd h1 (by decide)
    · rw [if_neg q] at h1 h2
      by_cases l : isL (t s) = true
      · rw [if_pos l] at h1; exact absurd h1 (by decide)
      · rw [if_neg l] at h1 h2
        by_cases g : isD (t s) = true
        · rw [if_pos g] at h1; exact absurd h1 (by decide)
        · rw [if_neg g] at h2; exact ⟨by omega, h2⟩
theorem tE_3 {s : Nat} (hs : Nm t n s) (h : tK t n s = 3) : tE t n s = s + 1 := by
  unfold tK at h
  unfold tE
  rw [hs.2] at h ⊢
  by_cases q : n ≤ s
  · rw [if_pos q] at h; exact absurd h (by decide)
  · rw [if_neg q] at h ⊢
    by_cases l : isL (t s) = true
    · rw [if_pos l] at h; exact absurd h (by decide)
    · rw [if_neg l] at h ⊢
      by_cases g : isD (t s) = true
      · rw [if_pos g] at h; exact absurd h (by decide)
      · rw [if_neg g]
/-- a sign is tried -/
theorem r_sg {s : Nat} {x : Int32} {cs : Cs} (h : RSt t n A s cs) (hl : isL x = false) (hd : isD x = false) : ∃ B, ex S (d + 3) 127 [.ref 39, .int x] (Hh k E A L T) = some (.inl (some (.int (if sgP t n s x = true then 1 else 0))), Hh k E B L T) ∧ RSt t n B (if sgP t n s x = true then nx t n s else s) cs ∧ B 39 8 = nI s ∧ Ry A B := by
  obtain ⟨p, hp, h6, hs⟩ := h.2.2.1
  obtain ⟨B, b1, b2, b3, b4⟩ := r_sign (S := S) (d := d) (k := k) (E := E) (L := L) (T := T) (x := x) h.1 hp h6
  have hn := h.2.1
  rw [hs] at b1 b2 b3
  have hi := sg_iff (x := x) hn hl hd
  refine ⟨B, ?_, ?_, b3, b4⟩
  · rw [b1]
    by_cases q : sgP t n s x = true
    · rw [if_pos q, if_pos (hi.mpr q)]
    · rw [if_neg q, if_neg (fun z => q (hi.mp z))]
  · by_cases q : sgP t n s x = true
    · rw [if_pos (hi.mpr q)] at b2
      rw [if_pos q]
      have e := tE_3 hn (sg_k q).1
      have := (hi.mpr q).1
      exact RSt_R h b4 (show s + 1 ≤ n by omega) b2 (by unfold nx; rw [e])
    · rw [if_neg (fun z => q (hi.mp z))] at b2
      rw [if_neg q]
      exact RSt_R h b4 hn.1 b2 hn.2
theorem wE_k {s p : Nat} (hs : tS t n p = s) (hn : Nm t n s) : (tK t n s = 1 → wE t n p = tE t n s ∧ tV t n s = wdx t s (tE t n s) ∧ s < tE t n s) ∧ (¬ tK t n s = 1 → wE t n p = s) := by
  unfold wE
  rw [hs]
  have h1 := hn.2
  constructor
  · intro hk
    have hlt := K_lt hn (by rw [hk]; decide)
    have := (nx_c hn).2.2 hlt
    unfold tK at hk
    unfold tV
    rw [h1] at hk ⊢
    have e : tE t n s = if n ≤ s then s else if isL (t s) = true then run isL t n s else if isD (t s) = true then run isD t n s else s + 1 := by unfold tE; rw [h1]
    by_cases q : n ≤ s
    · omega
    · rw [if_neg q] at hk ⊢
      by_cases l : isL (t s) = true
      · rw [if_pos l]
        refine ⟨by rw [e, if_neg q, if_pos l], rfl, this.2⟩
      · rw [if_neg l] at hk
        by_cases g : isD (t s) = true
        · rw [if_pos g] at hk; exact absurd hk (by decide)
        · rw [if_neg g] at hk; exact absurd hk (by decide)
  · intro hk
    refine run_u (Nat.le_refl _) hn.1 (fun i h1 h2 => absurd (Nat.lt_of_le_of_lt h1 h2) (Nat.lt_irrefl _)) (fun hl => ?_)
    by_cases l : isL (t s) = true
    · exfalso
      apply hk
      unfold tK
      rw [h1, if_neg (by omega), if_pos l]
    · simpa using l
theorem wd_t {s p j : Nat} (hs : tS t n p = s) (hn : Nm t n s) (hj : j < 37) : isWd t s (wE t n p) (DW.getD j []) = true ↔ wdP t n s j = true := by
  obtain ⟨k1, k2⟩ := wE_k hs hn
  unfold wdP
  simp -implicitDefEqProofs only [Bool.and_eq_true, decide_eq_true_eq]
  by_cases q : tK t n s = 1
  · obtain ⟨a1, a2, a3⟩ := k1 q
    rw [a1, a2, ← wd_iff hj]
    exact ⟨fun h => ⟨q, h⟩, fun h => h.2⟩
  · rw [k2 q]
    constructor
    · intro h
      exfalso
      unfold isWd at h
      simp -implicitDefEqProofs only [Bool.and_eq_true, decide_eq_true_eq] at h
      have hw : 0 < (DW.getD j []).length := (show ∀ j : Fin 37, 0 < (DW.getD j.1 []).length by decide) ⟨j, hj⟩
      omega
    · intro h; exact absurd h.1 q
/-- a word is read: what is asked of it then -/
theorem r_wd {s : Nat} {cs : Cs} (h : RSt t n A s cs) : ∃ B p, p ≤ n ∧ tS t n p = s ∧ ex S (d + 3) 115 [.ref 39] (Hh k E A L T) = some (.inl none, Hh k E B L T) ∧ B 39 6 = nI (wE t n p) ∧ B 39 8 = nI s ∧ Ry A B := by
  obtain ⟨p, hp, h6, hs⟩ := h.2.2.1
  obtain ⟨B, b1, b2, b3, b4⟩ := r_word (S := S) (d := d) (k := k) (E := E) (L := L) (T := T) h.1 hp h6
  rw [hs] at b3
  exact ⟨B, p, hp, hs, b1, b2, b3, b4⟩
theorem r_isWd {s p j j' : Nat} (hj' : j' < 43) (hj : j < 37) (hw : strByt.getD j' [] = DW.getD j []) (hR : Rp A t n) (hp : p ≤ n) (hs : tS t n p = s) (h6 : A 39 6 = nI (wE t n p)) (h8 : A 39 8 = nI s) : ex S (d + 4) 118 [.ref 39, .retAddr (100 + j')] (Hh k E A L T) = some (.inl (some (.int (if wdP t n s j = true then 1 else 0))), Hh k E A L T) := by
  have hn : Nm t n s := hs ▸ Nm_S hp
  obtain ⟨w1, w2⟩ := wE_c (t := t) (n := n) (p := p) hp
  rw [hs] at w1
  rw [r_isWord hj' hR w1 w2 h6 h8, hw]
  by_cases q : wdP t n s j = true
  · rw [if_pos q, if_pos ((wd_t hs hn hj).mpr q)]
  · rw [if_neg q, if_neg (fun z => q ((wd_t hs hn hj).mp z))]
theorem r_ps {s j j' : Nat} {cs : Cs} (hj' : j' < 43) (hj : j < 37) (hw : strByt.getD j' [] = DW.getD j []) (h : RSt t n A s cs) : ∃ B, ex S (d + 5) 126 [.ref 39, .retAddr (100 + j')] (Hh k E A L T) = some (.inl (some (.int (if wdP t n s j = true then 1 else 0))), Hh k E B L T) ∧ RSt t n B (if wdP t n s j = true then nx t n s else s) cs ∧ B 39 8 = nI s ∧ Ry A B := by
  obtain ⟨B, p, hp, hs, b1, b2, b3, b4⟩ := r_wd (S := S) (d := d + 1) (k := k) (E := E) (L := L) (T := T) h
  have hn := h.2.1
  have iw := r_isWd (S := S) (d := d) (k := k) (E := E) (L := L) (T := T) hj' hj hw (Rp_R h.1 b4) hp hs b2 b3
  rw [x_X12_passes, g_X12_passes_0]
  simp -implicitDefEqProofs only [hc_39, b1, q_U, q_iS, iw, q_I]
  by_cases q : wdP t n s j = true
  · rw [if_pos q, if_neg (by decide), q_z1]
    rw [if_pos q]
    obtain ⟨a1, a2, a3⟩ := (wE_k hs hn).1 (wd_k q).1
    have e2 := (tE_c (t := t) (n := n) (p := s) hn.1).2.1
    rw [a1] at b2
    exact ⟨B, rfl, RSt_R h b4 e2 b2 rfl, b3, b4⟩
  · rw [if_neg q, if_pos rfl]
    rw [if_neg q]
    simp -implicitDefEqProofs only [hg_39_8, b3, hp_39_6, q_z0]
    exact ⟨_, rfl, RSt_R h (Ry_tr b4 Ry_6) hn.1 up_ii hn.2, by rw [up_rr (by decide)]; exact b3, Ry_tr b4 Ry_6⟩
theorem r_adds {s : Nat} {cs : Cs} {a b : Int32} (h : RSt t n A s cs) (hl : cs.length < 400) : ∃ B, ex S (d + 2) 128 [.ref 39, .int a, .int b] (Hh k E A L T) = some (.inl none, Hh k E B L T) ∧ RSt t n B s (cs ++ [(a, b)]) ∧ RFr A B ∧ B 39 9 = A 39 9 ∧ B 39 8 = A 39 8 := by
  obtain ⟨h1, h2, ⟨p, hp, h6, hs⟩, h4, h5⟩ := h
  have e1 : (nI (tx 36) + 98 + 2 * nI cs.length : Int32) = nI (35077 + 2 * cs.length) := by
    rw [show (98 : Int32) = nI 98 from rfl, show (2 : Int32) = nI 2 from rfl, pk_mul, nI_add, nI_add]
    rfl
  have ta : ex S (d + 1) 116 [.int 36] (Hh k E A L T) = some (.inl (some (.int (nI (tx 36)))), Hh k E A L T) := r_tat (t := 36)
  have z : up (up A 40 (35077 + 2 * cs.length) a) 40 (35077 + 2 * cs.length + 1) b 39 12 = nI cs.length := by rw [up_ne (by decide), up_ne (by decide)]; exact h4
  rw [x_X12_adds, g_X12_adds_0]
  simp -implicitDefEqProofs only [ta, q_I, hg_39_12, h4, hv_39_1, e1, nI_p1, sn_40 (show 35077 + 2 * cs.length < 35877 by omega), sn_40 (show 35077 + 2 * cs.length + 1 < 35877 by omega), z, hp_39_12]
  refine ⟨_, rfl, ⟨⟨fun i hi => ?_, ?_, h1.2.2⟩, h2, ⟨p, hp, ?_, hs⟩, ?_, fun i hi => ?_⟩, ⟨fun r r1 r2 => by rw [up_ne r1, up_ne r2, up_ne r2], fun j _ _ _ j12 => by rw [up_rr j12, up_ne (by decide), up_ne (by decide)], fun i hi => by rw [up_ne (by decide), up_rr (by omega), up_rr (by omega)]⟩, by rw [up_rr (by decide), up_ne (by decide), up_ne (by decide)], by rw [up_rr (by decide), up_ne (by decide), up_ne (by decide)]⟩
  · rw [up_ne (by decide), up_ne (by decide), up_ne (by decide)]; exact h1.1 i hi
  · rw [up_rr (by decide), up_ne (by decide), up_ne (by decide)]; exact h1.2.1
  · rw [up_rr (by decide), up_ne (by decide), up_ne (by decide)]; exact h6
  · rw [up_ii, ln_a]
  · rw [ln_a] at hi
    rw [up_ne (by decide)]
    by_cases q : i = cs.length
    · subst q
      rw [up_rr (by omega), up_ii, up_ii, gd_z]
      exact ⟨rfl, rfl⟩
    · rw [up_rr (by omega), up_rr (by omega), up_rr (by omega), up_rr (by omega), gd_a (by omega)]
      exact h5 i (by omega)
theorem nv_rg {s e : Nat} (h : ∀ i, s ≤ i → i < e → isD (t i) = true) (m : Nat) (hm : s + m ≤ e) (h6 : m ≤ 6) : 0 ≤ (nv t s m).toInt ∧ (nv t s m).toInt < 10 ^ m := by
  induction m with
  | zero => exact ⟨by show (0 : Int) ≤ (0 : Int32).toInt; decide, by show (0 : Int32).toInt < 10 ^ 0; decide⟩
  | succ m ih =>
    obtain ⟨a1, a2⟩ := ih (by omega) (by omega)
    obtain ⟨d1, d2⟩ := isD_iff.mp (h (s + m) (by omega) (by omega))
    rw [Int32.lt_iff_toInt_lt] at d1 d2
    have e48 : (48 : Int32).toInt = 48 := rfl
    have e57 : (57 : Int32).toInt = 57 := rfl
    have e10 : (10 : Int32).toInt = 10 := rfl
    have hp : (10 : Int) ^ m ≤ 100000 := by
      have : m ≤ 5 := by omega
      match m, this with
      | 0, _ => decide
      | 1, _ => decide
      | 2, _ => decide
      | 3, _ => decide
      | 4, _ => decide
      | 5, _ => decide
    have m1 : (nv t s m * 10).toInt = (nv t s m).toInt * 10 := by rw [m32 (by rw [e10]; omega) (by rw [e10]; omega), e10]
    have m2 : (nv t s m * 10 + t (s + m)).toInt = (nv t s m).toInt * 10 + (t (s + m)).toInt := by rw [a32 (by omega) (by omega), m1]
    have m3 : (nv t s (m + 1)).toInt = (nv t s m).toInt * 10 + (t (s + m)).toInt - 48 := by
      show (nv t s m * 10 + t (s + m) - 48).toInt = _
      rw [s32 (by omega) (by omega), m2, e48]
    rw [m3, Int.pow_succ]
    omega
/-- a number is tried -/
theorem num_k {s p : Nat} {hi : Int32} (hs : tS t n p = s) (hn : Nm t n s) (hh : hi ≤ 999999) : (isNm t n s hi = true → numR t s (dE t n p) hi = tV t n s ∧ dE t n p = tE t n s ∧ 0 ≤ tV t n s) ∧ (¬ isNm t n s hi = true → numR t s (dE t n p) hi = -1) := by
  have h1 := hn.2
  have ed : dE t n p = run isD t n s := by unfold dE; rw [hs]
  rw [ed]
  obtain ⟨r1, r2, r3, r4⟩ := run_c isD t (n := n) (p := s) hn.1
  unfold isNm
  simp -implicitDefEqProofs only [Bool.and_eq_true, decide_eq_true_eq, Bool.not_eq_true', decide_eq_false_iff_not]
  by_cases q : tK t n s = 2
  · have hlt := K_lt hn (by rw [q]; decide)
    have hE := ((nx_c hn).2.2 hlt).2
    have hk := q
    unfold tK at hk
    rw [h1, if_neg (show ¬ n ≤ s by omega)] at hk
    have nl : ¬ isL (t s) = true := fun l => by rw [if_pos l] at hk; exact absurd hk (by decide)
    rw [if_neg nl] at hk
    have dd : isD (t s) = true := by
      by_cases g : isD (t s) = true
      · exact g
      · rw [if_neg g] at hk; exact absurd hk (by decide)
    have eE : tE t n s = run isD t n s := by unfold tE; rw [h1, if_neg (show ¬ n ≤ s by omega), if_neg nl, if_pos dd]
    have eV : tV t n s = nvc t s (tE t n s - s) := by unfold tV; rw [h1, if_neg (show ¬ n ≤ s by omega), if_neg nl, if_pos dd]
    rw [eV, eE]
    rw [eE] at hE
    generalize run isD t n s = e at *
    unfold numR nvc
    rw [if_neg (show ¬ e = s by omega)]
    by_cases q6 : 6 < e - s
    · rw [if_pos q6, if_neg (show ¬ e - s ≤ 6 by omega)]
      have : hi < 1000000 := by
        rw [Int32.le_iff_toInt_le, show (999999 : Int32).toInt = 999999 from rfl] at hh
        rw [Int32.lt_iff_toInt_lt, show (1000000 : Int32).toInt = 1000000 from rfl]; omega
      exact ⟨fun z => absurd this z.2, fun _ => rfl⟩
    · rw [if_neg q6, if_pos (show e - s ≤ 6 by omega)]
      obtain ⟨v1, v2⟩ := nv_rg r3 (e - s) (by omega) (by omega)
      by_cases qh : nv t s (e - s) ≤ hi
      · rw [if_pos qh]
        refine ⟨fun _ => ⟨rfl, rfl, ?_⟩, fun z => absurd ⟨q, Int32.not_lt.mpr qh⟩ z⟩
        rw [Int32.le_iff_toInt_le, show (0 : Int32).toInt = 0 from rfl]; exact v1
      · rw [if_neg qh]
        exact ⟨fun z => absurd (Int32.not_lt.mp z.2) qh, fun _ => rfl⟩
  · refine ⟨fun z => absurd z.1 q, fun _ => ?_⟩
    have e : run isD t n s = s := by
      by_cases hl : s < n
      · by_cases g : isD (t s) = true
        · by_cases l : isL (t s) = true
          · exfalso
            obtain ⟨a1, a2⟩ := isL_iff.mp l
            obtain ⟨b1, b2⟩ := isD_iff.mp g
            rw [Int32.lt_iff_toInt_lt] at a1 b2
            have e1 : (97 : Int32).toInt = 97 := rfl
            have e2 : (57 : Int32).toInt = 57 := rfl
            omega
          · exact absurd (by unfold tK; rw [h1, if_neg (show ¬ n ≤ s by omega), if_neg l, if_pos g]) q
        · exact run_u (Nat.le_refl _) hn.1 (fun i h1 h2 => absurd (Nat.lt_of_le_of_lt h1 h2) (Nat.lt_irrefl _)) (fun _ => by simpa using g)
      · exact run_u (Nat.le_refl _) hn.1 (fun i h1 h2 => absurd (Nat.lt_of_le_of_lt h1 h2) (Nat.lt_irrefl _)) (fun z => absurd z hl)
    rw [e]
    unfold numR
    rw [if_pos rfl]
end RParB
