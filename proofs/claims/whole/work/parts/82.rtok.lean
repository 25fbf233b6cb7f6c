/-! the reference's reading of tokens -/
section RTokB
variable {S : sT} {d c : Nat} {k : Value} {E : List dsc} {A : fA} {L : fL} {T : fT} {W : fW}
def Ry (A B : fA) : Prop := (∀ r, r ≠ 39 → B r = A r) ∧ ∀ j, j ≠ 6 → j ≠ 8 → B 39 j = A 39 j
theorem Ry_refl : Ry A A := ⟨fun _ _ => rfl, fun _ _ _ => rfl⟩
theorem Ry_tr {B C : fA} (h : Ry A B) (g : Ry B C) : Ry A C := ⟨fun r hr => (g.1 r hr).trans (h.1 r hr), fun j a b => (g.2 j a b).trans (h.2 j a b)⟩
theorem Ry_6 {x : Int32} : Ry A (up A 39 6 x) := ⟨fun r hr => up_ne hr, fun j a _ => up_rr a⟩
theorem Ry_8 {x : Int32} : Ry A (up A 39 8 x) := ⟨fun r hr => up_ne hr, fun j _ a => up_rr a⟩
def Rp (A : fA) (t : Nat → Int32) (n : Nat) : Prop := (∀ i, i < 400 → A 42 i = t i) ∧ A 39 7 = nI n ∧ n ≤ 400
theorem Rp_R {B : fA} {t : Nat → Int32} {n : Nat} (h : Rp A t n) (g : Ry A B) : Rp B t n := ⟨fun i hi => by rw [g.1 42 (by decide)]; exact h.1 i hi, by rw [g.2 7 (by decide) (by decide)]; exact h.2.1, h.2.2⟩
theorem r_isAt {t : Nat → Int32} {n p : Nat} {lo hi : Int32} (hR : Rp A t n) (hp : p ≤ n) (h6 : A 39 6 = nI p) : ex S (d + 1) 113 [.ref 39, .int lo, .int hi] (Hh k E A L T) = some (.inl (some (.int (if p < n ∧ ¬ t p < lo ∧ ¬ hi < t p then 1 else 0))), Hh k E A L T) := by
  have h400 := hR.2.2
  rw [x_X12_isAt, g_X12_isAt_0]
  simp -implicitDefEqProofs only [hg_39_6, h6, hg_39_7, hR.2.1]
  by_cases q : p < n
  · rw [if_neg (nI_ge q (by omega))]
    simp -implicitDefEqProofs only [hv_39_4, hg_39_6, h6, an_42 (show p < 400 by omega), hR.1 p (by omega)]
    by_cases q1 : t p < lo
    · rw [if_pos q1, q_z0, if_neg (fun z => z.2.1 q1)]
    · rw [if_neg q1]
      by_cases q2 : hi < t p
      · rw [if_pos q2, q_z0, if_neg (fun z => z.2.2 q2)]
      · rw [if_neg q2, q_z1, if_pos ⟨q, q1, q2⟩]
  · rw [if_pos ((nI_leI (by omega) (by omega)).mpr (by omega)), q_z0, if_neg (fun z => q z.1)]
theorem isB_iff {x : Int32} : isB x = true ↔ (¬ x < 32 ∧ ¬ 32 < x) := by
  unfold isB
  rw [decide_eq_true_eq]
  constructor
  · rintro rfl; exact ⟨by decide, by decide⟩
  · rintro ⟨h1, h2⟩
    rw [Int32.lt_iff_toInt_lt] at h1 h2
    apply i32_ext
    have e : (32 : Int32).toInt = 32 := rfl
    omega
theorem isL_iff {x : Int32} : isL x = true ↔ (¬ x < 97 ∧ ¬ 122 < x) := by unfold isL; simp
theorem isD_iff {x : Int32} : isD x = true ↔ (¬ x < 48 ∧ ¬ 57 < x) := by unfold isD; simp
theorem eq_iff {x y : Int32} : x = y ↔ (¬ x < y ∧ ¬ y < x) := by
  constructor
  · rintro rfl; exact ⟨Int32.lt_irrefl, Int32.lt_irrefl⟩
  · rintro ⟨h1, h2⟩
    rw [Int32.lt_iff_toInt_lt] at h1 h2
    apply i32_ext; omega
/-- a run of bytes is passed -/
theorem r_run {t : Nat → Int32} {n p g n0 : Nat} {q : Int32 → Bool} {lo hi : Int32} {F : Nat → pH → rO} (hq : ∀ x, q x = true ↔ (¬ x < lo ∧ ¬ hi < x)) (hF : ∀ g B p, Rp B t n → p ≤ n → B 39 6 = nI p → (p < n ∧ ¬ t p < lo ∧ ¬ hi < t p) → F (g + 1) (Hh k E B L T) = F g (Hh k E (up B 39 6 (nI (p + 1))) L T)) (hR : Rp A t n) (hp : p ≤ n) (h6 : A 39 6 = nI p) (hg : g + (run q t n p - p) ≤ n0) : ∃ B g', g ≤ g' ∧ F n0 (Hh k E A L T) = F g' (Hh k E B L T) ∧ B 39 6 = nI (run q t n p) ∧ B 39 8 = A 39 8 ∧ Ry A B ∧ ¬ (run q t n p < n ∧ ¬ t (run q t n p) < lo ∧ ¬ hi < t (run q t n p)) := by
  obtain ⟨a1, a2, a3, a4⟩ := run_c q t (n := n) (p := p) hp
  obtain ⟨B, g', hg', f1, f2, f3, f4⟩ := loop_RK (K := 1) (α := fA) (F := fun g f B => F g (Hh k E B L T)) (N := run q t n p - p) (P := fun f B => B 39 6 = nI (p + f) ∧ B 39 8 = A 39 8 ∧ Ry A B) (s := A) (by
    rintro g f B hf ⟨b1, b2, b3⟩
    have e := (hq _).mp (a3 (p + f) (by omega) (by omega))
    refine ⟨up B 39 6 (nI (p + f + 1)), g, Nat.le_refl _, hF g B (p + f) (Rp_R hR b3) (by omega) b1 ⟨by omega, e⟩, up_ii, by rw [up_rr (by decide)]; exact b2, Ry_tr b3 Ry_6⟩) ⟨h6, rfl, Ry_refl⟩ g n0 (by omega)
  rw [show p + (run q t n p - p) = run q t n p by omega] at f2
  refine ⟨B, g', hg', f1, f2, f3, f4, fun z => ?_⟩
  have := a4 z.1
  rw [(hq _).mpr z.2] at this
  cases this
theorem r_blanks {t : Nat → Int32} {n p : Nat} (hR : Rp A t n) (hp : p ≤ n) (h6 : A 39 6 = nI p) : ∃ B, ex S (d + 2) 114 [.ref 39] (Hh k E A L T) = some (.inl none, Hh k E B L T) ∧ B 39 6 = nI (tS t n p) ∧ B 39 8 = nI (tS t n p) ∧ Ry A B := by
  have h400 := hR.2.2
  have hs := tS_c (t := t) hp
  obtain ⟨B, g', hg', e1, e2, e3, e4, e5⟩ := r_run (k := k) (E := E) (A := A) (L := L) (T := T) (q := isB) (F := fun g h => bd S (ex S (d + 1)) dflT E_X12_blanks g 0 [some (.ref 39)] [] h) (fun x => isB_iff) (by
    intro g B p hB hp b6 z
    show bd S (ex S (d + 1)) dflT E_X12_blanks (g + 1) 0 _ [] _ = _
    rw [g_X12_blanks_0]
    simp -implicitDefEqProofs only [hc_39, r_isAt hB hp b6, if_pos z, q_I, i1_0, if_false, hg_39_6, b6, hp_39_6, nI_p1]) hR hp h6 (g := 90000) (n0 := 100000) (by unfold tS at hs; omega)
  obtain ⟨g2, rfl⟩ : ∃ g2, g' = g2 + 1 := ⟨g' - 1, by omega⟩
  rw [x_X12_blanks, show bd S (ex S (d + 1)) dflT E_X12_blanks 100000 0 [some (.ref 39)] [] (Hh k E A L T) = _ from e1, g_X12_blanks_0]
  have e2' : B 39 6 = nI (tS t n p) := e2
  have e5' : ¬ (tS t n p < n ∧ ¬ t (tS t n p) < 32 ∧ ¬ 32 < t (tS t n p)) := e5
  simp -implicitDefEqProofs only [hc_39, r_isAt (Rp_R hR e4) hs.2 e2', if_neg e5', q_I, if_true, hg_39_6, e2', hp_39_8]
  exact ⟨_, rfl, by rw [up_rr (by decide)]; exact e2', up_ii, Ry_tr e4 Ry_8⟩
/-- where the letters end -/
def wE (t : Nat → Int32) (n p : Nat) : Nat := run isL t n (tS t n p)
theorem wE_c {t : Nat → Int32} {n p : Nat} (hp : p ≤ n) : tS t n p ≤ wE t n p ∧ wE t n p ≤ n := ⟨(run_c isL t (tS_c hp).2).1, (run_c isL t (tS_c hp).2).2.1⟩
theorem r_word {t : Nat → Int32} {n p : Nat} (hR : Rp A t n) (hp : p ≤ n) (h6 : A 39 6 = nI p) : ∃ B, ex S (d + 3) 115 [.ref 39] (Hh k E A L T) = some (.inl none, Hh k E B L T) ∧ B 39 6 = nI (wE t n p) ∧ B 39 8 = nI (tS t n p) ∧ Ry A B := by
  have h400 := hR.2.2
  have hs := tS_c (t := t) hp
  have hw := wE_c (t := t) hp
  obtain ⟨B, b1, b2, b3, b4⟩ := r_blanks (S := S) (d := d) (k := k) (E := E) (L := L) (T := T) hR hp h6
  obtain ⟨C, g', hg', e1, e2, e3, e4, e5⟩ := r_run (k := k) (E := E) (A := B) (L := L) (T := T) (q := isL) (F := fun g h => bd S (ex S (d + 2)) dflT E_X12_word g 4 [some (.ref 39)] [] h) (fun x => isL_iff) (by
    intro g B p hB hp b6 z
    show bd S (ex S (d + 2)) dflT E_X12_word (g + 1) 4 _ [] _ = _
    rw [g_X12_word_4]
    simp -implicitDefEqProofs only [hc_39, r_isAt hB hp b6, if_pos z, q_I, i1_0, if_false, hg_39_6, b6, hp_39_6, nI_p1]) (Rp_R hR b4) hs.2 b2 (g := 90000) (n0 := 99999) (by unfold wE at hw; omega)
  obtain ⟨g2, rfl⟩ : ∃ g2, g' = g2 + 1 := ⟨g' - 1, by omega⟩
  have e2' : C 39 6 = nI (wE t n p) := e2
  have e5' : ¬ (wE t n p < n ∧ ¬ t (wE t n p) < 97 ∧ ¬ 122 < t (wE t n p)) := e5
  rw [x_X12_word, g_X12_word_0]
  simp -implicitDefEqProofs only [hc_39, b1, q_U]
  rw [show bd S (ex S (d + 2)) dflT E_X12_word 99999 4 [some (.ref 39)] [] (Hh k E B L T) = _ from e1, g_X12_word_4]
  simp -implicitDefEqProofs only [hc_39, r_isAt (Rp_R (Rp_R hR b4) e4) hw.2 e2', if_neg e5', q_I, if_true]
  exact ⟨C, rfl, e2', e3.trans b3, Ry_tr b4 e4⟩
theorem mt_d {t : Nat → Int32} {w : List Int32} {s i : Nat} (hi : i < w.length) : mt t (w.drop i) (s + i) = (decide (t (s + i) = w.getD i 0) && mt t (w.drop (i + 1)) (s + (i + 1))) := by
  rw [dr_s hi]; rfl
theorem r_isWord {t : Nat → Int32} {n s e j : Nat} (hj : j < 43) (hR : Rp A t n) (hs : s ≤ e) (he : e ≤ n) (h6 : A 39 6 = nI e) (h8 : A 39 8 = nI s) : ex S (d + 4) 118 [.ref 39, .retAddr (100 + j)] (Hh k E A L T) = some (.inl (some (.int (if isWd t s e (strByt.getD j []) = true then 1 else 0))), Hh k E A L T) := by
  have h400 := hR.2.2
  obtain ⟨b1, -⟩ := byt_ok ⟨j, hj⟩
  have h1 := (cod_ok ⟨j, hj⟩).1
  simp only at b1 h1
  have len := s_len (S := S) (d := d + 1) (j := j) (h := Hh k E A L T) hj
  have chr := fun i hi => s_chr (S := S) (d := d) (j := j) (i := i) (h := Hh k E A L T) hj hi
  rw [← b1] at len chr
  have hl : (strByt.getD j []).length ≤ 193 := by rw [b1]; exact (show ∀ j : Fin 43, strLen.getD j.1 0 ≤ 193 by decide) ⟨j, hj⟩
  generalize strByt.getD j [] = w at *
  rw [x_X12_isWord, g_X12_isWord_0]
  simp -implicitDefEqProofs only [hg_39_6, h6, hg_39_8, h8, q_iS, rS0, h1, cond_true, len, q_Ix, sub_n hs (show e < 2 ^ 31 by omega)]
  have nls : ∀ {q : Nat} {κ : rO}, nl (.retAddr q) κ = κ := fun {q κ} => rfl
  simp -implicitDefEqProofs only [nls]
  have key : ∀ b : Bool, (b = true → e = s + w.length) → (b = false → isWd t s e w = false) → bd S (ex S (d + 3)) dflT E_X12_isWord 99999 24 [some (.ref 39), some (.retAddr (100 + j)), some (.int (if b = true then 1 else 0)), some (.int 0)] [] (Hh k E A L T) = some (.inl (some (.int (if isWd t s e w = true then 1 else 0))), Hh k E A L T) := by
    intro b hb hb2
    refine loop_Q (α := Bool) (F := fun g i b => bd S (ex S (d + 3)) dflT E_X12_isWord g 24 [some (.ref 39), some (.retAddr (100 + j)), some (.int (if b = true then 1 else 0)), some (.int (nI i))] [] (Hh k E A L T)) (N := w.length) (P := fun i b => (b = true → e = s + w.length ∧ mt t w s = mt t (w.drop i) (s + i)) ∧ (b = false → isWd t s e w = false)) (Q := fun r => r = some (.inl (some (.int (if isWd t s e w = true then 1 else 0))), Hh k E A L T)) ?_ ?_ (s := b) ⟨fun z => ⟨hb z, rfl⟩, hb2⟩ (by omega)
    · rintro g i b hi ⟨p1, p2⟩
      cases b with
      | false =>
        left
        show _ = _
        rw [g_X12_isWord_24, p2 rfl]
        simp -implicitDefEqProofs only [Bool.false_eq_true, if_false, if_true, q_z0]
      | true =>
        right
        obtain ⟨z1, z2⟩ := p1 rfl
        rw [mt_d hi] at z2
        rw [g_X12_isWord_24]
        simp -implicitDefEqProofs only [if_true, i1_0, if_false, q_iS, rS0, h1, cond_true, len, q_Ix, if_neg (show ¬ nI w.length ≤ nI i from nI_ge hi (by omega)), hv_39_4, hg_39_8, h8, nI_add, an_42 (show s + i < 400 by omega), hR.1 (s + i) (by omega), chr i hi, nls, nI_p1]
        by_cases q : t (s + i) = w.getD i 0
        · rw [if_pos q]
          refine ⟨true, rfl, fun _ => ⟨z1, ?_⟩, (fun z => (by cases z))⟩
          rw [z2, decide_eq_true q, Bool.true_and]
        · rw [if_neg q]
          refine ⟨false, rfl, (fun z => (by cases z)), fun _ => ?_⟩
          unfold isWd
          rw [z2, decide_eq_false q, Bool.false_and, Bool.and_false]
    · rintro g b ⟨p1, p2⟩
      cases b with
      | false =>
        show _ = _
        rw [g_X12_isWord_24, p2 rfl]
        simp -implicitDefEqProofs only [Bool.false_eq_true, if_false, if_true, q_z0]
      | true =>
        obtain ⟨z1, z2⟩ := p1 rfl
        have : isWd t s e w = true := by
          unfold isWd
          rw [z2, List.drop_eq_nil_of_le (Nat.le_refl _)]
          simp [z1, mt]
        show _ = _
        rw [g_X12_isWord_24, this]
        simp -implicitDefEqProofs only [if_true, i1_0, if_false, q_iS, rS0, h1, cond_true, len, q_Ix, if_pos (Int32.le_refl (nI w.length)), q_z1]
  by_cases q : e = s + w.length
  · rw [if_pos (show nI (e - s) = nI w.length by rw [show e - s = w.length by omega])]
    exact key true (fun _ => q) (fun z => by cases z)
  · rw [if_neg (show ¬ nI (e - s) = nI w.length from fun z => q (by have := (nI_eq (by omega) (by omega)).mp z; omega))]
    exact key false (fun z => by cases z) (fun _ => by unfold isWd; simp [q])
theorem r_sign {t : Nat → Int32} {n p : Nat} {x : Int32} (hR : Rp A t n) (hp : p ≤ n) (h6 : A 39 6 = nI p) : ∃ B, ex S (d + 3) 127 [.ref 39, .int x] (Hh k E A L T) = some (.inl (some (.int (if tS t n p < n ∧ t (tS t n p) = x then 1 else 0))), Hh k E B L T) ∧ B 39 6 = nI (if tS t n p < n ∧ t (tS t n p) = x then tS t n p + 1 else tS t n p) ∧ B 39 8 = nI (tS t n p) ∧ Ry A B := by
  have hs := tS_c (t := t) hp
  obtain ⟨B, b1, b2, b3, b4⟩ := r_blanks (S := S) (d := d) (k := k) (E := E) (L := L) (T := T) hR hp h6
  have hx : (tS t n p < n ∧ ¬ t (tS t n p) < x ∧ ¬ x < t (tS t n p)) ↔ (tS t n p < n ∧ t (tS t n p) = x) := by rw [eq_iff]
  rw [x_X12_sign, g_X12_sign_0]
  simp -implicitDefEqProofs only [hc_39, b1, q_U, r_isAt (Rp_R hR b4) hs.2 b2, q_I, hx]
  by_cases q : tS t n p < n ∧ t (tS t n p) = x
  · simp -implicitDefEqProofs only [if_pos q, i1_0, if_false, hg_39_6, b2, hp_39_6, nI_p1, q_z1]
    exact ⟨_, rfl, up_ii, by rw [up_rr (by decide)]; exact b3, Ry_tr b4 Ry_6⟩
  · simp -implicitDefEqProofs only [if_neg q, if_true, q_z0]
    exact ⟨B, rfl, b2, b3, b4⟩
def numR (t : Nat → Int32) (s e : Nat) (hi : Int32) : Int32 := if e = s then -1 else if 6 < e - s then -1 else if nv t s (e - s) ≤ hi then nv t s (e - s) else -1
def dE (t : Nat → Int32) (n p : Nat) : Nat := run isD t n (tS t n p)
theorem dE_c {t : Nat → Int32} {n p : Nat} (hp : p ≤ n) : tS t n p ≤ dE t n p ∧ dE t n p ≤ n := ⟨(run_c isD t (tS_c hp).2).1, (run_c isD t (tS_c hp).2).2.1⟩
theorem r_number {t : Nat → Int32} {n p : Nat} {hi : Int32} (hR : Rp A t n) (hp : p ≤ n) (h6 : A 39 6 = nI p) : ∃ B, ex S (d + 3) 121 [.ref 39, .int hi] (Hh k E A L T) = some (.inl (some (.int (numR t (tS t n p) (dE t n p) hi))), Hh k E B L T) ∧ B 39 6 = nI (dE t n p) ∧ B 39 8 = nI (tS t n p) ∧ Ry A B := by
  have h400 := hR.2.2
  have hs := tS_c (t := t) hp
  have hd := dE_c (t := t) hp
  obtain ⟨B, b1, b2, b3, b4⟩ := r_blanks (S := S) (d := d) (k := k) (E := E) (L := L) (T := T) hR hp h6
  obtain ⟨a1, a2, a3, a4⟩ := run_c isD t (n := n) (p := tS t n p) hs.2
  have he : run isD t n (tS t n p) = dE t n p := rfl
  rw [he] at a1 a2 a3 a4
  generalize tS t n p = s at *
  generalize dE t n p = e at *
  rw [x_X12_number, g_X12_number_0]
  simp -implicitDefEqProofs only [hc_39, b1, q_U]
  obtain ⟨C, g', hg', f1, f2, f3, f4⟩ := loop_RK (K := 1) (α := fA) (F := fun g f B => bd S (ex S (d + 2)) dflT E_X12_number g 6 [some (.ref 39), some (.int hi), some (.int (nv t s (if f ≤ 6 then f else 6)))] [] (Hh k E B L T)) (N := e - s) (P := fun f C => C 39 6 = nI (s + f) ∧ C 39 8 = nI s ∧ Ry B C) (s := B) (by
    rintro g f C hf ⟨c1, c2, c3⟩
    have hC := Rp_R (Rp_R hR b4) c3
    have z := isD_iff.mp (a3 (s + f) (by omega) (by omega))
    have ed : nI (s + f) - nI s = nI f := by rw [sub_n (by omega) (by omega), show s + f - s = f by omega]
    rw [g_X12_number_6]
    simp -implicitDefEqProofs only [hc_39, r_isAt hC (show s + f ≤ n by omega) c1, if_pos (show s + f < n ∧ ¬ t (s + f) < 48 ∧ ¬ 57 < t (s + f) from ⟨by omega, z⟩), q_I, i1_0, if_false, hg_39_6, c1, hg_39_8, c2, ed]
    by_cases q : 6 ≤ f
    · rw [if_pos (show (6 : Int32) ≤ nI f from (nI_leI (a := 6) (by decide) (by omega)).mpr q)]
      simp -implicitDefEqProofs only [hg_39_6, c1, hp_39_6, nI_p1]
      refine ⟨up C 39 6 (nI (s + f + 1)), g, Nat.le_refl _, ?_, up_ii, by rw [up_rr (by decide)]; exact c2, Ry_tr c3 Ry_6⟩
      have e1 : (if f ≤ 6 then f else 6) = 6 := by split <;> omega
      have e2 : (if f + 1 ≤ 6 then f + 1 else 6) = 6 := by split <;> omega
      rw [e1, e2]
    · rw [if_neg (show ¬ (6 : Int32) ≤ nI f from nI_ge (b := 6) (by omega) (by decide))]
      simp -implicitDefEqProofs only [hv_39_4, hg_39_6, c1, an_42 (show s + f < 400 by omega), hC.1 (s + f) (by omega), hp_39_6, nI_p1]
      refine ⟨up C 39 6 (nI (s + f + 1)), g, Nat.le_refl _, ?_, up_ii, by rw [up_rr (by decide)]; exact c2, Ry_tr c3 Ry_6⟩
      rw [if_pos (show f ≤ 6 by omega), if_pos (show f + 1 ≤ 6 by omega), show nv t s (f + 1) = nv t s f * 10 + t (s + f) - 48 from rfl, Int32.mul_comm 10]) ⟨b2, b3, Ry_refl⟩ 90000 99999 (by omega)
  have f1' : bd S (ex S (d + 2)) dflT E_X12_number 99999 6 [some (.ref 39), some (.int hi), some (.int 0)] [] (Hh k E B L T) = _ := f1
  obtain ⟨g2, rfl⟩ : ∃ g2, g' = g2 + 1 := ⟨g' - 1, by omega⟩
  rw [show s + (e - s) = e by omega] at f2
  have hC := Rp_R (Rp_R hR b4) f4
  have ze : ¬ (e < n ∧ ¬ t e < 48 ∧ ¬ 57 < t e) := fun z => by have := a4 z.1; rw [isD_iff.mpr z.2] at this; cases this
  have ed : nI e - nI s = nI (e - s) := sub_n (by omega) (by omega)
  rw [f1', g_X12_number_6]
  simp -implicitDefEqProofs only [hc_39, r_isAt hC (show e ≤ n by omega) f2, if_neg ze, q_I, if_true, hg_39_6, f2, hg_39_8, f3, ed]
  refine ⟨C, ?_, f2, f3, Ry_tr b4 f4⟩
  unfold numR
  by_cases q : e = s
  · rw [if_pos (show nI e = nI s by rw [q]), if_pos q]
  · rw [if_neg (show ¬ nI e = nI s from fun z => q ((nI_eq (by omega) (by omega)).mp z)), if_neg q]
    by_cases q6 : 6 < e - s
    · rw [if_pos (show (6 : Int32) < nI (e - s) from nI_lt (a := 6) q6 (by omega)), if_pos q6]
    · rw [if_neg (show ¬ (6 : Int32) < nI (e - s) from nI_nlt (a := 6) (by omega) (by decide)), if_neg q6, if_pos (show e - s ≤ 6 by omega)]
      by_cases qh : nv t s (e - s) ≤ hi
      · rw [if_pos qh, if_pos qh]
      · rw [if_neg qh, if_neg qh]
end RTokB
