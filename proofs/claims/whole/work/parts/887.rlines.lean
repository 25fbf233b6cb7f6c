/-! the reference reads a text -/
section RLinesB
variable {S : sT} {d c D : Nat} {k : Value} {E : List dsc} {A : fA} {L : fL} {T : fT} {t : Nat → Int32} {n ln : Nat}
def RLc (A : fA) (i : Nat) (a : LN) : Prop := ∃ q', RXl i (sN a.1) (nI a.2.2.1) q' (nI a.2.2.2) A ∧ oR a.1 a.2.1 q'
def RLs (A : fA) (acc : List LN) : Prop := ∀ i, i < acc.length → RLc A i (acc.getD i ln0)
theorem RLs_f {B : fA} {acc : List LN} (h : ∀ i, i < 34981 + 6 * acc.length → B 40 i = A 40 i) (hA : RLs A acc) : RLs B acc := by
  intro i hi
  obtain ⟨q', ⟨a1, a2, a3, a4, a5, a6⟩, ho⟩ := hA i hi
  exact ⟨q', ⟨by rw [h _ (by omega)]; exact a1, by rw [h _ (by omega)]; exact a2, by rw [h _ (by omega)]; exact a3, by rw [h _ (by omega)]; exact a4, by rw [h _ (by omega)]; exact a5, by rw [h _ (by omega)]; exact a6⟩, ho⟩
theorem RLs_a {acc : List LN} {a : LN} (hA : RLs A acc) (h : RLc A acc.length a) : RLs A (acc ++ [a]) := by
  intro i hi
  rw [List.length_append] at hi
  have hi' : i < acc.length + 1 := hi
  by_cases q : i = acc.length
  · subst q; rw [gD_z]; exact h
  · rw [gD_a (by omega)]; exact hA i (by omega)
theorem RLn_le {ln' : Nat} {B : fA} (hl : ln ≤ ln') (h : RLn ln' A B) : RLn ln A B := ⟨h.1, h.2.1, fun i hi => h.2.2 i (by omega)⟩
theorem r_sort {s p : Nat} (b : Bool) (hR : Rp A t n) (hp : p ≤ n) (hs : tS t n p = s) (h6 : A 39 6 = nI (wE t n p)) (h8 : A 39 8 = nI s) : (∃ v, vlo b ≤ v ∧ v ≤ vhi b ∧ tV t n s = nI v ∧ tK t n s = 1 ∧ iW t n s (nI (vlo b)) (nI (vhi b)) = true ∧ ex S (d + 6) 120 [.ref 39, .int (bJ b)] (Hh k E A L T) = some (.inl (some (.int (sN v))), Hh k E A L T) ∧ ¬ sN v < 0) ∨ (¬ iW t n s (nI (vlo b)) (nI (vhi b)) = true ∧ ex S (d + 6) 120 [.ref 39, .int (bJ b)] (Hh k E A L T) = some (.inl (some (.int (-1))), Hh k E A L T)) := by
  have vv : ∀ lo hi : Nat, lo < 2 ^ 31 → hi < 2 ^ 31 → iW t n s (nI lo) (nI hi) = true → ∃ v, lo ≤ v ∧ v ≤ hi ∧ tV t n s = nI v := by
    intro lo hi h1 h2 y
    obtain ⟨k1, k2, k3⟩ := inW_k y
    obtain ⟨v, hv, ev⟩ := nI_of (x := tV t n s) (fun z => by
      rw [Int32.lt_iff_toInt_lt] at k2 z
      rw [nI_toInt h1] at k2
      simp at z
      omega)
    rw [ev, nI_ltI hv h1] at k2
    rw [ev, nI_ltI h2 hv] at k3
    exact ⟨v, by omega, by omega, ev⟩
  cases b with
  | true =>
    rcases r_sort1 (S := S) (d := d + 1) (k := k) (E := E) (L := L) (T := T) hR hp hs h6 h8 with ⟨y1, y2, y3⟩ | ⟨y1, y2⟩
    · obtain ⟨v, v1, v2, v3⟩ := vv 24 30 (by decide) (by decide) y1
      have e : tV t n s - 24 = sN v := by
        rw [v3]
        have : v = 24 ∨ v = 25 ∨ v = 26 ∨ v = 27 ∨ v = 28 ∨ v = 29 ∨ v = 30 := by omega
        rcases this with rfl | rfl | rfl | rfl | rfl | rfl | rfl <;> decide
      rw [e] at y2 y3
      exact Or.inl ⟨v, v1, v2, v3, (inW_k y1).1, y1, y2, y3⟩
    · exact Or.inr ⟨y1, y2⟩
  | false =>
    rcases r_sort0 (S := S) (d := d) (k := k) (E := E) (L := L) (T := T) hR hp hs h6 h8 with ⟨y1, y2, y3⟩ | ⟨y1, y2⟩
    · obtain ⟨v, v1, v2, v3⟩ := vv 17 23 (by decide) (by decide) y1
      have e : tV t n s - 7 = sN v := by
        rw [v3]
        have : v = 17 ∨ v = 18 ∨ v = 19 ∨ v = 20 ∨ v = 21 ∨ v = 22 ∨ v = 23 := by omega
        rcases this with rfl | rfl | rfl | rfl | rfl | rfl | rfl <;> decide
      rw [e] at y2 y3
      exact Or.inl ⟨v, v1, v2, v3, (inW_k y1).1, y1, y2, y3⟩
    · exact Or.inr ⟨y1, y2⟩
theorem r_line {s : Nat} {cs : Cs} (b : Bool) (hl : ln < 16) (h : RSt t n A s cs) (hls : cs.length ≤ s) : ∃ B y, ex S (d + 30) 137 [.ref 39, .int (nI ln), .int (bJ b)] (Hh k E A L T) = some (.inl (some (.int y)), Hh k E B L T) ∧ RLn ln A B ∧ ((∃ s' cs' a, pLn t n b s cs = .inl (s', cs', a) ∧ y = 1 ∧ RSt t n B s' cs' ∧ RLc B ln a ∧ cs'.length ≤ s') ∨ ∃ e, pLn t n b s cs = .inr e ∧ y = 0 ∧ B 39 8 = nI e) := by
  obtain ⟨B, p, hp, hs, b1, b2, b3, b4⟩ := r_wd (S := S) (d := d + 26) (k := k) (E := E) (L := L) (T := T) h
  have n2 := (nx_c h.2.1).2.1
  have la : ex S (d + 29) 117 [.int 36, .int (nI ln)] (Hh k E B L T) = some (.inl (some (.int (nI (34981 + 6 * ln)))), Hh k E B L T) := r_lat (S := S) (d := d + 27) (t := 36) (n := ln)
  have z12 : B 39 12 = nI cs.length := by rw [b4.2 12 (by decide) (by decide)]; exact h.2.2.2.1
  rw [x_X12_readLine, g_X12_readLine_0]
  simp -implicitDefEqProofs only [hc_39, b1, q_U, if_neg (show ¬ nI ln = 16 from fun z => by have := (nI_eq (b := 16) (by omega) (by decide)).mp z; omega), la, q_I]
  have st : ∀ y : Int32, ∃ C, C = up (up (up (up B 40 (34981 + 6 * ln + 0) y) 40 (34981 + 6 * ln + 1) 0) 40 (34981 + 6 * ln + 4) (nI cs.length)) 40 (34981 + 6 * ln + 5) (nI cs.length) ∧ RLn ln B C ∧ C 39 = B 39 ∧ RXl ln y (nI cs.length) (0, B 40 (34981 + 6 * ln + 2), B 40 (34981 + 6 * ln + 3)) (nI cs.length) C := by
    intro y
    refine ⟨_, rfl, RLn_tr RLn_w (RLn_tr RLn_w (RLn_tr RLn_w RLn_w)), by rw [u4039, u4039, u4039, u4039], ?_, ?_, ?_, ?_, ?_, ?_⟩
    · rw [up_rr (by omega), up_rr (by omega), up_rr (by omega), up_ii]
    · rw [up_rr (by omega), up_rr (by omega), up_ii]
    · rw [up_rr (by omega), up_rr (by omega), up_rr (by omega), up_rr (by omega)]
    · rw [up_rr (by omega), up_rr (by omega), up_rr (by omega), up_rr (by omega)]
    · rw [up_rr (by omega), up_ii]
    · rw [up_ii]
  have h0 : nI (34981 + 6 * ln) = nI (34981 + 6 * ln + 0) := rfl
  rcases r_sort (S := S) (d := d + 23) (k := k) (E := E) (L := L) (T := T) b (Rp_R h.1 b4) hp hs b2 b3 with ⟨v, v1, v2, v3, v4, v5, v6, v7⟩ | ⟨v5, v6⟩
  · obtain ⟨C, c1, c2, c3, c4⟩ := st (sN v)
    obtain ⟨w1, w2⟩ := vb_r v1 v2
    have stB : RSt t n C (nx t n s) cs := by rw [c1]; exact RSt_w (by omega) (RSt_w (by omega) (RSt_w (by omega) (RSt_w (by omega) (RSt_word h hs b4 b2 v4))))
    simp -implicitDefEqProofs only [v6, q_I, hv_39_1]
    rw [h0, sn_40 (show 34981 + 6 * ln + 0 < 35877 by omega)]
    simp -implicitDefEqProofs only [hv_39_1, nI_p1, nI_p4, nI_p5, sn_40 (show 34981 + 6 * ln + 0 + 1 < 35877 by omega), sn_40 (show 34981 + 6 * ln + 0 + 4 < 35877 by omega), sn_40 (show 34981 + 6 * ln + 0 + 5 < 35877 by omega), hg_39_12, u4039, z12]
    rw [show 34981 + 6 * ln + 0 + 1 = 34981 + 6 * ln + 1 from rfl, show 34981 + 6 * ln + 0 + 4 = 34981 + 6 * ln + 4 from rfl, show 34981 + 6 * ln + 0 + 5 = 34981 + 6 * ln + 5 from rfl, ← c1, if_neg v7]
    obtain ⟨F, bb, f1, f2, f3⟩ := r_rest (S := S) (d := d) (k := k) (E := E) (L := L) (T := T) w1 w2 hl C (nx t n s) cs (nI cs.length) _ _ stB (by omega) c4
    have f1' : ex S (d + 29) 136 [.ref 39, .int (nI (34981 + 6 * ln + 0)), .int (sN v)] (Hh k E C L T) = _ := f1
    have el : pLn t n b s cs = (match rst t n v (nx t n s) cs with | .inl x => .inl (x.1, x.2.1, v, x.2.2, cs.length, x.2.1.length) | .inr e => .inr e) := by
      unfold pLn; rw [if_pos v5, v3, nI_clamp (by omega)] <;> rfl
    simp -implicitDefEqProofs only [hc_39, f1', q_I]
    rw [el]
    have fr : RLn ln A F := RLn_tr (RLn_R b4 (by omega)) (RLn_tr c2 f2)
    rcases f3 with ⟨s', cs', q, q', y1, rfl, y3, y4, y5⟩ | ⟨e, y1, rfl, y3⟩
    · rw [if_neg (by decide), q_z1, y1]
      obtain ⟨u1, u2, u3, -⟩ := rst_ok w1 w2 _ _ _ _ _ (nx_c h.2.1).1 y1
      exact ⟨F, 1, rfl, fr, Or.inl ⟨s', cs', _, rfl, rfl, y3, ⟨q', y4, y5⟩, by omega⟩⟩
    · rw [if_pos rfl, q_z0, y1]
      exact ⟨F, 0, rfl, fr, Or.inr ⟨e, rfl, rfl, y3⟩⟩
  · obtain ⟨C, c1, c2, c3, c4⟩ := st (-1)
    simp -implicitDefEqProofs only [v6, q_I, hv_39_1]
    rw [h0, sn_40 (show 34981 + 6 * ln + 0 < 35877 by omega)]
    simp -implicitDefEqProofs only [hv_39_1, nI_p1, nI_p4, nI_p5, sn_40 (show 34981 + 6 * ln + 0 + 1 < 35877 by omega), sn_40 (show 34981 + 6 * ln + 0 + 4 < 35877 by omega), sn_40 (show 34981 + 6 * ln + 0 + 5 < 35877 by omega), hg_39_12, u4039, z12]
    rw [show 34981 + 6 * ln + 0 + 1 = 34981 + 6 * ln + 1 from rfl, show 34981 + 6 * ln + 0 + 4 = 34981 + 6 * ln + 4 from rfl, show 34981 + 6 * ln + 0 + 5 = 34981 + 6 * ln + 5 from rfl, ← c1, if_pos (by decide), q_z0]
    exact ⟨C, 0, rfl, RLn_tr (RLn_R b4 (by omega)) c2, Or.inr ⟨s, by unfold pLn; rw [if_neg v5], rfl, by rw [c3]; exact b3⟩⟩
theorem r_line16 {s : Nat} {cs : Cs} {x : Int32} (h : RSt t n A s cs) : ∃ B, ex S (d + 30) 137 [.ref 39, .int 16, .int x] (Hh k E A L T) = some (.inl (some (.int 0)), Hh k E B L T) ∧ Ry A B ∧ B 39 8 = nI s := by
  obtain ⟨B, p, hp, hs, b1, b2, b3, b4⟩ := r_wd (S := S) (d := d + 26) (k := k) (E := E) (L := L) (T := T) h
  rw [x_X12_readLine, g_X12_readLine_0]
  simp -implicitDefEqProofs only [hc_39, b1, q_U, if_true, q_z0]
  exact ⟨B, rfl, b4, b3⟩
def rTo (k : Value) (E : List dsc) (L : fL) (T : fT) (A : fA) (r : Sum (List LN × Cs) Nat) (o : rO) : Prop := ∃ B y, o = some (.inl (some (.int y)), Hh k E B L T) ∧ RLn 0 A B ∧ ((∃ acc cs, r = .inl (acc, cs) ∧ y = nI acc.length ∧ RLs B acc ∧ acc.length ≤ 16 ∧ ∀ i, i < cs.length → B 40 (35077 + 2 * i) = (cs.getD i (0, 0)).1 ∧ B 40 (35077 + 2 * i + 1) = (cs.getD i (0, 0)).2) ∨ ∃ e, r = .inr e ∧ y = -1 ∧ B 39 8 = nI e)
theorem rTo_F {B : fA} {r : Sum (List LN × Cs) Nat} {o : rO} (h : RLn 0 A B) (g : rTo k E L T B r o) : rTo k E L T A r o := by
  obtain ⟨C, b, c1, c2, c3⟩ := g
  exact ⟨C, b, c1, RLn_tr h c2, c3⟩
theorem K0_n {s : Nat} (hs : Nm t n s) : tK t n s = 0 ↔ s = n := by
  constructor
  · intro h
    rcases Nat.lt_or_ge s n with q | q
    · unfold tK at h
      rw [hs.2, if_neg (by omega)] at h
      split at h
      · exact absurd h (by decide)
      · split at h <;> exact absurd h (by decide)
    · have := hs.1; omega
  · intro h
    unfold tK
    rw [hs.2, if_pos (by omega)]
theorem r_ls (b : Bool) (m : Nat) : ∀ (i s g : Nat) (cs : Cs) (acc : List LN) (A : fA), RSt t n A s cs → acc.length = i → RLs A acc → cs.length ≤ s → i + m = 16 → m + 1 ≤ g → rTo k E L T A (pLs t n b m s cs acc) (bd S (ex S (d + 30)) dflT E_X12_readAll g 29 [some (.ref 39), some (.int (bJ b)), some (.int (nI i))] [] (Hh k E A L T)) := by
  induction m with
  | zero =>
    intro i s g cs acc A h hi hA hls hm hg
    obtain ⟨g, rfl⟩ : ∃ g', g = g' + 1 := ⟨g - 1, by omega⟩
    have e : i = 16 := by omega
    obtain ⟨B, b1, b2, b3⟩ := r_line16 (S := S) (d := d) (k := k) (E := E) (L := L) (T := T) (x := bJ b) h
    rw [g_X12_readAll_29, e]
    have b1' : ex S (d + 30) 137 [.ref 39, .int (nI 16), .int (bJ b)] (Hh k E A L T) = _ := b1
    simp -implicitDefEqProofs only [hc_39, b1', q_I]
    rw [if_pos trivial]
    exact ⟨B, -1, rfl, RLn_R b2 (by omega), Or.inr ⟨s, rfl, rfl, b3⟩⟩
  | succ m ih =>
    intro i s g cs acc A h hi hA hls hm hg
    obtain ⟨g, rfl⟩ : ∃ g', g = g' + 1 := ⟨g - 1, by omega⟩
    have hl : i < 16 := by omega
    have ep : pLs t n b (m + 1) s cs acc = (match pLn t n b s cs with | .inl x => if tK t n x.1 = 0 then .inl (acc ++ [x.2.2], x.2.1) else if sgP t n x.1 59 = true then pLs t n b m (nx t n x.1) x.2.1 (acc ++ [x.2.2]) else .inr x.1 | .inr e => .inr e) := rfl
    obtain ⟨B, y, b1, b2, b3⟩ := r_line (S := S) (d := d) (k := k) (E := E) (L := L) (T := T) b hl h hls
    rw [ep, g_X12_readAll_29]
    simp -implicitDefEqProofs only [hc_39, b1, q_I]
    rcases b3 with ⟨s', cs', a, x1, rfl, x3, x4, x5⟩ | ⟨e, x1, rfl, x3⟩
    · rw [if_neg (by decide), x1]
      obtain ⟨p, hp, h6, hs'⟩ := x3.2.2.1
      have hn' := x3.2.1
      obtain ⟨C, c1, c2, c3, c4⟩ := r_blanks (S := S) (d := d + 28) (k := k) (E := E) (L := L) (T := T) x3.1 hp h6
      rw [hs'] at c2 c3
      have RC := Rp_R x3.1 c4
      have h400 := RC.2.2
      have stC : RSt t n C s' cs' := RSt_R x3 c4 hn'.1 c2 hn'.2
      have la : (acc ++ [a]).length = i + 1 := by rw [List.length_append, hi]; rfl
      have FC : RLn i A C := RLn_tr b2 (RLn_R c4 (by omega))
      have z40 := c4.1 40 (by decide)
      have aC : RLs C (acc ++ [a]) := by
        refine RLs_a (RLs_f (fun j hj => FC.2.2 j (by omega)) hA) ?_
        rw [hi]
        obtain ⟨q', ⟨a1, a2, a3, a4, a5, a6⟩, ho⟩ := x4
        exact ⟨q', ⟨by rw [z40]; exact a1, by rw [z40]; exact a2, by rw [z40]; exact a3, by rw [z40]; exact a4, by rw [z40]; exact a5, by rw [z40]; exact a6⟩, ho⟩
      simp -implicitDefEqProofs only [hc_39, c1, q_U, hg_39_6, c2, hg_39_7, RC.2.1, nI_p1]
      by_cases q0 : tK t n s' = 0
      · have e := (K0_n hn').mp q0
        rw [if_pos q0, if_pos (show nI s' = nI n by rw [e])]
        exact ⟨C, _, rfl, RLn_le (by omega) FC, Or.inl ⟨_, _, rfl, by rw [la], aC, by omega, stC.2.2.2.2⟩⟩
      · have ne : ¬ s' = n := fun z => q0 ((K0_n hn').mpr z)
        have hsn := hn'.1
        rw [if_neg (show ¬ nI s' = nI n from fun z => ne ((nI_eq (by omega) (by omega)).mp z)), if_neg q0]
        have ia := r_isAt (S := S) (d := d + 29) (k := k) (E := E) (L := L) (T := T) (lo := 59) (hi := 59) RC hsn c2
        simp -implicitDefEqProofs only [hc_39, ia, q_I]
        have sg := sg_iff (t := t) (n := n) (x := 59) hn' (by decide) (by decide)
        by_cases y : sgP t n s' 59 = true
        · obtain ⟨y1, y2⟩ := sg.mpr y
          obtain ⟨y3, y4⟩ := eq_iff.mp y2
          rw [if_pos y, if_pos (show s' < n ∧ ¬ t s' < 59 ∧ ¬ 59 < t s' from ⟨y1, y3, y4⟩), if_neg (show ¬ (1 : Int32) = 0 by decide)]
          simp -implicitDefEqProofs only [hg_39_6, c2, nI_p1, hp_39_6]
          have stD : RSt t n (up C 39 6 (nI (s' + 1))) (nx t n s') cs' := RSt_R stC Ry_6 (show s' + 1 ≤ n by omega) up_ii (by unfold nx; rw [tE_3 hn' (sg_k y).1])
          have := (nx_c hn').2.1
          refine rTo_F (RLn_le (by omega) (RLn_tr FC (RLn_R Ry_6 (by omega)))) (ih (i + 1) (nx t n s') g cs' (acc ++ [a]) _ stD la ?_ (by omega) (by omega) (by omega))
          exact RLs_f (fun j _ => by rw [up_ne (by decide)]) aC
        · rw [if_neg y, if_neg (show ¬ (s' < n ∧ ¬ t s' < 59 ∧ ¬ 59 < t s') from fun z => y (sg.mp ⟨z.1, eq_iff.mpr z.2⟩)), if_pos rfl]
          exact ⟨C, -1, rfl, RLn_le (by omega) FC, Or.inr ⟨s', rfl, rfl, c3⟩⟩
    · rw [if_pos rfl, x1]
      exact ⟨B, -1, rfl, RLn_le (by omega) b2, Or.inr ⟨e, rfl, rfl, x3⟩⟩
/-- the reference reads a text -/
theorem r_read (b : Bool) (hT : Rp A t n) : ∃ B y, ex S (d + 32) 139 [.ref 39, .int (bJ b)] (Hh k E A L T) = some (.inl (some (.int y)), Hh k E B L T) ∧ (∀ r, r ≠ 39 → r ≠ 40 → B r = A r) ∧ (∀ j, j ≠ 6 → j ≠ 8 → j ≠ 9 → j ≠ 10 → j ≠ 12 → B 39 j = A 39 j) ∧ (∀ i, i < 34979 → B 40 i = A 40 i) ∧ ((∃ acc cs, pTx t n b = .inl (acc, cs) ∧ y = nI acc.length ∧ B 39 10 = -1 ∧ B 40 34980 = nI acc.length ∧ acc.length ≤ 16 ∧ RLs B acc ∧ ∀ i, i < cs.length → B 40 (35077 + 2 * i) = (cs.getD i (0, 0)).1 ∧ B 40 (35077 + 2 * i + 1) = (cs.getD i (0, 0)).2) ∨ ∃ e, pTx t n b = .inr e ∧ y = -1 ∧ B 39 10 = nI e) := by
  obtain ⟨A3, e3⟩ : ∃ B, B = up (up A 39 6 0) 39 12 0 := ⟨_, rfl⟩
  have T3 : Rp A3 t n := ⟨fun i hi => by rw [e3, up_ne (by decide), up_ne (by decide)]; exact hT.1 i hi, by rw [e3, up_rr (by decide), up_rr (by decide)]; exact hT.2.1, hT.2.2⟩
  obtain ⟨B, b1, b2, b3, b4⟩ := r_blanks (S := S) (d := d + 28) (k := k) (E := E) (L := L) (T := T) (p := 0) T3 (Nat.zero_le _) (by rw [e3, up_rr (by decide), up_ii]; rfl)
  have RB := Rp_R T3 b4
  have h400 := RB.2.2
  have B12 : B 39 12 = nI 0 := by rw [b4.2 12 (by decide) (by decide), e3, up_ii]; rfl
  have stB : RSt t n B (tS t n 0) [] := ⟨RB, Nm_S (Nat.zero_le _), ⟨tS t n 0, (tS_c (Nat.zero_le _)).2, b2, tS_i (Nat.zero_le _)⟩, B12, fun i hi => absurd hi (Nat.not_lt_zero _)⟩
  have FB : RLn 0 A B := by
    refine RLn_tr ?_ (RLn_R b4 (by omega))
    rw [e3]
    exact ⟨fun r r1 _ => by rw [up_ne r1, up_ne r1], fun j j6 _ _ j12 => by rw [up_rr j12, up_rr j6], fun i _ => by rw [up_ne (by decide), up_ne (by decide)]⟩
  have tl : rTo k E L T A (pTx t n b) (ex S (d + 31) 138 [.ref 39, .int (bJ b)] (Hh k E A L T)) := by
    rw [x_X12_readAll, g_X12_readAll_0]
    simp -implicitDefEqProofs only [hp_39_6, hp_39_12]
    rw [← e3]
    simp -implicitDefEqProofs only [hc_39, b1, q_U, hg_39_6, b2, hg_39_7, RB.2.1]
    have hn0 := stB.2.1
    have hsn := hn0.1
    unfold pTx
    by_cases q0 : tK t n (tS t n 0) = 0
    · rw [if_pos q0, if_pos (show nI (tS t n 0) = nI n by rw [(K0_n hn0).mp q0])]
      exact ⟨B, 0, rfl, FB, Or.inl ⟨[], [], rfl, rfl, fun i hi => absurd hi (Nat.not_lt_zero _), by decide, fun i hi => absurd hi (Nat.not_lt_zero _)⟩⟩
    · rw [if_neg q0, if_neg (show ¬ nI (tS t n 0) = nI n from fun z => q0 ((K0_n hn0).mpr ((nI_eq (by omega) (by omega)).mp z)))]
      exact rTo_F FB (r_ls b 16 0 (tS t n 0) 99999 [] [] B stB rfl (fun i hi => absurd hi (Nat.not_lt_zero _)) (Nat.zero_le _) rfl (by decide))
  obtain ⟨C, y, c1, c2, c3⟩ := tl
  have ta : ∀ H : pH, ex S (d + 31) 116 [.int 36] H = some (.inl (some (.int (nI 34979))), H) := fun H => r_tat (S := S) (d := d + 30) (t := 36)
  rw [x_X12_reads, g_X12_reads_0]
  simp -implicitDefEqProofs only [hc_39, c1, q_I]
  rcases c3 with ⟨acc, cs, x1, rfl, x3, x4, x5⟩ | ⟨e, x1, rfl, x3⟩
  · rw [if_pos (nI_pos' (by omega))]
    simp -implicitDefEqProofs only [hp_39_10, hv_39_1, ta, q_I, nI_p1, sn_40 (show 34979 + 1 < 35877 by decide)]
    refine ⟨_, _, rfl, fun r r1 r2 => by rw [up_ne r2, up_ne r1]; exact c2.1 r r1 r2, fun j j6 j8 j9 j10 j12 => by rw [u4039, up_rr j10]; exact c2.2.1 j j6 j8 j9 j12, fun i hi => by rw [up_rr (by omega), up_ne (by decide)]; exact c2.2.2 i (by omega), Or.inl ⟨acc, cs, x1, rfl, by rw [u4039]; exact up_ii, up_ii, x4, ?_, fun i hi => ?_⟩⟩
    · intro i hi
      obtain ⟨q', ⟨a1, a2, a3, a4, a5, a6⟩, ho⟩ := x3 i hi
      have z : ∀ j, 34981 ≤ j → up (up C 39 10 (-1)) 40 (34979 + 1) (nI acc.length) 40 j = C 40 j := fun j hj => by rw [up_rr (by omega), up_ne (by decide)]
      exact ⟨q', ⟨by rw [z _ (by omega)]; exact a1, by rw [z _ (by omega)]; exact a2, by rw [z _ (by omega)]; exact a3, by rw [z _ (by omega)]; exact a4, by rw [z _ (by omega)]; exact a5, by rw [z _ (by omega)]; exact a6⟩, ho⟩
    · rw [up_rr (by omega), up_rr (by omega), up_ne (by decide)]; exact x5 i hi
  · rw [if_neg (by decide)]
    simp -implicitDefEqProofs only [hg_39_8, x3, hp_39_10, hv_39_1, ta, q_I, nI_p1, sn_40 (show 34979 + 1 < 35877 by decide)]
    exact ⟨_, _, rfl, fun r r1 r2 => by rw [up_ne r2, up_ne r1]; exact c2.1 r r1 r2, fun j j6 j8 j9 j10 j12 => by rw [u4039, up_rr j10]; exact c2.2.1 j j6 j8 j9 j12, fun i hi => by rw [up_rr (by omega), up_ne (by decide)]; exact c2.2.2 i (by omega), Or.inr ⟨e, x1, rfl, by rw [u4039]; exact up_ii⟩⟩
end RLinesB
