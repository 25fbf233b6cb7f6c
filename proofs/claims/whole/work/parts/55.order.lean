/-! the words in force, in their order -/
section OrderP
variable {W : fW}
/-- in force now -/
def pf (W : fW) (t : Nat) : Bool := decide (¬ W 0 < W (tx t))
def FW (W : fW) : List Nat := (srt W (xn W)).filter (pf W)
/-- not behind: by seasons -/
def SrtL (W : fW) : List Nat → Prop
  | [] => True
  | u :: r => (∀ v, v ∈ r → ¬ W (tx v) < W (tx u)) ∧ SrtL W r
theorem ins_cons (W : fW) (t u : Nat) (r : List Nat) : ins W t (u :: r) = if W (tx t) < W (tx u) then t :: u :: r else u :: ins W t r := rfl
/-- a text goes behind all that are not later -/
theorem ins_mid {t : Nat} {r suf : List Nat} (h1 : ∀ u, u ∈ r → ¬ W (tx t) < W (tx u)) (h2 : ∀ u, u ∈ suf → W (tx t) < W (tx u)) : ins W t (r ++ suf) = r ++ t :: suf := by
  induction r with
  | nil =>
    cases suf with
    | nil => rfl
    | cons u s => show ins W t (u :: s) = _; rw [ins_cons, if_pos (h2 u (by simp))]; rfl
  | cons u r ih =>
    show ins W t (u :: (r ++ suf)) = _
    rw [ins_cons, if_neg (h1 u (by simp)), ih (fun v hv => h1 v (by simp [hv]))]
    rfl
theorem srt_last {r : List Nat} {x : Nat} (h : SrtL W (r ++ [x])) : ∀ u, u ∈ r → ¬ W (tx x) < W (tx u) := by
  induction r with
  | nil => intro u hu; cases hu
  | cons v r ih =>
    intro u hu
    obtain ⟨a1, a2⟩ := h
    rw [List.mem_cons] at hu
    rcases hu with e | hu
    · subst e; exact a1 x (by simp)
    · exact ih a2 u hu
theorem srt_pre {r suf : List Nat} (h : SrtL W (r ++ suf)) : SrtL W r := by
  induction r with
  | nil => trivial
  | cons v r ih =>
    obtain ⟨a1, a2⟩ := h
    exact ⟨fun u hu => a1 u (by simp [hu]), ih a2⟩
theorem ins_srt {t : Nat} {l : List Nat} (h : SrtL W l) : SrtL W (ins W t l) := by
  induction l with
  | nil => exact ⟨fun v hv => absurd hv (List.not_mem_nil), trivial⟩
  | cons u r ih =>
    unfold ins
    split
    · rename_i q
      refine ⟨fun v hv => ?_, h⟩
      rw [List.mem_cons] at hv
      rcases hv with e | hv
      · subst e; exact fun q2 => Int32.lt_irrefl (Int32.lt_trans q q2)
      · have := h.1 v hv
        rw [Int32.lt_iff_toInt_lt] at *
        omega
    · rename_i q
      refine ⟨fun v hv => ?_, ih h.2⟩
      rw [mem_ins] at hv
      rcases hv with e | hv
      · subst e; exact q
      · exact h.1 v hv
theorem srt_srt (n : Nat) : SrtL W (srt W n) := by
  induction n with
  | zero => trivial
  | succ n ih => exact ins_srt ih
/-- those in force stand first -/
theorem flt_take {l : List Nat} (h : SrtL W l) : l.filter (pf W) = l.take (l.filter (pf W)).length := by
  induction l with
  | nil => rfl
  | cons u r ih =>
    by_cases q : pf W u = true
    · rw [List.filter_cons_of_pos q, List.length_cons, List.take_succ_cons, ← ih h.2]
    · have e : r.filter (pf W) = [] := by
        rw [List.filter_eq_nil_iff]
        intro v hv q2
        have h1 := h.1 v hv
        unfold pf at q q2
        simp -implicitDefEqProofs only [decide_eq_true_eq, Decidable.not_not] at q q2
        rw [Int32.lt_iff_toInt_lt] at *
        omega
      rw [List.filter_cons_of_neg q, e]
      rfl
theorem flt_ins {t : Nat} {l : List Nat} (h : SrtL W l) : (ins W t l).filter (pf W) = if pf W t = true then ins W t (l.filter (pf W)) else l.filter (pf W) := by
  induction l with
  | nil =>
    unfold ins
    by_cases q : pf W t = true
    · rw [if_pos q, List.filter_cons_of_pos q]; rfl
    · rw [if_neg q, List.filter_cons_of_neg q]
  | cons u r ih =>
    rw [ins_cons]
    by_cases q : W (tx t) < W (tx u)
    · rw [if_pos q]
      by_cases pt : pf W t = true
      · rw [if_pos pt, List.filter_cons_of_pos pt]
        by_cases pu : pf W u = true
        · rw [List.filter_cons_of_pos pu, ins_cons, if_pos q]
        · have e : (u :: r).filter (pf W) = [] := by
            rw [List.filter_cons_of_neg pu, List.filter_eq_nil_iff]
            intro v hv q2
            have h1 := h.1 v hv
            unfold pf at pu q2
            simp -implicitDefEqProofs only [decide_eq_true_eq, Decidable.not_not] at pu q2
            rw [Int32.lt_iff_toInt_lt] at *
            omega
          rw [e]; try rfl
      · rw [if_neg pt, List.filter_cons_of_neg pt]
    · rw [if_neg q]
      by_cases pu : pf W u = true
      · rw [List.filter_cons_of_pos pu, ih h.2, List.filter_cons_of_pos pu]
        by_cases pt : pf W t = true
        · rw [if_pos pt, if_pos pt, ins_cons, if_neg q]
        · rw [if_neg pt, if_neg pt]
      · rw [List.filter_cons_of_neg pu, ih h.2, List.filter_cons_of_neg pu]
/-- what the reference makes, one text after another -/
def ordN (W : fW) : Nat → List Nat
  | 0 => []
  | n + 1 => if pf W n = true then ins W n (ordN W n) else ordN W n
theorem ordN_eq (n : Nat) : ordN W n = (srt W n).filter (pf W) := by
  induction n with
  | zero => rfl
  | succ n ih =>
    show (if pf W n = true then ins W n (ordN W n) else ordN W n) = (ins W n (srt W n)).filter (pf W)
    rw [flt_ins (srt_srt n), ih]
theorem srt_len (n : Nat) : (srt W n).length = n := by
  have h : ∀ t l, (ins W t l).length = l.length + 1 := by
    intro t l
    induction l with
    | nil => rfl
    | cons u r ih => unfold ins; split <;> simp [ih]
  induction n with
  | zero => rfl
  | succ n ih => show (ins W n (srt W n)).length = _; rw [h, ih]
theorem FW_mem {t : Nat} (h : t ∈ FW W) : t < xn W := by
  unfold FW at h
  exact mem_srt.mp (List.mem_filter.mp h).1
theorem FW_len : (FW W).length ≤ xn W := by
  have h1 := List.length_filter_le (pf W) (srt W (xn W))
  rw [srt_len] at h1
  exact h1
theorem FW_at {i : Nat} (hi : i < (FW W).length) : ∃ t, (FW W)[i]? = some t ∧ t < xn W ∧ (srt W (xn W))[i]? = some t := by
  obtain ⟨t, ht⟩ : ∃ t, (FW W)[i]? = some t := ⟨(FW W)[i], List.getElem?_eq_getElem hi⟩
  refine ⟨t, ht, FW_mem (List.mem_of_getElem? ht), ?_⟩
  have e : FW W = (srt W (xn W)).take (FW W).length := flt_take (srt_srt _)
  rw [e, List.getElem?_take, if_pos hi] at ht
  exact ht
/-- how many are in force, counted -/
theorem flt_cnt (n : Nat) : ((srt W n).filter (pf W)).length = cntF (pf W) n := by
  have h : ∀ t l, ((ins W t l).filter (pf W)).length = (l.filter (pf W)).length + (if pf W t = true then 1 else 0) := by
    intro t l
    induction l with
    | nil =>
      unfold ins
      by_cases q : pf W t = true
      · rw [List.filter_cons_of_pos q, if_pos q]; rfl
      · rw [List.filter_cons_of_neg q, if_neg q]; rfl
    | cons u r ih =>
      unfold ins
      split
      · by_cases q : pf W t = true
        · rw [List.filter_cons_of_pos q, if_pos q]; rfl
        · rw [List.filter_cons_of_neg q, if_neg q]; rfl
      · by_cases q : pf W u = true
        · rw [List.filter_cons_of_pos q, List.filter_cons_of_pos q, List.length_cons, List.length_cons, ih]; omega
        · rw [List.filter_cons_of_neg q, List.filter_cons_of_neg q, ih]
  induction n with
  | zero => rfl
  | succ n ih => show ((ins W n (srt W n)).filter (pf W)).length = _; rw [h, ih]; rfl
end OrderP
section OrderB
variable {S : sT} {d c : Nat} {k : Value} {E : List dsc} {A : fA} {L : fL} {T : fT} {W : fW}
theorem c_inF (hX : LkX k E A (A 5) (T 6) (A 7) (A 8) W) (hp : W 2650 = nI (xn W) ∧ xn W ≤ 12) : ex S (d + 1) 86 [.ref 5, .int (W 0)] (Hh k E A L T) = some (.inl (some (.int (nI (FW W).length))), Hh k E A L T) := by
  obtain ⟨p1, p2⟩ := hp
  obtain ⟨x1, x2, x3, x4⟩ := hX
  rw [x_X9_inForce, g_X9_inForce_0]
  have e0 : (FW W).length = cntF (pf W) (xn W) := flt_cnt _
  rw [e0]
  refine loop_Q (α := Unit) (F := fun m i _ => bd S (ex S d) dflT E_X9_inForce m 4 [some (.ref 5), some (.int (W 0)), some (.int (nI (cntF (pf W) i))), some (.int (nI i))] [] (Hh k E A L T)) (N := xn W) (P := fun _ _ => True) (Q := fun r => r = some (.inl (some (.int (nI (cntF (pf W) (xn W))))), Hh k E A L T)) ?_ ?_ (s := ()) trivial (by omega)
  · intro n i _ hi _
    right
    have g0 : ¬ nI (xn W) ≤ nI i := nI_ge hi (by omega)
    have e : cntF (pf W) (i + 1) = cntF (pf W) i + (if pf W i = true then 1 else 0) := rfl
    simp -implicitDefEqProofs only [g_X9_inForce_4, hg_5_0, x1, p1, if_neg g0, hv_5_2, an_7 (show i < 12 by omega), (x3 i hi).1, nI_p1, e]
    by_cases q : W 0 < W (tx i)
    · have e1 : ¬ pf W i = true := by unfold pf; simp [q]
      rw [if_pos q, if_neg e1]
      exact ⟨(), rfl, trivial⟩
    · have e1 : pf W i = true := by unfold pf; simp [q]
      rw [if_neg q, if_pos e1]
      exact ⟨(), rfl, trivial⟩
  · intro n _ _
    rw [g_X9_inForce_4]
    simp -implicitDefEqProofs only [hg_5_0, x1, p1]
    rw [if_pos (Int32.le_refl _)]
theorem c_tAt {i t : Nat} (hX : LkX k E A (A 5) (T 6) (A 7) (A 8) W) (hp : W 2650 = nI (xn W) ∧ xn W ≤ 12) (h : (FW W)[i]? = some t) : ex S (d + 1) 87 [.ref 5, .int (nI i)] (Hh k E A L T) = some (.inl (some (.int (nI t))), Hh k E A L T) := by
  obtain ⟨p1, p2⟩ := hp
  obtain ⟨x1, x2, x3, x4⟩ := hX
  have hi : i < (FW W).length := (List.getElem?_eq_some_iff.mp h).1
  have hl := FW_len (W := W)
  obtain ⟨t', e1, e2, e3⟩ := FW_at hi
  rw [h] at e1; cases e1
  obtain ⟨u, f1, f2⟩ := x4 i (by omega)
  rw [e3] at f1; cases f1
  have g0 : ¬ nI i < 0 := nI_pos (by omega)
  have g1 : ¬ nI (xn W) ≤ nI i := nI_ge (by omega) (by omega)
  simp -implicitDefEqProofs only [x_X9_textAt, g_X9_textAt_0, if_neg g0, hg_5_0, x1, p1, if_neg g1, hv_5_3, an_8 (show i < 12 by omega), f2]
/-- a list lies in the reference's row -/
def Ob (B : fA) (l : List Nat) : Prop := ∀ i t, l[i]? = some t → B 46 i = nI t
theorem r_orders (hp : A 40 2650 = nI (xn (A 40)) ∧ xn (A 40) ≤ 12) : ∃ B, ex S (d + 2) 140 [.ref 39] (Hh k E A L T) = some (.inl none, Hh k E B L T) ∧ Ob B (FW (A 40)) ∧ B 39 = upd (A 39) 16 (nI (FW (A 40)).length) ∧ ∀ r, r ≠ 39 → r ≠ 46 → B r = A r := by
  obtain ⟨p1, p2⟩ := hp
  rw [x_X12_orders, g_X12_orders_0, hp_39_16]
  have key : ∀ n, n ≤ xn (A 40) → (ordN (A 40) n).length ≤ n ∧ ∀ u, u ∈ ordN (A 40) n → u < n := by
    intro n hn
    rw [ordN_eq]
    refine ⟨?_, fun u hu => mem_srt.mp (List.mem_filter.mp hu).1⟩
    have := List.length_filter_le (pf (A 40)) (srt (A 40) n)
    rw [srt_len] at this
    exact this
  refine loop_QK (K := 20) (α := fA × Option Value) (F := fun m n s => bd S (ex S (d + 1)) dflT E_X12_orders m 7 [some (.ref 39), some (.int (nI n)), s.2] [] (Hh k E s.1 L T)) (N := xn (A 40)) (P := fun n s => Ob s.1 (ordN (A 40) n) ∧ s.1 39 = upd (A 39) 16 (nI (ordN (A 40) n).length) ∧ ∀ r, r ≠ 39 → r ≠ 46 → s.1 r = A r) (Q := fun r => ∃ B, r = some (.inl none, Hh k E B L T) ∧ Ob B (FW (A 40)) ∧ B 39 = upd (A 39) 16 (nI (FW (A 40)).length) ∧ ∀ r, r ≠ 39 → r ≠ 46 → B r = A r) ?_ ?_ (s := (up A 39 16 0, none)) ⟨fun i t h => by simp [ordN] at h, by show up A 39 16 0 39 = _; rw [up_eq]; rfl, fun r h1 h2 => up_ne h1⟩ (by omega)
  · rintro m n ⟨B, o⟩ hn ⟨h1, h2, h3⟩
    right
    simp only at h1 h2 h3
    have e40 : B 40 = A 40 := h3 40 (by decide) (by decide)
    have b16 : B 39 16 = nI (ordN (A 40) n).length := by rw [h2, upd_s]
    have g0 : ¬ nI (xn (A 40)) ≤ nI n := nI_ge hn (by omega)
    have hs : B 40 0 = A 40 0 := by rw [e40]
    have hO : ordN (A 40) (n + 1) = if pf (A 40) n = true then ins (A 40) n (ordN (A 40) n) else ordN (A 40) n := rfl
    rw [show m + 20 = (m + 19) + 1 from rfl, g_X12_orders_7]
    simp -implicitDefEqProofs only [hv_39_1, aw_40_2650, e40, p1, if_neg g0, r_tat, q_I, an_40 (show tx n < 35877 by unfold tx; omega), hc_39, r_season]
    by_cases q : A 40 (tx n) ≤ A 40 0
    · have pn : pf (A 40) n = true := by unfold pf; simp [Int32.not_lt.mpr q]
      rw [if_pos q, hg_39_16, b16]
      rw [if_pos pn] at hO
      obtain ⟨k1, k2⟩ := key n (by omega)
      -- the place is looked for from behind
      have sl : SrtL (A 40) (ordN (A 40) n) := by
        rw [ordN_eq]
        have : (srt (A 40) n).filter (pf (A 40)) = (srt (A 40) n).take ((srt (A 40) n).filter (pf (A 40))).length := flt_take (srt_srt _)
        rw [this]
        have h9 := srt_srt (W := A 40) n
        rw [← List.take_append_drop ((srt (A 40) n).filter (pf (A 40))).length (srt (A 40) n)] at h9
        exact srt_pre h9
      generalize hl : ordN (A 40) n = l at *
      have inner : ∀ (m : Nat) (r suf : List Nat) (C : fA) (g : Nat), r.length = m → l = r ++ suf → m + 1 ≤ g → (∀ u, u ∈ suf → A 40 (tx n) < A 40 (tx u)) → (∀ i t, r[i]? = some t → C 46 i = nI t) → (∀ i t, suf[i]? = some t → C 46 (m + 1 + i) = nI t) → C 39 = B 39 → (∀ z, z ≠ 39 → z ≠ 46 → C z = A z) →
          ∃ C' g' o', g ≤ g' + m + 1 ∧ bd S (ex S (d + 1)) dflT E_X12_orders g 43 [some (.ref 39), some (.int (nI n)), some (.int (nI m))] [] (Hh k E C L T) = bd S (ex S (d + 1)) dflT E_X12_orders g' 7 [some (.ref 39), some (.int (nI (n + 1))), o'] [] (Hh k E C' L T) ∧ Ob C' (ins (A 40) n l) ∧ C' 39 = upd (A 39) 16 (nI (l.length + 1)) ∧ ∀ z, z ≠ 39 → z ≠ 46 → C' z = A z := by
        intro m
        have put : ∀ (r suf : List Nat) (C : fA), l = r ++ suf → (∀ u, u ∈ r → ¬ A 40 (tx n) < A 40 (tx u)) → (∀ u, u ∈ suf → A 40 (tx n) < A 40 (tx u)) → (∀ i t, r[i]? = some t → C 46 i = nI t) → (∀ i t, suf[i]? = some t → C 46 (r.length + 1 + i) = nI t) → C 39 = B 39 → (∀ z, z ≠ 39 → z ≠ 46 → C z = A z) → Ob (up (up C 46 r.length (nI n)) 39 16 (nI (l.length + 1))) (ins (A 40) n l) ∧ up (up C 46 r.length (nI n)) 39 16 (nI (l.length + 1)) 39 = upd (A 39) 16 (nI (l.length + 1)) ∧ ∀ z, z ≠ 39 → z ≠ 46 → up (up C 46 r.length (nI n)) 39 16 (nI (l.length + 1)) z = A z := by
          intro r suf C hls hr hsuf h46 h46' h39 hz
          refine ⟨?_, ?_, fun z z1 z2 => by rw [up_ne z1, up_ne z2]; exact hz z z1 z2⟩
          · rw [hls, ins_mid hr hsuf]
            intro i t ht
            rw [up_ne (by decide)]
            by_cases c1 : i < r.length
            · rw [List.getElem?_append_left c1] at ht
              rw [up_rr (by omega)]; exact h46 i t ht
            · rw [List.getElem?_append_right (by omega)] at ht
              by_cases c2 : i = r.length
              · subst c2
                rw [Nat.sub_self, List.getElem?_cons_zero] at ht
                cases ht; exact up_ii
              · obtain ⟨j, hj⟩ : ∃ j, i - r.length = j + 1 := ⟨i - r.length - 1, by omega⟩
                rw [hj, List.getElem?_cons_succ] at ht
                rw [up_rr c2, show i = r.length + 1 + j by omega]
                exact h46' j t ht
          · rw [up_eq, up_ne (by decide), h39, h2, upd_two]
        induction m with
        | zero =>
          intro r suf C g hr hls hg hsuf h46 h46' h39 hz
          obtain ⟨g1, rfl⟩ : ∃ g1, g = g1 + 1 := ⟨g - 1, by omega⟩
          have hr0 : r = [] := List.eq_nil_of_length_eq_zero hr
          subst hr0
          have c16 : up C 46 0 (nI n) 39 16 = nI l.length := by rw [up_ne (by decide), h39]; exact b16
          have hpt := put [] suf C hls (fun u hu => by cases hu) hsuf h46 h46' h39 hz
          refine ⟨up (up C 46 0 (nI n)) 39 16 (nI (l.length + 1)), g1, some (.int (nI 0)), by omega, ?_, hpt⟩
          rw [g_X12_orders_43, if_pos (by decide)]
          simp -implicitDefEqProofs only [hv_39_15, sn_46 (show 0 < 12 by decide), hg_39_16, c16, nI_p1, hp_39_16]
        | succ m ih =>
          intro r suf C g hr hls hg hsuf h46 h46' h39 hz
          obtain ⟨g1, rfl⟩ : ∃ g1, g = g1 + 1 := ⟨g - 1, by omega⟩
          obtain ⟨r', x, rfl⟩ : ∃ r' x, r = r' ++ [x] := by
            cases hh : r.reverse with
            | nil => rw [List.reverse_eq_nil_iff] at hh; subst hh; cases hr
            | cons x q => exact ⟨q.reverse, x, by rw [← List.reverse_reverse r, hh]; simp⟩
          have hr' : r'.length = m := by simpa using hr
          have hm12 : m + 1 < 12 := by
            have : l.length = r'.length + 1 + suf.length := by rw [hls]; simp; omega
            omega
          have hx : C 46 m = nI x := h46 m x (by rw [← hr']; simp)
          have hxl : x < n := k2 x (by rw [hls]; simp)
          have c40 : C 40 = A 40 := hz 40 (by decide) (by decide)
          have g0 : ¬ nI (m + 1) ≤ 0 := nI_nle (by omega) (by omega)
          rw [g_X12_orders_43, if_neg g0]
          simp -implicitDefEqProofs only [hv_39_1, hv_39_15, nI_pred, an_46 (show m < 12 by omega), hx, r_tat, q_I, an_40 (show tx x < 35877 by unfold tx; omega), an_40 (show tx n < 35877 by unfold tx; omega), c40]
          by_cases q : A 40 (tx x) ≤ A 40 (tx n)
          · have c16 : up C 46 (m + 1) (nI n) 39 16 = nI l.length := by rw [up_ne (by decide), h39]; exact b16
            have hpt := put (r' ++ [x]) suf C hls (fun u hu => by
              rw [List.mem_append, List.mem_singleton] at hu
              rcases hu with hu | rfl
              · have h9 := srt_last (srt_pre (hls ▸ sl)) u hu
                rw [Int32.lt_iff_toInt_lt] at *
                rw [Int32.le_iff_toInt_le] at q
                omega
              · exact Int32.not_lt.mpr q) hsuf h46 (by rw [hr]; exact h46') h39 hz
            rw [hr] at hpt
            refine ⟨up (up C 46 (m + 1) (nI n)) 39 16 (nI (l.length + 1)), g1, some (.int (nI (m + 1))), by omega, ?_, hpt⟩
            rw [if_pos q]
            simp -implicitDefEqProofs only [sn_46 hm12, hg_39_16, c16, nI_p1, hp_39_16]
          · rw [if_neg q]
            simp -implicitDefEqProofs only [sn_46 hm12, pk_m1]
            obtain ⟨C', g', o', e1, e2, e3⟩ := ih r' (x :: suf) (up C 46 (m + 1) (nI x)) g1 hr' (by rw [hls]; simp) (by omega) (fun u hu => by
              rw [List.mem_cons] at hu
              rcases hu with rfl | hu
              · exact Int32.not_le.mp q
              · exact hsuf u hu) (fun i t ht => by
              have hi : i < r'.length := (List.getElem?_eq_some_iff.mp ht).1
              rw [up_rr (by omega)]; exact h46 i t (by rw [List.getElem?_append_left hi]; exact ht)) (fun i t ht => by
              cases i with
              | zero => rw [List.getElem?_cons_zero] at ht; cases ht; exact up_ii
              | succ i => rw [List.getElem?_cons_succ] at ht; rw [up_rr (by omega), show m + 1 + (i + 1) = m + 1 + 1 + i by omega]; exact h46' i t ht) (by rw [up_ne (by decide)]; exact h39) (fun z z1 z2 => by rw [up_ne z2]; exact hz z z1 z2)
            exact ⟨C', g', o', by omega, e2, e3⟩
      obtain ⟨C', g', o', e1, e2, e3, e4, e5⟩ := inner l.length l [] B (m + 19) rfl (by simp) (by omega) (fun u hu => by cases hu) h1 (fun i t ht => by simp at ht) rfl h3
      refine ⟨(C', o'), g', by omega, e2, ?_⟩
      rw [hO]
      refine ⟨e3, ?_, e5⟩
      show C' 39 = _
      rw [e4]
      have : (ins (A 40) n l).length = l.length + 1 := by
        have h : ∀ t l, (ins (A 40) t l).length = l.length + 1 := by
          intro t l
          induction l with
          | nil => rfl
          | cons u r ih => unfold ins; split <;> simp [ih]
        exact h n l
      rw [this]
    · have pn : ¬ pf (A 40) n = true := by unfold pf; simp [Int32.not_le.mp q]
      rw [if_neg q]
      rw [if_neg pn] at hO
      refine ⟨(B, o), m + 19, by omega, by rw [nI_p1], ?_⟩
      rw [hO]; exact ⟨h1, h2, h3⟩
  · rintro m ⟨B, o⟩ ⟨h1, h2, h3⟩
    simp only at h1 h2 h3
    have e40 : B 40 = A 40 := h3 40 (by decide) (by decide)
    rw [show m + 20 = (m + 19) + 1 from rfl, g_X12_orders_7]
    simp -implicitDefEqProofs only [hv_39_1, aw_40_2650, e40, p1, if_pos (Int32.le_refl (nI (xn (A 40))))]
    rw [ordN_eq] at h1 h2
    exact ⟨B, rfl, h1, h2, h3⟩
end OrderB
