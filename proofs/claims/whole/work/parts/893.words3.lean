/-! words: a text is added -/
section WordsC
variable {S : sT} {d c : Nat} {k : Value} {E F : List dsc} {A A2 : fA} {L : fL} {T : fT} {W : fW}
theorem M_words {n a b p : Nat} {s : Int32} {acc : List LN} {cs : Cs} (hM : RelM c k E A T) (hn : xn (A 40) = n) (h12 : n < 12) (hs : rg s 0 400) (hF1 : F.length = 2) (hF2 : esz F ≤ 498)
    (hr : ∀ r, r < 49 + E.length → r ≠ 1 → r ≠ 3 → r ≠ 5 → r ≠ 7 → r ≠ 8 → r ≠ 39 → r ≠ 40 → A2 r = A r) (h39 : A2 39 3 = A 39 3)
    (h5 : A2 5 0 = nI (n + 1)) (h7 : A2 7 = upd (A 7) n s) (hp : p ≤ n) (h81 : ∀ i, i < p → A2 8 i = A 8 i) (h82 : A2 8 p = nI n) (h83 : ∀ i, p ≤ i → i < n → A2 8 (i + 1) = A 8 i) (h84 : ∀ i u, p ≤ i → (srt (A 40) n)[i]? = some u → s < A 7 u) (h85 : ∀ u, 0 < p → (srt (A 40) n)[p - 1]? = some u → ¬ s < A 7 u)
    (w1 : ∀ i, i < 34979 → i ≠ 2650 → (i < tx n ∨ tx n + 898 ≤ i) → A2 40 i = A 40 i) (w2 : A2 40 2650 = nI (n + 1)) (w3 : A2 40 (tx n) = s) (w4 : WL (A2 40) (tx n) acc cs)
    (ha : 49 + E.length ≤ a) (hb : 49 + E.length ≤ b) (d1 : (D0 k ++ (E ++ F))[a]? = some (.inr (11, [none, some (.ref b)]))) (d2 : (D0 k ++ (E ++ F))[b]? = some (.inl (0, 6 * acc.length + cs.length))) (t1 : A2 a 0 = nI acc.length) (t2 : CT (A2 b) acc cs)
    (h16 : acc.length ≤ 16) (h4 : cs.length ≤ 400) (hA : ∀ i, i < acc.length → LnOk false cs (acc.getD i ln0)) : RelM (c + 1) k (E ++ F) A2 (upT T 6 n (some a)) := by
  obtain ⟨m1, m2, m3, m4, m5, m6, m7⟩ := hM
  obtain ⟨i0, i1, i2, i3, i4, i5, i6, i7, i8, i9, i10⟩ := id m1
  have e1 : ∀ i, (i < 2650 ∨ 13427 ≤ i ∧ i < 34979) → A2 40 i = A 40 i := fun i hi => w1 i (by omega) (by omega) (by unfold tx; omega)
  have xn2 : xn (A2 40) = n + 1 := by unfold xn; rw [w2]; exact nI_clamp (by omega)
  have et : ∀ t, t < n → ∀ j, tx t ≤ j → j < tx t + 898 → A2 40 j = A 40 j := fun t ht j j1 j2 => by unfold tx at j1 j2; exact w1 j (by omega) (by omega) (by unfold tx; omega)
  have hX : IvXs (A2 40) := by
    unfold IvXs
    rw [xn2]
    refine ⟨w2, by omega, fun t ht => ?_⟩
    by_cases q : t = n
    · subst q
      rw [w3]
      refine ⟨hs, acc.length, cs.length, WL_WT w4 h16 h4 hA, fun i hi => ?_⟩
      obtain ⟨q', f0, -⟩ := w4.2.1 i hi
      obtain ⟨v1, v2, -⟩ := hA i hi
      rw [f0]
      have v1' : 17 ≤ (acc.getD i ln0).1 := v1
      have v2' : (acc.getD i ln0).1 ≤ 23 := v2
      unfold sN rg
      rw [if_neg (by omega), nI_toInt (by omega)]
      omega
    · have ht' : t < n := by omega
      obtain ⟨q1, nl, nc, q2, q3⟩ := i10.2.2 t (by omega)
      rw [et t ht' _ (Nat.le_refl _) (by omega)]
      have nl16 := q2.2.1
      refine ⟨q1, nl, nc, WT_c (fun i j1 j2 => et t ht' i (by omega) j2) q2, fun i hi => ?_⟩
      rw [et t ht' _ (by omega) (by omega)]
      exact q3 i hi
  have hI2 : Iv (c + 1) (A2 40) := ⟨Iv0_c (e1 0 (by omega)) i0, IvF_c (fun i hi => e1 i (by omega)) i4.2.1 i1, IvRn_c (fun i h1 h2 => e1 i (by omega)) i2, IvPr_c (by rw [e1 0 (by omega)]; exact Int32.lt_irrefl) (fun i h1 h2 => e1 i (by omega)) i3, IvHs_c (fun i hi => e1 i (by omega)) i4, IvGs_c (fun i h1 h2 => e1 i (by omega)) i5, IvLn_c (fun i h1 h2 => e1 i (by omega)) i6, IvJb_c (fun i h1 h2 => e1 i (by omega)) i7, IvTb_c (fun i h1 h2 => e1 i (by omega)) i8, IvRw_c (e1 _ (by omega)) i9, hX⟩
  obtain ⟨l0, l1, l2, l3, l4, l5, l6, l7⟩ := m2
  have rr : ∀ r, r < 39 → r ≠ 1 → r ≠ 3 → r ≠ 5 → r ≠ 7 → r ≠ 8 → A2 r = A r := fun r h0 a1 a2 a3 a4 a5 => hr r (by omega) a1 a2 a3 a4 a5 (by omega) (by omega)
  have ro : ∀ r, outK k r → r < 49 + E.length → A2 r = A r := fun r h0 h1 => by have := h0.1; exact hr r h1 (by omega) (by omega) (by omega) (by omega) (by omega) (by omega) (by omega)
  refine ⟨hI2, ?_, ?_, ?_, KP_g (KP_c (Nat.le_succ c) m5) h39 (hr 41 (by omega) (by decide) (by decide) (by decide) (by decide) (by decide) (by decide) (by decide)) (fun r h1 h2 => hr r h2 (by omega) (by omega) (by omega) (by omega) (by omega) (by omega) (by omega)) (fun r h1 => upT_ne (by omega)), by rw [List.length_append]; omega, by rw [esz_app]; omega⟩
  · unfold LkA
    rw [show A2 4 = A 4 from rr 4 (by decide) (by decide) (by decide) (by decide) (by decide) (by decide), rr (4 + 6) (by decide) (by decide) (by decide) (by decide) (by decide) (by decide), rr (4 + 12) (by decide) (by decide) (by decide) (by decide) (by decide) (by decide), rr (4 + 13) (by decide) (by decide) (by decide) (by decide) (by decide) (by decide), rr (4 + 14) (by decide) (by decide) (by decide) (by decide) (by decide) (by decide), rr (4 + 15) (by decide) (by decide) (by decide) (by decide) (by decide) (by decide), rr (4 + 16) (by decide) (by decide) (by decide) (by decide) (by decide) (by decide), rr (4 + 17) (by decide) (by decide) (by decide) (by decide) (by decide) (by decide), rr (4 + 18) (by decide) (by decide) (by decide) (by decide) (by decide) (by decide), rr (4 + 19) (by decide) (by decide) (by decide) (by decide) (by decide) (by decide), rr (4 + 20) (by decide) (by decide) (by decide) (by decide) (by decide) (by decide), rr (4 + 21) (by decide) (by decide) (by decide) (by decide) (by decide) (by decide), rr (4 + 22) (by decide) (by decide) (by decide) (by decide) (by decide) (by decide), rr (4 + 23) (by decide) (by decide) (by decide) (by decide) (by decide) (by decide), rr (4 + 24) (by decide) (by decide) (by decide) (by decide) (by decide) (by decide), rr (4 + 25) (by decide) (by decide) (by decide) (by decide) (by decide) (by decide), rr (4 + 26) (by decide) (by decide) (by decide) (by decide) (by decide) (by decide), rr (4 + 27) (by decide) (by decide) (by decide) (by decide) (by decide) (by decide), rr (4 + 28) (by decide) (by decide) (by decide) (by decide) (by decide) (by decide), rr (4 + 29) (by decide) (by decide) (by decide) (by decide) (by decide) (by decide), rr (4 + 30) (by decide) (by decide) (by decide) (by decide) (by decide) (by decide), rr (4 + 31) (by decide) (by decide) (by decide) (by decide) (by decide) (by decide), rr (4 + 7) (by decide) (by decide) (by decide) (by decide) (by decide) (by decide), rr (4 + 8) (by decide) (by decide) (by decide) (by decide) (by decide) (by decide), show upT T 6 n (some a) (4 + 9) = T (4 + 9) from upT_ne (by decide)]
    refine ⟨l0.trans (e1 0 (by omega)).symm, LkL_c (fun i h1 h2 => e1 i (by omega)) l1, LkM_c i3.2.1 (fun i h1 h2 => e1 i (by omega)) l2, LkG_c (fun i hi => e1 i (by omega)) l3, LkP_c (fun i h1 h2 => e1 i (by omega)) l4, LkR_c (fun i h1 h2 => e1 i (by omega)) l5, LkH_g ro (LkH_c i4.2.1 (fun i hi => e1 i (by omega)) l6), ?_⟩
    obtain ⟨x1, x2, x3, x4⟩ := l7
    rw [hn] at x3 x4
    have hT6 : ∀ t, t ≠ n → upT T 6 n (some a) (4 + 2) t = T 6 t := fun t ht => by simp [upT, ht]
    have hTn : upT T 6 n (some a) (4 + 2) n = some a := by simp [upT]
    have h7' : A2 (4 + 3) = upd (A 7) n s := h7
    refine ⟨h5.trans w2.symm, fun t ht => ?_, fun t ht => ?_, ?_⟩
    · by_cases q : t = n
      · subst q; rw [hTn]; exact Or.inr ⟨a, b, rfl, d1⟩
      · rw [hT6 t q]; exact TS_g (x2 t ht)
    · rw [xn2] at ht
      by_cases q : t = n
      · subst q
        rw [h7', upd_s, hTn, w3]
        exact ⟨rfl, a, rfl, TR_mk (out_new m5 ha) (out_new m5 hb) d1 d2 t1 t2 w4 h16 h4 hA⟩
      · have ht' : t < n := by omega
        obtain ⟨e0, a', e2, tr'⟩ := x3 t ht'
        rw [h7', upd_o q, hT6 t q, et t ht' _ (Nat.le_refl _) (by omega)]
        exact ⟨e0, a', e2, TR_g ro (TR_c (fun i j1 j2 => et t ht' i (by omega) j2) tr')⟩
    · have es : srt (A2 40) n = srt (A 40) n := srt_c (fun t ht => et t ht _ (Nat.le_refl _) (by omega))
      have hlen := srt_len (W := A 40) n
      have sn7 : ∀ u, u < n → A 7 u = A 40 (tx u) := fun u hu => (x3 u hu).1
      have key : srt (A2 40) (n + 1) = (srt (A 40) n).take p ++ n :: (srt (A 40) n).drop p := by
        show ins (A2 40) n (srt (A2 40) n) = _
        rw [es]
        have := ins_mid (W := A2 40) (t := n) (r := (srt (A 40) n).take p) (suf := (srt (A 40) n).drop p) ?_ ?_
        · rw [List.take_append_drop] at this; exact this
        · intro u hu
          have hu' : u < n := mem_srt.mp (List.mem_of_mem_take hu)
          rw [w3, et u hu' _ (Nat.le_refl _) (by omega)]
          obtain ⟨i, hi, ei⟩ := List.getElem_of_mem hu
          rw [List.length_take] at hi
          have hp0 : 0 < p := by omega
          obtain ⟨q, rfl⟩ : ∃ q, p = q + 1 := ⟨p - 1, by omega⟩
          have hq : q < (srt (A 40) n).length := by omega
          have lastE : (srt (A 40) n)[q + 1 - 1]? = some ((srt (A 40) n)[q]) := List.getElem?_eq_getElem hq
          have hlast := h85 _ (by omega) lastE
          have ln' : (srt (A 40) n)[q] < n := mem_srt.mp (List.getElem_mem hq)
          rw [sn7 _ ln'] at hlast
          have tk : (srt (A 40) n).take (q + 1) = (srt (A 40) n).take q ++ [(srt (A 40) n)[q]] := List.take_succ_eq_append_getElem hq
          have sl : SrtL (A 40) ((srt (A 40) n).take q ++ [(srt (A 40) n)[q]]) := by
            rw [← tk]
            exact srt_pre (suf := (srt (A 40) n).drop (q + 1)) (by rw [List.take_append_drop]; exact srt_srt n)
          rw [tk] at hu
          rcases List.mem_append.mp hu with hu1 | hu1
          · have := srt_last sl u hu1
            intro z
            rw [Int32.lt_iff_toInt_lt] at this hlast z
            omega
          · have : u = (srt (A 40) n)[q] := by simpa using hu1
            rw [this]; exact hlast
        · intro u hu
          have hu' : u < n := mem_srt.mp (List.mem_of_mem_drop hu)
          rw [w3, et u hu' _ (Nat.le_refl _) (by omega)]
          obtain ⟨i, hi, ei⟩ := List.getElem_of_mem hu
          rw [List.getElem_drop] at ei
          have := h84 (p + i) u (by omega) (by rw [← ei]; exact List.getElem?_eq_getElem _)
          rw [sn7 u hu'] at this
          exact this
      rw [xn2]
      intro i hi
      rw [key]
      have lt : ((srt (A 40) n).take p).length = p := by rw [List.length_take]; omega
      by_cases q1 : i < p
      · obtain ⟨t, y1, y2⟩ := x4 i (by omega)
        refine ⟨t, ?_, ?_⟩
        · rw [List.getElem?_append_left (by omega), List.getElem?_take_of_lt q1]; exact y1
        · show A2 8 i = nI t
          rw [h81 i q1]; exact y2
      · by_cases q2 : i = p
        · subst q2
          refine ⟨n, ?_, h82⟩
          rw [List.getElem?_append_right (by omega), lt, Nat.sub_self]; rfl
        · obtain ⟨j, rfl⟩ : ∃ j, i = j + 1 := ⟨i - 1, by omega⟩
          obtain ⟨t, y1, y2⟩ := x4 j (by omega)
          refine ⟨t, ?_, ?_⟩
          · rw [List.getElem?_append_right (by omega), lt, show j + 1 - p = (j - p) + 1 by omega, List.getElem?_cons_succ, List.getElem?_drop, show p + (j - p) = j by omega]; exact y1
          · show A2 8 (j + 1) = nI t
            rw [h83 j (by omega) (by omega)]; exact y2
  · rw [hr 2 (by omega) (by decide) (by decide) (by decide) (by decide) (by decide) (by decide) (by decide), hr 42 (by omega) (by decide) (by decide) (by decide) (by decide) (by decide) (by decide) (by decide)]; exact m3
  · rw [hr 36 (by omega) (by decide) (by decide) (by decide) (by decide) (by decide) (by decide) (by decide)]; exact m4
end WordsC
