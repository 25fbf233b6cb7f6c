/-! let: a farm or a yearly is begun, its lease is the text that was read -/
section LetB
variable {S : sT} {d c : Nat} {k : Value} {E F : List dsc} {A A0 A1 A2 : fA} {L : fL} {T : fT} {W U D V : fW}
def tiW (U D : fW) (t : Nat) : fW := fun i => if tx t ≤ i ∧ i < tx t + 898 then D (34979 + (i - tx t)) else U i
def lsW (U : fW) (a b kd x l : Int32) : fW := upd (upd (begW U a b kd) (1684 + 11 * hn U + 1) x) (1684 + 11 * hn U + 4) l
theorem ti_o {t i : Nat} (h : i < tx t ∨ tx t + 898 ≤ i) : tiW U D t i = U i := by unfold tiW; rw [if_neg (by omega)]
theorem ti_lo {t i : Nat} (ht : 12 ≤ t) (h : i < 13427) : tiW U D t i = U i := ti_o (by unfold tx; omega)
theorem ti_hn {t : Nat} (ht : 12 ≤ t) : hn (tiW U D t) = hn U := hn_c (ti_lo ht (by decide))
theorem IvH_t {g : Nat} (hg : g < 24) (e : ∀ i, i < 13427 → V i = W i) (et : ∀ i, tx (12 + g) < i → i < tx (12 + g) + 898 → V i = W i) (q : IvH W g) : IvH V g := by
  unfold IvH at q ⊢
  rw [fo_congr (W := W) (W' := V) (fun f hf => e _ (by omega)) g, e (1684 + 11 * g + 0) (by omega), e (1684 + 11 * g + 1) (by omega), e (1684 + 11 * g + 2) (by omega), e (1684 + 11 * g + 3) (by omega), e (1684 + 11 * g + 5) (by omega), e (1684 + 11 * g + 6) (by omega), e (1684 + 11 * g + 8) (by omega), e (1684 + 11 * g + 9) (by omega), e (1684 + 11 * g + 10) (by omega)]
  obtain ⟨a0, a1, a2, a3, a4, a5, a6, a7, a8, a9, a10⟩ := q
  refine ⟨a0, a1, a2, a3, a4, a5, a6, a7, a8, a9, fun z => ?_⟩
  obtain ⟨nl, nc, t⟩ := a10 z
  exact ⟨nl, nc, WT_c et t⟩
theorem jTi (hI : Iv c U) (h24 : hn U < 24) : Iv c (tiW U D (12 + hn U)) := by
  obtain ⟨i0, i1, i2, i3, i4, i5, i6, i7, i8, i9, i10⟩ := hI
  have e : ∀ i, i < 13427 → tiW U D (12 + hn U) i = U i := fun i hi => ti_lo (by omega) hi
  have hH : IvHs (tiW U D (12 + hn U)) := by
    unfold IvHs
    rw [ti_hn (by omega), e 1683 (by omega)]
    refine ⟨i4.1, i4.2.1, fun g hg => IvH_t (by omega) e (fun i j1 j2 => ti_o ?_) (i4.2.2 g hg)⟩
    unfold tx at j2 ⊢; omega
  exact ⟨Iv0_c (e 0 (by omega)) i0, IvF_c (fun i hi => e i (by omega)) i4.2.1 i1, IvRn_c (fun i h1 h2 => e i (by omega)) i2, IvPr_c (by rw [e 0 (by omega)]; exact Int32.lt_irrefl) (fun i h1 h2 => e i (by omega)) i3, hH, IvG_0 (fun i h1 h2 => e i (by omega)) i5, IvLn_c (fun i h1 h2 => e i (by omega)) i6, IvJb_c (fun i h1 h2 => e i (by omega)) i7, IvTb_c (fun i h1 h2 => e i (by omega)) i8, IvRw_c (e _ (by omega)) i9, IvXs_c (fun i h1 h2 => e i (by omega)) i10⟩
theorem frN_c {a b : Int32} (e : ∀ f, f < 48 → V (8 + 14 * f + 10) = W (8 + 14 * f + 10) ∧ V (8 + 14 * f + 11) = W (8 + 14 * f + 11)) (h : frN W a b 48 = true) : frN V a b 48 = true :=
  frN_all.mpr (fun f hf => by have := frN_all.mp h f hf; unfold frF at this ⊢; rw [(e f hf).1, (e f hf).2]; exact this)
theorem WL_ti {acc : List LN} {cs : Cs} {t : Nat} (h16 : acc.length ≤ 16) (h4 : cs.length ≤ 400) (wl : WL D 34979 acc cs) : WL (tiW U D t) (tx t) acc cs :=
  WL_c (fun j j1 j2 => by unfold tiW; rw [if_pos (by omega)]; congr 1; omega) h16 h4 wl
theorem jLs {b : Int32} {f1 : Nat} {kd x l : Int32} {acc : List LN} {cs : Cs} (hI : Iv c U) (h24 : hn U < 24) (hf : frN U (nI f1) b 48 = true) (hf1 : f1 < 48) (hk : kd = 0 ∨ kd = 1) (hx : rg x 0 2000000000) (h16 : acc.length ≤ 16) (h4 : cs.length ≤ 400) (hA : ∀ i, i < acc.length → LnOk true cs (acc.getD i ln0)) (wl : WL D 34979 acc cs) : Iv c (lsW (tiW U D (12 + hn U)) (nI f1) b kd x l) := by
  have h1 := jTi (D := D) hI h24
  have en : hn (tiW U D (12 + hn U)) = hn U := ti_hn (by omega)
  have hf' : frN (tiW U D (12 + hn U)) (nI f1) b 48 = true := frN_c (fun f hf => ⟨ti_lo (by omega) (by omega), ti_lo (by omega) (by omega)⟩) hf
  have hb := jBeg (kd := kd) h1 (by rw [en]; exact h24) hf' ⟨f1, hf1, inW_self _⟩ (by rcases hk with rfl | rfl <;> (unfold rg; decide)) (fun _ => ⟨_, _, by rw [en]; exact WL_WT (WL_ti h16 h4 wl) h16 h4 hA⟩)
  have hh := beg_hn (a := nI f1) (b := b) (kd := kd) (W := tiW U D (12 + hn U)) (by rw [en]; exact h24)
  unfold lsW
  exact jH_4 (jH_1 hb (by rw [hh]; omega) hx) (by rw [hn_c (upd_o (by omega)), hh]; omega) trivial
/-- the class's tie with a new lease -/
theorem k_let {f1 f2 a b : Nat} {kd x l : Int32} {acc : List LN} {cs : Cs} (hI : Iv c U) (h0 : LkA 4 k E A0 T U) (h24 : hn U < 24) (hfr : frN U (nI f1) (nI f2) 48 = true) (hf1 : f1 < 48) (hk : kd = 0 ∨ kd = 1)
    (r10 : LkL (A1 10) (ofN U (nI f1) (nI f2) (hn U) 48)) (r11 : A1 11 0 = nI (hn U + 1)) (r12 : A1 12 = upd (upd (upd (upd (upd (opN (A0 12) (hn U) 13) (0 + hn U) kd) (120 + hn U) (-1)) (24 + hn U) (nI (cntF (fun f => decide (¬ inW (nI f) (nI f1) (nI f2) = 0)) 48))) (48 + hn U) x) (120 + hn U) l)
    (rr : ∀ r, r < 49 + E.length → r ≠ 10 → r ≠ 11 → r ≠ 12 → A1 r = A0 r) (o1 : outK k a) (o2 : outK k b)
    (d1 : (D0 k ++ (E ++ F))[a]? = some (.inr (11, [none, some (.ref b)]))) (d2 : (D0 k ++ (E ++ F))[b]? = some (.inl (0, 6 * acc.length + cs.length))) (t1 : A1 a 0 = nI acc.length) (t2 : CT (A1 b) acc cs)
    (h16 : acc.length ≤ 16) (h4 : cs.length ≤ 400) (hA : ∀ i, i < acc.length → LnOk true cs (acc.getD i ln0)) (wl : WL D 34979 acc cs) : LkA 4 k (E ++ F) A1 (upT T 13 (hn U) (some a)) (lsW (tiW U D (12 + hn U)) (nI f1) (nI f2) kd x l) := by
  have h0' : LkA 4 k (E ++ F) (fun r => if r < 49 + E.length then A0 r else A1 r) T U := LkA_g h0 (fun i hi => if_pos (by omega)) (fun r _ h => if_pos h) rfl rfl
  have en : hn (tiW U D (12 + hn U)) = hn U := ti_hn (by omega)
  have hI1 := jTi (D := D) hI h24
  have hfr1 : frN (tiW U D (12 + hn U)) (nI f1) (nI f2) 48 = true := frN_c (fun f hf => ⟨ti_lo (by omega) (by omega), ti_lo (by omega) (by omega)⟩) hfr
  have hfoS := fo_beg_s (a := nI f1) (b := nI f2) (kd := kd) (W := tiW U D (12 + hn U)) (by rw [en]; exact h24) hI1.2.1
  have hfoO := fun g hg => fo_beg_o (a := nI f1) (b := nI f2) (kd := kd) (W := tiW U D (12 + hn U)) (g := g) (by rw [en]; exact h24) hfr1 hg
  have hbn := beg_n (W := tiW U D (12 + hn U)) (a := nI f1) (b := nI f2) (kd := kd)
  have hbh := fun w hw => beg_h (W := tiW U D (12 + hn U)) (a := nI f1) (b := nI f2) (kd := kd) (w := w) hw
  have hbo := fun i h1 h2 h3 => beg_o (W := tiW U D (12 + hn U)) (a := nI f1) (b := nI f2) (kd := kd) (i := i) h1 h2 h3
  have hba := fun f w hf hw => beg_at (W := tiW U D (12 + hn U)) (a := nI f1) (b := nI f2) (kd := kd) (f := f) (w := w) hf hw
  rw [en] at hfoS hfoO hbn hbh hbo hba
  have hU1 : ∀ i, i < 13427 → tiW U D (12 + hn U) i = U i := fun i hi => ti_lo (by omega) hi
  have hw := WL_ti (U := U) (t := 12 + hn U) h16 h4 wl
  have htx : ∀ g, g < hn U → ∀ i, tx (12 + g) < i → i < tx (12 + g) + 898 → tiW U D (12 + hn U) i = U i := fun g hg i j1 j2 => ti_o (by unfold tx at j2 ⊢; omega)
  have foU : ∀ g, fo (tiW U D (12 + hn U)) g = fo U g := fun g => fo_congr (fun f hf => hU1 _ (by omega)) g
  have lsE : lsW (tiW U D (12 + hn U)) (nI f1) (nI f2) kd x l = upd (upd (begW (tiW U D (12 + hn U)) (nI f1) (nI f2) kd) (1684 + 11 * hn U + 1) x) (1684 + 11 * hn U + 4) l := by unfold lsW; rw [en]
  rw [lsE]
  generalize hV : upd (upd (begW (tiW U D (12 + hn U)) (nI f1) (nI f2) kd) (1684 + 11 * hn U + 1) x) (1684 + 11 * hn U + 4) l = V
  have p1 : ∀ j, j ≠ 1684 + 11 * hn U + 1 → j ≠ 1684 + 11 * hn U + 4 → V j = begW (tiW U D (12 + hn U)) (nI f1) (nI f2) kd j := fun j j1 j2 => by rw [← hV, upd_o j2, upd_o j1]
  have p2 : V (1684 + 11 * hn U + 1) = x := by rw [← hV, upd_o (by omega), upd_s]
  have p3 : V (1684 + 11 * hn U + 4) = l := by rw [← hV, upd_s]
  generalize tiW U D (12 + hn U) = U1 at *
  generalize hH : hn U = h at *
  have pn : V 1683 = nI (h + 1) := by rw [p1 1683 (by omega) (by omega)]; exact hbn
  have pw : ∀ g w, g < h → w < 11 → V (1684 + 11 * g + w) = U (1684 + 11 * g + w) := fun g w hg hw => by
    rw [p1 _ (by omega) (by omega), hbo _ (by omega) (by omega) (by omega), hU1 _ (by omega)]
  have pf : ∀ f, f < 48 → ∀ w, w < 14 → V (8 + 14 * f + w) = if w = 10 ∧ ¬ inW (nI f) (nI f1) (nI f2) = 0 then nI h else U (8 + 14 * f + w) := fun f hf w hw => by
    rw [p1 _ (by omega) (by omega), hba f w hf hw, hU1 _ (by omega)]
  have pfo : ∀ g, fo V g = fo (begW U1 (nI f1) (nI f2) kd) g := fun g => fo_congr (fun f hf => p1 _ (by omega) (by omega)) g
  have pv : ∀ j, (j < 8 ∨ 680 ≤ j) → (j < 1683 ∨ 1948 ≤ j) → V j = U1 j := fun j j1 j2 => by rw [p1 j (by omega) (by omega), hbo j j1 (by omega) (by omega)]
  refine LkA_open (W := U) (A := fun r => if r < 49 + E.length then A0 r else A1 r) (T := T) hI h0' (by omega) (fun j j1 j2 j3 => by rw [pv j j1 j2, hU1 j j3]) ?_ (by rw [hH]; exact pn) (by rw [hH]; exact r11) ?_ (fun r r1 r2 r3 r4 => by show A1 r = if r < 49 + E.length then A0 r else A1 r; rw [if_pos (by omega)]; exact rr r (by omega) r1 r2 r3) (fun r hr => ?_) (upT_ne (by decide)) ?_ ?_
  · intro w f hw hf
    rw [r10 w f hw hf, pf f hf w hw, ofN_at hw]
    by_cases q : w = 10 ∧ ¬ inW (nI f) (nI f1) (nI f2) = 0
    · rw [if_pos q, if_pos ⟨hf, q⟩]
    · rw [if_neg q, if_neg (fun r => q r.2)]
  · intro g hg
    rw [hH] at hg
    rw [r12]
    by_cases q : g = h
    · subst q
      have hpos : 0 < fo V g := by
        rw [pfo, hfoS]
        exact cntF_pos (f := f1) hf1 (by simp [inW_self])
      have v0 : V (1684 + 11 * g + 0) = kd := by rw [p1 _ (by omega) (by omega)]; exact hbh 0 (by decide)
      have vw : ∀ w, w < 9 → w ≠ 0 → w ≠ 1 → w ≠ 4 → V (1684 + 11 * g + w) = 0 := fun w w1 w2 w3 w4 => by
        rw [p1 _ (by omega) (by omega), hbh w (by omega), if_neg w2, if_neg w4]
      have cw : ∀ w, w < 13 → opN (A0 12) g 13 (24 * w + g) = 0 := fun w hw => by unfold opN; rw [if_pos (by omega)]
      unfold LkC
      rw [v0, p2, p3, vw 2 (by decide) (by decide) (by decide) (by decide), vw 3 (by decide) (by decide) (by decide) (by decide), vw 5 (by decide) (by decide) (by decide) (by decide), vw 6 (by decide) (by decide) (by decide) (by decide), vw 7 (by decide) (by decide) (by decide) (by decide), vw 8 (by decide) (by decide) (by decide) (by decide)]
      refine ⟨?_, ?_, ?_, ?_, ?_, ?_, ?_, ?_, ?_, ?_, ?_, fun q => ?_, fun q => ?_⟩
      · rw [upd_o (by omega), upd_o (by omega), upd_o (by omega), upd_o (by omega), upd_s]
      · rw [upd_o (by omega), upd_o (by omega), upd_s, pfo, hfoS]
      · rw [upd_o (by omega), upd_s]
      · rw [upd_o (by omega), upd_o (by omega), upd_o (by omega), upd_o (by omega), upd_o (by omega)]; exact cw 3 (by decide)
      · rw [upd_o (by omega), upd_o (by omega), upd_o (by omega), upd_o (by omega), upd_o (by omega)]; exact cw 4 (by decide)
      · rw [upd_s]
      · rw [upd_o (by omega), upd_o (by omega), upd_o (by omega), upd_o (by omega), upd_o (by omega), if_neg (by omega)]; exact cw 6 (by decide)
      · rw [upd_o (by omega), upd_o (by omega), upd_o (by omega), upd_o (by omega), upd_o (by omega)]; exact cw 7 (by decide)
      · rw [upd_o (by omega), upd_o (by omega), upd_o (by omega), upd_o (by omega), upd_o (by omega)]; exact cw 8 (by decide)
      · rw [upd_o (by omega), upd_o (by omega), upd_o (by omega), upd_o (by omega), upd_o (by omega)]; exact cw 9 (by decide)
      · rw [upd_o (by omega), upd_o (by omega), upd_o (by omega), upd_o (by omega), upd_o (by omega)]; exact cw 10 (by decide)
      · rcases hk with rfl | rfl <;> exact absurd q (by decide)
      · rcases hk with rfl | rfl <;> exact absurd q (by decide)
    · have hg' : g < h := by omega
      refine LkC_old (by omega) (h0.2.2.2.2.2.2.1.2.1 g (by omega)) (fun w hw => ?_) (fun w hw => pw g w hg' hw) ?_
      · rw [upd_o (by omega), upd_o (by omega), upd_o (by omega), upd_o (by omega), upd_o (by omega)]
        unfold opN; rw [if_neg (by omega)]
      · rw [pfo, hfoO g hg', foU]
  · show A1 r = if r < 49 + E.length then A0 r else A1 r
    have := hr.1
    by_cases q : r < 49 + E.length
    · rw [if_pos q]; exact rr r q (by omega) (by omega) (by omega)
    · rw [if_neg q]
  · intro g hg
    by_cases q : g = h
    · subst q
      rw [show upT T 13 g (some a) 13 g = some a by simp [upT]]
      exact Or.inr ⟨a, b, rfl, d1⟩
    · rw [show upT T 13 h (some a) 13 g = T 13 g by simp [upT, q]]
      exact h0'.2.2.2.2.2.2.1.2.2.1 g hg
  · intro g hg hk2
    rw [hH] at hg
    by_cases q : g = h
    · subst q
      refine ⟨a, by simp [upT], TR_mk o1 o2 d1 d2 t1 t2 (WL_c (P := tx (12 + g)) (fun j j1 j2 => ?_) h16 h4 hw) h16 h4 hA⟩
      exact pv _ (by unfold tx; omega) (by unfold tx; omega)
    · have hg' : g < h := by omega
      rw [pw g 0 hg' (by decide)] at hk2
      obtain ⟨a', e1, t⟩ := h0'.2.2.2.2.2.2.1.2.2.2 g (by omega) hk2
      refine ⟨a', by rw [show upT T 13 h (some a) 13 g = T 13 g by simp [upT, q]]; exact e1, TR_A (TR_c (fun i j1 j2 => ?_) t) (fun r hr => ?_)⟩
      · rw [pv i (by unfold tx at j1; omega) (by unfold tx at j1; omega), htx g hg' i j1 j2]
      · show A1 r = if r < 49 + E.length then A0 r else A1 r
        have := hr.1
        by_cases q : r < 49 + E.length
        · rw [if_pos q]; exact rr r q (by omega) (by omega) (by omega)
        · rw [if_neg q]
end LetB
