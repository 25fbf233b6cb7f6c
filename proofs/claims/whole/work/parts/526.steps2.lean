/-! by program: a number of a holding is written -/
section Steps2
variable {S : sT} {d c : Nat} {k : Value} {E : List dsc} {A A1 A2 : fA} {L : fL} {T : fT} {W V : fW}
theorem jH_9 {h : Nat} {x : Int32} (hI : Iv c W) (hh : h < hn W) (hx : rg x 0 2000) : Iv c (upd W (1684 + 11 * h + 9) x) := by
  obtain ⟨i0, i1, i2, i3, i4, i5, i6, i7, i8, i9, i10⟩ := hI
  have h24 := i4.2.1
  have e : ∀ j, j ≠ 1684 + 11 * h + 9 → upd W (1684 + 11 * h + 9) x j = W j := fun j hj => upd_o hj
  have ef : ∀ g, fo (upd W (1684 + 11 * h + 9) x) g = fo W g := fun g => fo_congr (fun f hf => e _ (by omega)) g
  have hH : IvHs (upd W (1684 + 11 * h + 9) x) := by
    unfold IvHs
    rw [hn_c (e 1683 (by omega)), e 1683 (by omega)]
    refine ⟨i4.1, i4.2.1, fun g hg => ?_⟩
    have q := i4.2.2 g hg
    unfold IvH at q ⊢
    rw [ef]
    obtain ⟨a0, a1, a2, a3, a4, a5, a6, a7, a8, a9, a10⟩ := q
    have a10' : (W (1684 + 11 * g + 0) = 0 ∨ W (1684 + 11 * g + 0) = 1) → ∃ nl nc, WT (upd W (1684 + 11 * h + 9) x) (tx (12 + g)) nl nc := fun q => by
      obtain ⟨nl, nc, t⟩ := a10 q
      exact ⟨nl, nc, WT_c (fun i h1 h2 => e i (by unfold tx at h1; omega)) t⟩
    by_cases q : g = h
    · subst q
      rw [e (1684 + 11 * g + 0) (by omega), e (1684 + 11 * g + 1) (by omega), e (1684 + 11 * g + 2) (by omega), e (1684 + 11 * g + 3) (by omega), e (1684 + 11 * g + 5) (by omega), e (1684 + 11 * g + 6) (by omega), e (1684 + 11 * g + 8) (by omega), upd_s, e (1684 + 11 * g + 10) (by omega)]
      exact ⟨a0, a1, a2, a3, a4, a5, a6, a7, fun _ => hx, a9, a10'⟩
    · rw [e (1684 + 11 * g + 0) (by omega), e (1684 + 11 * g + 1) (by omega), e (1684 + 11 * g + 2) (by omega), e (1684 + 11 * g + 3) (by omega), e (1684 + 11 * g + 5) (by omega), e (1684 + 11 * g + 6) (by omega), e (1684 + 11 * g + 8) (by omega), e (1684 + 11 * g + 9) (by omega), e (1684 + 11 * g + 10) (by omega)]
      exact ⟨a0, a1, a2, a3, a4, a5, a6, a7, a8, a9, a10'⟩
  have hF : ∀ g, g < 48 → IvF (upd W (1684 + 11 * h + 9) x) g := by
    intro g hg
    have q := i1 g hg
    unfold IvF at q ⊢
    rw [hn_c (e 1683 (by omega)), e (8 + 14 * g + 0) (by omega), e (8 + 14 * g + 1) (by omega), e (8 + 14 * g + 2) (by omega), e (8 + 14 * g + 3) (by omega), e (8 + 14 * g + 4) (by omega), e (8 + 14 * g + 5) (by omega), e (8 + 14 * g + 6) (by omega), e (8 + 14 * g + 7) (by omega), e (8 + 14 * g + 8) (by omega), e (8 + 14 * g + 10) (by omega), e (8 + 14 * g + 11) (by omega), e (8 + 14 * g + 12) (by omega), e (8 + 14 * g + 13) (by omega)]
    obtain ⟨a0, a1, a2, a3, a4, a5, a6, a7, a8, a9, a10⟩ := q
    refine ⟨a0, a1, a2, a3, a4, a5, a6, a7, a8, ?_, a10⟩
    rcases a9 with a9 | ⟨g', hg', a9⟩
    · exact Or.inl a9
    · refine Or.inr ⟨g', hg', ?_⟩
      rw [e (1684 + 11 * g' + 0) (by omega)]
      exact a9
  exact ⟨Iv0_c (e 0 (by omega)) i0, hF, IvRn_c (fun i h1 h2 => e i (by omega)) i2, IvPr_c (by rw [e 0 (by omega)]; exact Int32.lt_irrefl) (fun i h1 h2 => e i (by omega)) i3, hH, IvG_0 (fun i h1 h2 => e i (by omega)) i5, IvLn_c (fun i h1 h2 => e i (by omega)) i6, IvJb_c (fun i h1 h2 => e i (by omega)) i7, IvTb_c (fun i h1 h2 => e i (by omega)) i8, IvRw_c (e _ (by omega)) i9, IvXs_c (fun i h1 h2 => e i (by omega)) i10⟩
theorem jH_10 {h : Nat} {x : Int32} (hI : Iv c W) (hh : h < hn W) (hx : rg x 0 100) : Iv c (upd W (1684 + 11 * h + 10) x) := by
  obtain ⟨i0, i1, i2, i3, i4, i5, i6, i7, i8, i9, i10⟩ := hI
  have h24 := i4.2.1
  have e : ∀ j, j ≠ 1684 + 11 * h + 10 → upd W (1684 + 11 * h + 10) x j = W j := fun j hj => upd_o hj
  have ef : ∀ g, fo (upd W (1684 + 11 * h + 10) x) g = fo W g := fun g => fo_congr (fun f hf => e _ (by omega)) g
  have hH : IvHs (upd W (1684 + 11 * h + 10) x) := by
    unfold IvHs
    rw [hn_c (e 1683 (by omega)), e 1683 (by omega)]
    refine ⟨i4.1, i4.2.1, fun g hg => ?_⟩
    have q := i4.2.2 g hg
    unfold IvH at q ⊢
    rw [ef]
    obtain ⟨a0, a1, a2, a3, a4, a5, a6, a7, a8, a9, a10⟩ := q
    have a10' : (W (1684 + 11 * g + 0) = 0 ∨ W (1684 + 11 * g + 0) = 1) → ∃ nl nc, WT (upd W (1684 + 11 * h + 10) x) (tx (12 + g)) nl nc := fun q => by
      obtain ⟨nl, nc, t⟩ := a10 q
      exact ⟨nl, nc, WT_c (fun i h1 h2 => e i (by unfold tx at h1; omega)) t⟩
    by_cases q : g = h
    · subst q
      rw [e (1684 + 11 * g + 0) (by omega), e (1684 + 11 * g + 1) (by omega), e (1684 + 11 * g + 2) (by omega), e (1684 + 11 * g + 3) (by omega), e (1684 + 11 * g + 5) (by omega), e (1684 + 11 * g + 6) (by omega), e (1684 + 11 * g + 8) (by omega), e (1684 + 11 * g + 9) (by omega), upd_s]
      exact ⟨a0, a1, a2, a3, a4, a5, a6, a7, a8, fun _ => hx, a10'⟩
    · rw [e (1684 + 11 * g + 0) (by omega), e (1684 + 11 * g + 1) (by omega), e (1684 + 11 * g + 2) (by omega), e (1684 + 11 * g + 3) (by omega), e (1684 + 11 * g + 5) (by omega), e (1684 + 11 * g + 6) (by omega), e (1684 + 11 * g + 8) (by omega), e (1684 + 11 * g + 9) (by omega), e (1684 + 11 * g + 10) (by omega)]
      exact ⟨a0, a1, a2, a3, a4, a5, a6, a7, a8, a9, a10'⟩
  have hF : ∀ g, g < 48 → IvF (upd W (1684 + 11 * h + 10) x) g := by
    intro g hg
    have q := i1 g hg
    unfold IvF at q ⊢
    rw [hn_c (e 1683 (by omega)), e (8 + 14 * g + 0) (by omega), e (8 + 14 * g + 1) (by omega), e (8 + 14 * g + 2) (by omega), e (8 + 14 * g + 3) (by omega), e (8 + 14 * g + 4) (by omega), e (8 + 14 * g + 5) (by omega), e (8 + 14 * g + 6) (by omega), e (8 + 14 * g + 7) (by omega), e (8 + 14 * g + 8) (by omega), e (8 + 14 * g + 10) (by omega), e (8 + 14 * g + 11) (by omega), e (8 + 14 * g + 12) (by omega), e (8 + 14 * g + 13) (by omega)]
    obtain ⟨a0, a1, a2, a3, a4, a5, a6, a7, a8, a9, a10⟩ := q
    refine ⟨a0, a1, a2, a3, a4, a5, a6, a7, a8, ?_, a10⟩
    rcases a9 with a9 | ⟨g', hg', a9⟩
    · exact Or.inl a9
    · refine Or.inr ⟨g', hg', ?_⟩
      rw [e (1684 + 11 * g' + 0) (by omega)]
      exact a9
  exact ⟨Iv0_c (e 0 (by omega)) i0, hF, IvRn_c (fun i h1 h2 => e i (by omega)) i2, IvPr_c (by rw [e 0 (by omega)]; exact Int32.lt_irrefl) (fun i h1 h2 => e i (by omega)) i3, hH, IvG_0 (fun i h1 h2 => e i (by omega)) i5, IvLn_c (fun i h1 h2 => e i (by omega)) i6, IvJb_c (fun i h1 h2 => e i (by omega)) i7, IvTb_c (fun i h1 h2 => e i (by omega)) i8, IvRw_c (e _ (by omega)) i9, IvXs_c (fun i h1 h2 => e i (by omega)) i10⟩
end Steps2
