/-! what depends on which cells of the world -/
section Cong
variable {c : Nat} {W V : fW} {k : Value} {E : List dsc} {A : fA}
theorem pn_c (e : V 882 = W 882) : pn V = pn W := by unfold pn; rw [e]
theorem hn_c (e : V 1683 = W 1683) : hn V = hn W := by unfold hn; rw [e]
theorem ln_c (e : V 1948 = W 1948) : ln V = ln W := by unfold ln; rw [e]
theorem jn_c (e : V 2237 = W 2237) : jn V = jn W := by unfold jn; rw [e]
theorem tn_c (e : V 2256 = W 2256) : tn V = tn W := by unfold tn; rw [e]
theorem rn_c (e : V 2265 = W 2265) : rn V = rn W := by unfold rn; rw [e]
theorem xn_c (e : V 2650 = W 2650) : xn V = xn W := by unfold xn; rw [e]
theorem ckN_c {a b : Nat → Int32 × Int32} {i m : Nat} (e : ∀ j, i ≤ j → j < i + m → a j = b j) (st : List Bool) : ckN a i m st = ckN b i m st := by
  induction m generalizing i st with
  | zero => rfl
  | succ m ih =>
    unfold ckN
    rw [e i (by omega) (by omega)]
    congr 1
    funext st'
    exact ih (fun j h1 h2 => e j (by omega) (by omega)) st'
theorem WT_c {B nl nc : Nat} (e : ∀ i, B < i → i < B + 898 → V i = W i) (h : WT W B nl nc) : WT V B nl nc := by
  obtain ⟨h1, h2, h3, h4⟩ := h
  refine ⟨by rw [e _ (by omega) (by omega)]; exact h1, h2, h3, fun n hn => ?_⟩
  obtain ⟨a1, a2, a3, a4, a5, a6, a7, a8, i, j, b1, b2, b3, b4, b5⟩ := h4 n hn
  have e0 := e (B + 2 + 6 * n) (by omega) (by omega)
  have e1 := e (B + 2 + 6 * n + 1) (by omega) (by omega)
  have e2 := e (B + 2 + 6 * n + 2) (by omega) (by omega)
  have e3 := e (B + 2 + 6 * n + 3) (by omega) (by omega)
  have e4 := e (B + 2 + 6 * n + 4) (by omega) (by omega)
  have e5 := e (B + 2 + 6 * n + 5) (by omega) (by omega)
  unfold WTl
  rw [e0, e1, e2, e3, e4, e5]
  refine ⟨a1, a2, a3, a4, a5, a6, a7, a8, i, j, b1, b2, b3, b4, ?_⟩
  rcases b5 with b5 | b5
  · exact Or.inl b5
  · right
    rw [← b5]
    exact ckN_c (fun q h1 h2 => by unfold cds; rw [e _ (by omega) (by omega), e _ (by omega) (by omega)]) _
theorem TR_c {a B : Nat} (e : ∀ i, B < i → i < B + 898 → V i = W i) (h : TR k E A a W B) : TR k E A a V B := by
  obtain ⟨b, nl, nc, o1, o2, h1, h2, h3, h4, h5, h6⟩ := h
  have hl := h4.2.1
  have hc := h4.2.2.1
  refine ⟨b, nl, nc, o1, o2, h1, h2, h3, WT_c e h4, fun n hn => ?_, fun i hi => ?_⟩
  · rw [e _ (by omega) (by omega), e _ (by omega) (by omega), e _ (by omega) (by omega), e _ (by omega) (by omega), e _ (by omega) (by omega), e _ (by omega) (by omega)]
    exact h5 n hn
  · rw [e _ (by omega) (by omega), e _ (by omega) (by omega)]
    exact h6 i hi
theorem Iv0_c (e : V 0 = W 0) (h : rg (W 0) 0 400) : rg (V 0) 0 400 := by rw [e]; exact h
theorem IvF_c (e : ∀ i, (i = 0 ∨ 8 ≤ i ∧ i < 680 ∨ 1683 ≤ i ∧ i < 1948) → V i = W i) (hh : hn W ≤ 24) (h : ∀ f, f < 48 → IvF W f) : ∀ f, f < 48 → IvF V f := by
  intro f hf
  have q := h f hf
  unfold IvF at q ⊢
  rw [hn_c (e 1683 (by omega)), e (8 + 14 * f + 0) (by omega), e (8 + 14 * f + 1) (by omega), e (8 + 14 * f + 2) (by omega), e (8 + 14 * f + 3) (by omega), e (8 + 14 * f + 4) (by omega), e (8 + 14 * f + 5) (by omega), e (8 + 14 * f + 6) (by omega), e (8 + 14 * f + 7) (by omega), e (8 + 14 * f + 8) (by omega), e (8 + 14 * f + 10) (by omega), e (8 + 14 * f + 11) (by omega), e (8 + 14 * f + 12) (by omega), e (8 + 14 * f + 13) (by omega)]
  obtain ⟨a0, a1, a2, a3, a4, a5, a6, a7, a8, a9, a10⟩ := q
  refine ⟨a0, a1, a2, a3, a4, a5, a6, a7, a8, ?_, a10⟩
  rcases a9 with a9 | ⟨g, hg, a9⟩
  · exact Or.inl a9
  · refine Or.inr ⟨g, hg, ?_⟩
    rw [e (1684 + 11 * g + 0) (by omega)]
    exact a9
theorem IvRn_c (e : ∀ i, 680 ≤ i → i < 882 → V i = W i) (h : IvRn W) : IvRn V := by
  intro y hy
  rw [e _ (by omega) (by omega), e _ (by omega) (by omega)]
  exact h y hy
theorem IvPr_c (e0 : ¬ V 0 < W 0) (e : ∀ i, 882 ≤ i → i < 1683 → V i = W i) (h : IvPr W) : IvPr V := by
  obtain ⟨h1, h2, h3⟩ := h
  unfold IvPr
  rw [pn_c (e _ (by omega) (by omega)), e 882 (by omega) (by omega)]
  refine ⟨h1, h2, fun k hk => ?_⟩
  rw [e (883 + 4 * k) (by omega) (by omega), e (883 + 4 * k + 2) (by omega) (by omega), e (883 + 4 * k + 3) (by omega) (by omega)]
  obtain ⟨a1, a2, a3⟩ := h3 k hk
  refine ⟨a1, a2, ?_⟩
  rw [Int32.lt_iff_toInt_lt] at a3 e0 ⊢
  omega
theorem IvH_c {h : Nat} (hh : h < 24) (e : ∀ i, (8 ≤ i ∧ i < 680 ∨ 1683 ≤ i ∧ i < 1948 ∨ 13427 ≤ i ∧ i < 34979) → V i = W i) (q : IvH W h) : IvH V h := by
  unfold IvH at q ⊢
  rw [fo_congr (W := W) (W' := V) (fun f hf => e _ (by omega)) h, e (1684 + 11 * h + 0) (by omega), e (1684 + 11 * h + 1) (by omega), e (1684 + 11 * h + 2) (by omega), e (1684 + 11 * h + 3) (by omega), e (1684 + 11 * h + 5) (by omega), e (1684 + 11 * h + 6) (by omega), e (1684 + 11 * h + 8) (by omega), e (1684 + 11 * h + 9) (by omega), e (1684 + 11 * h + 10) (by omega)]
  obtain ⟨a0, a1, a2, a3, a4, a5, a6, a7, a8, a9, a10⟩ := q
  refine ⟨a0, a1, a2, a3, a4, a5, a6, a7, a8, a9, fun q => ?_⟩
  obtain ⟨nl, nc, t⟩ := a10 q
  exact ⟨nl, nc, WT_c (fun i h1 h2 => e i (by unfold tx at h1 h2; omega)) t⟩
theorem IvHs_c (e : ∀ i, (8 ≤ i ∧ i < 680 ∨ 1683 ≤ i ∧ i < 1948 ∨ 13427 ≤ i ∧ i < 34979) → V i = W i) (h : IvHs W) : IvHs V := by
  obtain ⟨h1, h2, h3⟩ := h
  unfold IvHs
  rw [hn_c (e 1683 (by omega)), e 1683 (by omega)]
  exact ⟨h1, h2, fun g hg => IvH_c (by omega) e (h3 g hg)⟩
theorem IvGs_c (e : ∀ i, 1 ≤ i → i < 8 → V i = W i) (h : IvGs c W) : IvGs (c + 1) V := by
  unfold IvGs at h ⊢
  rw [e 1 (by omega) (by omega), e 2 (by omega) (by omega), e 3 (by omega) (by omega), e 4 (by omega) (by omega), e 7 (by omega) (by omega), e 6 (by omega) (by omega)]
  obtain ⟨a1, a2, a3, a4, a5, m, hm, e⟩ := h
  exact ⟨a1, a2, a3, a4, a5, m, by omega, e⟩
theorem IvLn_c (e : ∀ i, 1948 ≤ i → i < 1997 → V i = W i) (h : IvLn W) : IvLn V := by
  obtain ⟨h1, h2, h3⟩ := h
  unfold IvLn
  rw [ln_c (e _ (by omega) (by omega)), e 1948 (by omega) (by omega)]
  refine ⟨h1, h2, fun l hl => ?_⟩
  rw [e _ (by omega) (by omega), e _ (by omega) (by omega), e _ (by omega) (by omega)]
  exact h3 l hl
theorem IvJb_c (e : ∀ i, 2237 ≤ i → i < 2256 → V i = W i) (h : IvJb W) : IvJb V := by
  obtain ⟨h1, h2, h3⟩ := h
  unfold IvJb
  rw [jn_c (e _ (by omega) (by omega)), e 2237 (by omega) (by omega)]
  refine ⟨h1, h2, fun l hl => ?_⟩
  rw [e _ (by omega) (by omega), e _ (by omega) (by omega)]
  exact h3 l hl
theorem IvTb_c (e : ∀ i, 2256 ≤ i → i < 2265 → V i = W i) (h : IvTb W) : IvTb V := by
  obtain ⟨h1, h2, h3⟩ := h
  unfold IvTb
  rw [tn_c (e _ (by omega) (by omega)), e 2256 (by omega) (by omega)]
  refine ⟨h1, h2, fun l hl => ?_⟩
  rw [e _ (by omega) (by omega), e _ (by omega) (by omega)]
  exact h3 l hl
theorem IvRw_c (e : V 2265 = W 2265) (h : IvRw W) : IvRw V := by
  unfold IvRw at h ⊢
  rw [rn_c e, e]; exact h
theorem IvXs_c (e : ∀ i, 2650 ≤ i → i < 13427 → V i = W i) (h : IvXs W) : IvXs V := by
  obtain ⟨h1, h2, h3⟩ := h
  unfold IvXs
  rw [xn_c (e _ (by omega) (by omega)), e 2650 (by omega) (by omega)]
  refine ⟨h1, h2, fun t ht => ?_⟩
  obtain ⟨a1, nl, nc, a2, a3⟩ := h3 t ht
  refine ⟨by rw [e _ (by unfold tx; omega) (by unfold tx; omega)]; exact a1, nl, nc, WT_c (fun i q1 q2 => e i (by unfold tx at q1; omega) (by unfold tx at q2; omega)) a2, fun n hn => ?_⟩
  have := a2.2.1
  rw [e _ (by unfold tx; omega) (by unfold tx; omega)]
  exact a3 n hn
theorem LkL_c {C : Nat → Int32} (e : ∀ i, 8 ≤ i → i < 680 → V i = W i) (h : LkL C W) : LkL C V := by
  intro w f hw hf; rw [e _ (by omega) (by omega)]; exact h w f hw hf
theorem LkM_c {M r cr y n s : Nat → Int32} (hp : pn W ≤ 200) (e : ∀ i, 680 ≤ i → i < 1683 → V i = W i) (h : LkM M r cr y n s W) : LkM M r cr y n s V := by
  obtain ⟨h1, h2, h3⟩ := h
  refine ⟨by rw [e _ (by omega) (by omega)]; exact h1, fun i hi => ?_, fun k hk => ?_⟩
  · rw [e _ (by omega) (by omega), e _ (by omega) (by omega)]; exact h2 i hi
  · rw [pn_c (e _ (by omega) (by omega))] at hk
    rw [e _ (by omega) (by omega), e _ (by omega) (by omega), e _ (by omega) (by omega), e _ (by omega) (by omega)]; exact h3 k hk
theorem LkG_c {G nt rt pt lf : Nat → Int32} (e : ∀ i, (1 ≤ i ∧ i < 8 ∨ 1948 ≤ i ∧ i < 2237) → V i = W i) (h : LkG G nt rt pt lf W) : LkG G nt rt pt lf V := by
  obtain ⟨h1, h2, h3⟩ := h
  refine ⟨?_, fun i hi => ?_, fun l hl => ?_⟩
  · rw [e 1 (by omega), e 2 (by omega), e 3 (by omega), e 4 (by omega), e 7 (by omega), e 5 (by omega), e 6 (by omega), e 1948 (by omega)]; exact h1
  · rw [e _ (by omega)]; exact h2 i hi
  · rw [e _ (by omega), e _ (by omega), e _ (by omega)]; exact h3 l hl
theorem LkP_c {P a b y f g : Nat → Int32} (e : ∀ i, 2237 ≤ i → i < 2265 → V i = W i) (h : LkP P a b y f g W) : LkP P a b y f g V := by
  obtain ⟨h1, h2, h3, h4⟩ := h
  refine ⟨by rw [e _ (by omega) (by omega)]; exact h1, by rw [e _ (by omega) (by omega)]; exact h2, fun k hk => ?_, fun t ht => ?_⟩
  · rw [e _ (by omega) (by omega), e _ (by omega) (by omega), e _ (by omega) (by omega)]; exact h3 k hk
  · rw [e _ (by omega) (by omega), e _ (by omega) (by omega)]; exact h4 t ht
theorem LkR_c {R s b : Nat → Int32} (e : ∀ i, 2265 ≤ i → i < 2650 → V i = W i) (h : LkR R s b W) : LkR R s b V := by
  obtain ⟨h1, h2, h3⟩ := h
  exact ⟨by rw [e _ (by omega) (by omega)]; exact h1, fun i hi => by rw [e _ (by omega) (by omega)]; exact h2 i hi, fun i hi => by rw [e _ (by omega) (by omega)]; exact h3 i hi⟩
theorem LkC_c {C : Nat → Int32} {h : Nat} (hh : h < 24) (e : ∀ i, (8 ≤ i ∧ i < 680 ∨ 1683 ≤ i ∧ i < 1948) → V i = W i) (q : LkC C W h) : LkC C V h := by
  unfold LkC at q ⊢
  rw [fo_congr (W := W) (W' := V) (fun f hf => e _ (by omega)) h, e (1684 + 11 * h + 0) (by omega), e (1684 + 11 * h + 1) (by omega), e (1684 + 11 * h + 2) (by omega), e (1684 + 11 * h + 3) (by omega), e (1684 + 11 * h + 4) (by omega), e (1684 + 11 * h + 5) (by omega), e (1684 + 11 * h + 6) (by omega), e (1684 + 11 * h + 7) (by omega), e (1684 + 11 * h + 8) (by omega), e (1684 + 11 * h + 9) (by omega), e (1684 + 11 * h + 10) (by omega)]
  exact q
theorem LkH_c {H C : Nat → Int32} {Tl : Nat → Option Nat} (hh : hn W ≤ 24) (e : ∀ i, (8 ≤ i ∧ i < 680 ∨ 1683 ≤ i ∧ i < 1948 ∨ 13427 ≤ i ∧ i < 34979) → V i = W i) (h : LkH k E A H C Tl W) : LkH k E A H C Tl V := by
  obtain ⟨h1, h2, h3, h4⟩ := h
  unfold LkH
  rw [hn_c (e 1683 (by omega)), e 1683 (by omega)]
  refine ⟨h1, fun g hg => LkC_c (by omega) (fun i hi => e i (by omega)) (h2 g hg), h3, fun g hg hk => ?_⟩
  rw [e _ (by omega)] at hk
  obtain ⟨a, e1, t⟩ := h4 g hg hk
  exact ⟨a, e1, TR_c (fun i h1 h2 => e i (by unfold tx at h1 h2; omega)) t⟩
theorem ins_c {t : Nat} {l : List Nat} (e : ∀ u, u ∈ t :: l → V (tx u) = W (tx u)) : ins V t l = ins W t l := by
  induction l with
  | nil => rfl
  | cons u r ih =>
    unfold ins
    rw [e t (by simp), e u (by simp), ih (fun v hv => e v (by simp only [List.mem_cons] at hv ⊢; rcases hv with hv | hv <;> simp [hv]))]
theorem mem_ins {W : fW} {t u : Nat} {l : List Nat} : u ∈ ins W t l ↔ u = t ∨ u ∈ l := by
  induction l with
  | nil => simp [ins]
  | cons v r ih =>
    unfold ins
    split
    · simp
    · simp only [List.mem_cons, ih]
      constructor
      · rintro (h | h | h) <;> simp [h]
      · rintro (h | h | h) <;> simp [h]
theorem mem_srt {W : fW} {n u : Nat} : u ∈ srt W n ↔ u < n := by
  induction n with
  | zero => simp [srt]
  | succ n ih => unfold srt; rw [mem_ins, ih]; omega
theorem srt_c {n : Nat} (e : ∀ t, t < n → V (tx t) = W (tx t)) : srt V n = srt W n := by
  induction n with
  | zero => rfl
  | succ n ih =>
    unfold srt
    rw [ih (fun t ht => e t (by omega)), ins_c]
    intro u hu
    apply e
    rw [List.mem_cons, mem_srt] at hu
    omega
theorem LkX_c {X sn od : Nat → Int32} {Tx : Nat → Option Nat} (hx : xn W ≤ 12) (e : ∀ i, 2650 ≤ i → i < 13427 → V i = W i) (h : LkX k E A X Tx sn od W) : LkX k E A X Tx sn od V := by
  obtain ⟨h1, h2, h3, h4⟩ := h
  unfold LkX
  rw [xn_c (e 2650 (by omega) (by omega)), e 2650 (by omega) (by omega), srt_c (W := W) (V := V) (fun t ht => e _ (by unfold tx; omega) (by unfold tx; omega))]
  refine ⟨h1, h2, fun t ht => ?_, h4⟩
  obtain ⟨a1, a, e1, q⟩ := h3 t ht
  exact ⟨by rw [e _ (by unfold tx; omega) (by unfold tx; omega)]; exact a1, a, e1, TR_c (fun i q1 q2 => e i (by unfold tx at q1; omega) (by unfold tx at q2; omega)) q⟩
end Cong
