/-! the law's walk out of its Go -/
section LawOf
theorem room_eq : room_1 = rmR 2032 rmC rmS := rfl
theorem law_of {p : Program} {e : Env} {s : State} {m : MethodId} {below : List Frame} {meth : Method} {c : Code} {b L : Nat} {xs : Nat → Int32} (G : gC) (C0 : lw_At p s m meth c b L xs) (hO : Old G s) (hK : va_K (gD G) vwCl (gT G) s) (hbs : gb G = s.heap.size) (hb0 : god G 0 = b) (hst : (gl G).stackTraces = false) {h' : pH}
    (g : Go G 2032 rmC rmS mLaw 0 (some (.retAddr 0) :: List.replicate 6 none) [] [] (.inl (some (.int 1))) h') :
    W p (gl G) e room_1 s m #[Value.ref b] below meth c s.heap [] 0 0 (lw_Z below #[Value.ref b] s) (entryFrame m ([Value.ref b] : List Value).toArray 7) := by
  obtain ⟨hx, hb, hr, hml, hown, hts, hX, hbl, hlocks, hgv⟩ := id C0
  have hS : SX G mLaw p s m #[Value.ref b] meth c := ⟨hx, hb, hml, hown, fun w hw => hts w (List.mem_filter.mp hw).1, hr, hlocks, Or.inl rfl, Or.inl rfl, hO, hK, fun q hq => by show gb G ≤ q; rw [hbs]; exact hq, hst⟩
  rw [lg_entry_eq, room_eq]
  have hl := lH_entry (G := G) (ad := fun _ => 0) (av := [.retAddr 0]) (nL := 7) (k := 6) rfl
  have hmap : [Value.retAddr 0].map (cvV G (fun _ => 0)) = [Value.ref b] := by simp [cvV, hb0]
  rw [hmap] at hl
  refine W_mono (fun t q => ?_) (g p e s m #[Value.ref b] below meth c s.heap [] 0 0 rmC rmS (fun _ => 0) _ hS ⟨fun k q h => by simp [wsO] at h, ⟨fun i j p q h => by simp [wsO] at h, fun k q h => by simp [wsO] at h⟩, va_S.rf, fun c hc => (by cases hc), okL_lent (av := [.retAddr 0]) (k := 6) (okS_t trivial okS_nil), okS_nil, hl, by omega, by omega⟩)
  obtain ⟨o, h1, h2, ⟨ad', -, -, -, -, ho⟩, L9, hF, hL⟩ := q
  exact ⟨o, h1, h2, ho, framed_new hF (fun q hq => by have := hL q hq; unfold gA at this; rw [hbs] at this; exact this)⟩
end LawOf
