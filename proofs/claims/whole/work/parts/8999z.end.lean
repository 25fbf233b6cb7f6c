/-! the law comes to its end with true -/
section TheEnd
variable {S : sT} {d : Nat}
theorem szC_mk {A : fA} {L : fL} {T : fT} {a : Nat} (e : dsc) : szC (mkC A L T a e) = (match e with | .inl (_, n) => n | .inr (_, ks) => ks.length) := by
  rcases e with ⟨t, n⟩ | ⟨c, ks⟩
  · unfold mkC
    dsimp only
    split <;> rfl
  · show (ks.mapIdx _).length = _
    exact List.length_mapIdx
theorem sz_HP {D : List dsc} {A : fA} {L : fL} {T : fT} : sz (HP D A L T) = esz D := by
  unfold sz HP esz
  congr 1
  apply List.ext_getElem?
  intro i
  rw [List.getElem?_map, List.getElem?_mapIdx, List.getElem?_map]
  cases D[i]? with
  | none => rfl
  | some e => exact congrArg some (szC_mk e)
theorem sz_D0 {k : Value} : esz (D0 k) ≤ 100000 := by unfold esz D0; simp
theorem nI_lt7 {a c : Nat} (ha : a ≤ 3584) (hc : c ≤ 512) : (nI a - 7 < nI (7 * c)) ↔ a < 7 * c + 7 := by
  have e1 : (nI a).toInt = a := nI_toInt (by omega)
  have e2 : (nI (7 * c)).toInt = 7 * c := by rw [nI_toInt (by omega)]; omega
  have e7 : (7 : Int32).toInt = 7 := rfl
  have e3 : (nI a - 7).toInt = (a : Int) - 7 := by rw [s32 (by rw [e1, e7]; omega) (by rw [e1, e7]; omega), e1, e7]
  rw [Int32.lt_iff_toInt_lt, e3, e2]
  omega
theorem xL_at {i : Nat} {x : Int32} (hx : x = nI i) (hi : i < S.1) (hS : S.1 ≤ 3584) (κ : Int32 → rO) : xL S (.retAddr 0) x κ = κ (S.2 i) := by
  subst hx
  unfold xL
  rw [if_neg (by rw [nI_clamp (by omega)]; intro h; rcases h with h | h; exact nI_pos (by omega) h; omega), nI_clamp (by omega)]
  rfl
theorem t_fin {call : cT} {x4 : Int32} {f : Nat} {v1 v2 v3 : Value} {o5 o6 : Option Value} {h : pH} (hn : nI S.1 - 7 < x4) : bd S call dflT E_L_law (f + 1) 23 [some (.retAddr 0), some v1, some v2, some v3, some (.int x4), o5, o6] [] h = some (.inl (some (.int 1)), h) := by
  rw [g_L_law_23]
  show (if nI S.1 - 7 < x4 then _ else _) = _
  rw [if_pos hn]; rfl
theorem law_loop (hS : S.1 ≤ 3584) : ∀ (m c f : Nat) (k : Value) (E : List dsc) (A : fA) (L : fL) (T : fT) (o5 o6 : Option Value), c + m = 512 → 5 * m + 1 ≤ f → Rel c k E A T →
    ∃ c' k' E' A' L' T', c' ≤ 512 ∧ Rel c' k' E' A' T' ∧ bd S (ex S (d + 40)) dflT E_L_law f 23 [some (.retAddr 0), some (.ref 0), some (.ref 39), some (.ref 48), some (.int (nI (7 * c))), o5, o6] [] (Hh k E A L T) = some (.inl (some (.int 1)), Hh k' E' A' L' T') := by
  intro m
  induction m with
  | zero =>
    intro c f k E A L T o5 o6 hc hf hR
    obtain ⟨g, rfl⟩ : ∃ g, f = g + 1 := ⟨f - 1, by omega⟩
    exact ⟨c, k, E, A, L, T, by omega, hR, t_fin ((nI_lt7 hS (by omega)).mpr (by omega))⟩
  | succ m ih =>
    intro c f k E A L T o5 o6 hc hf hR
    by_cases hn : S.1 < 7 * c + 7
    · obtain ⟨g, rfl⟩ : ∃ g, f = g + 1 := ⟨f - 1, by omega⟩
      exact ⟨c, k, E, A, L, T, by omega, hR, t_fin ((nI_lt7 hS (by omega)).mpr hn)⟩
    · obtain ⟨g, rfl⟩ : ∃ g, f = g + 5 := ⟨f - 5, by omega⟩
      obtain ⟨f', k', E', A', L', T', p5, p6, h1, h2, h3⟩ := t_23 (S := S) (d := d) (c := c) (f := g) (k := k) (E := E) (A := A) (L := L) (T := T) (x4 := nI (7 * c)) (o5 := o5) (o6 := o6) (xL_at (i := 7 * c) rfl (by omega) hS) (fun q => hn ((nI_lt7 hS (by omega)).mp q))
        (xL_at (i := 7 * c + 1) (nI_add (7 * c) 1) (by omega) hS) (xL_at (i := 7 * c + 2) (nI_add (7 * c) 2) (by omega) hS) (xL_at (i := 7 * c + 3) (nI_add (7 * c) 3) (by omega) hS) (xL_at (i := 7 * c + 4) (nI_add (7 * c) 4) (by omega) hS) (xL_at (i := 7 * c + 5) (nI_add (7 * c) 5) (by omega) hS) (xL_at (i := 7 * c + 6) (nI_add (7 * c) 6) (by omega) hS) (by omega) hR
      rw [h2, show nI (7 * c) + 7 = nI (7 * (c + 1)) from (nI_add (7 * c) 7)]
      exact ih (c + 1) f' k' E' A' L' T' p5 p6 (by omega) (by omega) h3
theorem law_runs (hS : S.1 ≤ 3584) : ∃ k' E' A' L' T', bd S (ex S (d + 40)) dflT E_L_law 2600 0 (some (.retAddr 0) :: List.replicate 6 none) [] [] = some (.inl (some (.int 1)), Hh k' E' A' L' T') ∧ E'.length ≤ 17408 ∧ esz E' ≤ 2048000 := by
  obtain ⟨A, L, T, h1, h2⟩ := law_start (S := S) (d := d + 30)
  obtain ⟨c', k', E', A', L', T', q1, q2, q3⟩ := law_loop (S := S) (d := d) hS 512 0 2599 .null [] A L T none none rfl (by decide) h1
  refine ⟨k', E', A', L', T', ?_, ?_, ?_⟩
  · exact (h2 2599).trans q3
  · have := q2.2.2.2.2.2.2.2.1; omega
  · have := q2.2.2.2.2.2.2.2.2; omega
theorem law_snd {G : gC} {h' : pH} {S : sT} {dfl : Nat → List Value} {MY : List (mY × Nat)} {M : List mE} {EL : mE} (hS : S = (gL G, gxs G)) (hst : (gl G).stackTraces = false) (hMY : MY = M.map (fun E => (E.1, E.2.2.1))) (hM : ∀ E ∈ M, VE MY dfl E ∧ E.2.2.1 < 2) (hEL : VE MY dfl EL) (h2 : EL.2.2.1 = 2) (hL : EL.1 = mLaw) (H : bd S (exec S M dfl 2031) dfl EL 2600 0 (some (.retAddr 0) :: List.replicate 6 none) [] [] = some (.inl (some (.int 1)), h')) (hc : h'.length + 26000 ≤ rmC) (hs : sz h' + 156000 ≤ rmS) :
    Go G 2032 rmC rmS mLaw 0 (some (.retAddr 0) :: List.replicate 6 none) [] [] (.inl (some (.int 1))) h' := by
  have g := bd_sound (G := G) hS hst hEL (exec_sound hS hst hMY hM 2031) _ _ _ _ _ H
  rw [h2, hL] at g
  refine go_mono ?_ ?_ g.2.2
  · show h'.length - 0 + 10 * 2600 ≤ rmC; omega
  · show sz h' - 0 + 6 * (10 * 2600) ≤ rmS; omega
theorem whole_start {p : Program} {e : Env} {s : State} {m : MethodId} {below : List Frame} {meth : Method} {c : Code} (l : Launch) (hst : l.stackTraces = false) {b L : Nat} {xs : Nat → Int32} (hL : L ≤ 3584) (C0 : lw_At p s m meth c b L xs) : W p l e room_1 s m #[Value.ref b] below meth c s.heap [] 0 0 (lw_Z below #[Value.ref b] s) (entryFrame m ([Value.ref b] : List Value).toArray 7) := by
  obtain ⟨hx, hb, hr, hml, hown, hts, hX, hbl, hlocks, hgv⟩ := id C0
  obtain ⟨G, rfl, e2, e3, e4, e5, hO, hK⟩ := pre_old l hL hts hX hbl hgv
  obtain ⟨k', E', A', L', T', h1, h2, h3⟩ := law_runs (S := (gL G, gxs G)) (d := 1991) (by show gL G ≤ 3584; rw [e2]; exact hL)
  refine law_of G C0 hO hK e4 e5 hst (law_snd (S := (gL G, gxs G)) (M := MT) (MY := MYT) (dfl := dflT) (EL := E_L_law) rfl hst mt_map mt_ok v_L_law rfl rfl h1 ?_ ?_)
  · rw [Hh_len]; have h9 : 100000 ≤ rmC := by decide +kernel
    exact Nat.le_trans (by omega) h9
  · unfold Hh
    rw [sz_HP, esz_app]
    have := sz_D0 (k := k')
    have h9 : 3000000 ≤ rmS := by decide +kernel
    exact Nat.le_trans (by omega) h9
end TheEnd
