/-! RULES: calls of methods that return -/
section GoCall
variable {G : gC} {d mc ms : Nat} {Y : mY} {pc : Nat} {loc : List (Option Value)} {st : List Value} {h h' : pH} {R : rS}
theorem TBg_good {ws : List Cond} (hw : ∀ w ∈ ws, w ∈ TBg) : GoodIn TBg ws := fun w h => ⟨hw w h, good_of_word (List.mem_filter.mp (hw w h)).2⟩
/-- behind a call that returned -/
theorem go_ret {rest : List Value} {v : Option Value} {h1 : pH} {mc1 ms1 : Nat} {a9 : Array Value} (hs : ∀ n, okS n st → okS n rest)
    (row : ∀ (p : Program) (e : Env) (s : State) (m : MethodId) (args : Array Value) (below : List Frame) (meth : Method) (c : Code) (H : Heap) (locs : List Loc) (cells slots MC MS : Nat) (ad : Nat → Nat) (ls : Array Slot),
      SX G Y p s m args meth c → DX G Y ad h H s locs ls loc st cells slots (mc1 + mc) (ms1 + ms) MC MS →
      va_Run p (gl G) e (rmR d MC MS) s m args below meth c H locs cells slots mc1 ms1 (F0 m pc ls (st.map (cvV G ad))) (rest.map (cvV G ad)) (QcR G ad h.length v h1 a9) (gA G))
    (kk : Go G d mc ms Y (pc + 3) loc (v.toList ++ rest) h1 R h') : Go G d (mc1 + mc) (ms1 + ms) Y pc loc st h R h' := by
  intro p e s m args below meth c H locs cells slots MC MS ad ls S X T hT XT
  have hr := row p e s m args below meth c H locs cells slots MC MS ad ls S X T hT XT
  obtain ⟨x1, x2, x3, x4, x5, x6, x7, x8, x9⟩ := X
  obtain ⟨v', st₀, t, T', L, h0, X', hL, e1, e2, ⟨ad', ea, hn, ⟨f1, f2, f3, f4⟩, ho, hv⟩, stp⟩ := hr
  cases hv
  have hz : H.size ≤ t.heap.size := by rw [← h0]; exact f3.1
  have hk : ∀ q : Nat, q < H.size → ¬ gA G q → t.heap[q]? = H[q]? := fun q hq hA => by
    have := f3.2 q (by rw [h0]; exact hq) hA
    rw [h0] at this; exact this
  have hS1 : va_S (gA G) s.heap T'.heap (locs ++ L) := by
    refine ⟨Nat.le_trans x3.1 (by rw [e1]; exact hz), fun q g1 g2 => ?_, fun q hq => ?_⟩
    · rw [e1, hk q (Nat.lt_of_lt_of_le g1 x3.1) g2]; exact x3.2.1 q g1 g2
    · rcases List.mem_append.mp hq with q1 | q1
      · exact x3.2.2 q q1
      · exact hL q q1
  have hmap : (v.map (cvV G ad')).toList ++ rest.map (cvV G ad) = (v.toList ++ rest).map (cvV G ad') := by
    rw [List.map_append, cvS_x ea (hs _ x6)]
    cases v <;> rfl
  have K := W_mono (QF_mono (G := G) (below := below) (args := args) (s := s) (MC := MC) (MS := MS) (R := R) (h' := h') hn ea) (kk p e s m args below meth c T'.heap (locs ++ L) (cells + mc1) (slots + ms1) MC MS ad' ls S ⟨by rw [e1]; exact f1, f2, hS1, f4, okL_mono hn x5, ?_, by rw [lcv_x ea x5]; exact x7, by omega, by omega⟩)
  · obtain ⟨t2, a1, b1⟩ := K T' rfl X'
    rw [← hmap] at a1
    exact ⟨t2, stp t2 a1, b1⟩
  · intro w hw
    rcases List.mem_append.mp hw with q | q
    · cases v with
      | none => cases q
      | some z => cases List.mem_singleton.mp q; exact ho _ rfl
    · exact okV_mono hn (hs _ x6 w q)
/-- the callee's start, out of the caller's state -/
theorem pre_of {Y : mY} {p : Program} {s : State} {m : MethodId} {args : Array Value} {meth : Method} {c : Code} {ad : Nat → Nat} {H : Heap} {locs : List Loc} {av : List Value} (S : SX G Y p s m args meth c) (x1 : va_P (gD G) vwCl (wsO G ad h) H) (x2 : va_D (gA G) (wsO G ad h)) (x3 : va_S (gA G) s.heap H locs) :
    ∀ U : State, U.heap = H → s.WarmedH U.vm → PcE G ad av h (av.map (cvV G ad)).toArray U := fun U hU hW =>
  ⟨rfl, Old.go hW (by rw [hU]; exact x3.1) (fun q g1 g2 => by rw [hU]; exact x3.2.1 q g1 g2) S.2.2.2.2.2.2.2.2.2.1, va_K.moved hW.alike S.2.2.2.2.2.2.2.2.2.2.1, by rw [hU]; exact x1, x2⟩
theorem catsum {ad : Nat → Nat} {rest : List Value} (hr : (rest.map (fun v => v.category)).sum ≤ 8) : ((rest.map (cvV G ad)).map fun v => v.category).sum ≤ 8 := by
  have e : ((rest.map (cvV G ad)).map fun v => v.category) = rest.map (fun v => v.category) := by
    rw [List.map_map]; exact List.map_congr_left fun v _ => cat_cv v
  rw [e]; exact hr
/-- the entry idx of class own is the instance method Z of the class numbered ci -/
def CV (own : String) (idx ci : Nat) (Z : mY) (n : Nat) : Prop := ∃ q : vw_C, vwCl[ci]? = some q ∧ (mYn Z).cls = q.1 ∧ mYh Z = [] ∧ mYl Z ≤ 27 ∧ Cond.methodLink own idx (mYn Z) ∈ TBg ∧ Cond.instanceMethod (mYn Z) ∈ TBg ∧ Cond.selects q.1 (mYn Z) (mYn Z) ∈ TBg ∧ Cond.initialized q.1 ∈ TBg ∧ Cond.code (mYn Z) (mYc Z) (mYl Z) (mYr Z) ∈ TBg ∧
  ((mYn Z).cls ≠ "java/lang/invoke/MethodHandle" ∧ (mYn Z).cls ≠ "java/lang/invoke/VarHandle" ∧ (parseMethodDescriptor (mYn Z).desc).map (fun d => d.parameters.length) = some n)
theorem mYw_of {Z : mY} (hh : mYh Z = []) : mYw Z = Cond.code (mYn Z) (mYc Z) (mYl Z) (mYr Z) :: TBg := by simp only [mYw, hh]
theorem go_callV {idx ci a n mc1 ms1 : Nat} {Z : mY} {fs : List Value} {h1 : pH} {v : Option Value} (av : List Value) {rest : List Value} (hd : decode (mYc Y) pc = .ok (.invokevirtual idx, 3)) (F : CV (mYn Y).cls idx ci Z n) (E : Ev G d mc1 ms1 Z (.ref a :: av) h (.inl v) h1) (ha : h[a]? = some (.inr (ci, fs))) (hst : st = av.reverse ++ .ref a :: rest) (hn : av.length = n) (h8 : (rest.map (fun v => v.category)).sum ≤ 8)
    (kk : Go G (d + 1) mc ms Y (pc + 3) loc (v.toList ++ rest) h1 R h') : Go G (d + 1) (mc1 + mc) (ms1 + ms) Y pc loc st h R h' := by
  subst hst
  obtain ⟨q, f1, f2, f3, f4, f5, f6, f7, f8, f9, f10⟩ := F
  refine go_ret (a9 := #[]) (fun n hs w hw => hs w (by simp [hw])) (fun p e s m args below meth c H locs cells slots MC MS ad ls S X => ?_) kk
  obtain ⟨x1, x2, x3, x4, x5, x6, x7, x8, x9⟩ := X
  have hM := E ad x4 (okS_i (x6 (.ref a) (by simp)) (fun w hw => x6 w (by simp [hw])))
  have hm : (av.reverse ++ .ref a :: rest).map (cvV G ad) = (av.map (cvV G ad)).reverse ++ .ref (ad a) :: rest.map (cvV G ad) := by simp [cvV]
  rw [hm]
  exact va_runV (As := av.map (cvV G ad)) (b := ad a) ⟨S.1, S.2.1, S.2.2.1, S.2.2.2.1, S.2.2.2.2.1⟩ hM
    (cwV n S.2.2.2.2.1 (TBg_good (fun w hw => by
      simp only [wsV, List.mem_append, List.mem_cons, List.not_mem_nil, or_false] at hw
      rcases hw with (rfl | rfl | rfl | rfl) | hw
      · exact f5
      · exact f6
      · exact f7
      · exact f8
      · rw [mYw_of f3] at hw
        rcases List.mem_cons.mp hw with rfl | hw
        · exact f9
        · exact hw)) (mYw_of f3) rfl rfl ⟨f2, f10⟩ ⟨show 16 + d + 1 ≤ 16 + (d + 1) by omega, show 8 + (mYl Z + 11) + (928 + 46 * d) ≤ 928 + 46 * (d + 1) by omega⟩)
    ⟨pc_blind, va_recv S.2.2.2.2.2.2.2.2.2.2.1 x1 f1 (q0 := a) (fs := fs.map (cvV G ad)) (by rw [wsO_at, ha]; rfl), pre_of (av := .ref a :: av) S x1 x2 x3⟩ rfl (by rw [List.length_map]; exact hn) x7.1 rfl (by show 2 * 0 + _ ≤ 8; rw [Nat.mul_zero, Nat.zero_add]; exact catsum h8) hd ⟨show cells + mc1 ≤ MC by omega, show slots + ms1 ≤ MS by omega⟩
/-- .. the static method Z -/
def CS (own : String) (idx : Nat) (Z : mY) (n : Nat) : Prop := mYh Z = [] ∧ mYl Z ≤ 27 ∧ Cond.methodLink own idx (mYn Z) ∈ TBg ∧ Cond.static (mYn Z) ∈ TBg ∧ Cond.initialized (mYn Z).cls ∈ TBg ∧ Cond.code (mYn Z) (mYc Z) (mYl Z) (mYr Z) ∈ TBg ∧
  ((mYn Z).cls ≠ "java/lang/invoke/MethodHandle" ∧ (mYn Z).cls ≠ "java/lang/invoke/VarHandle" ∧ (parseMethodDescriptor (mYn Z).desc).map (fun d => d.parameters.length) = some n)
theorem go_callS {idx n mc1 ms1 : Nat} {Z : mY} {h1 : pH} {v : Option Value} (av : List Value) {rest : List Value} (hd : decode (mYc Y) pc = .ok (.invokestatic idx, 3)) (F : CS (mYn Y).cls idx Z n) (E : Ev G d mc1 ms1 Z av h (.inl v) h1) (hst : st = av.reverse ++ rest) (hn : av.length = n) (h8 : (rest.map (fun v => v.category)).sum ≤ 8)
    (kk : Go G (d + 1) mc ms Y (pc + 3) loc (v.toList ++ rest) h1 R h') : Go G (d + 1) (mc1 + mc) (ms1 + ms) Y pc loc st h R h' := by
  subst hst
  obtain ⟨f3, f4, f5, f6, f8, f9, f10⟩ := F
  refine go_ret (a9 := #[]) (fun n hs w hw => hs w (by simp [hw])) (fun p e s m args below meth c H locs cells slots MC MS ad ls S X => ?_) kk
  obtain ⟨x1, x2, x3, x4, x5, x6, x7, x8, x9⟩ := X
  have hM := E ad x4 (fun w hw => x6 w (by simp [hw]))
  have hm : (av.reverse ++ rest).map (cvV G ad) = (av.map (cvV G ad)).reverse ++ rest.map (cvV G ad) := by simp
  rw [hm]
  exact va_runS (As := av.map (cvV G ad)) ⟨S.1, S.2.1, S.2.2.1, S.2.2.2.1, S.2.2.2.2.1⟩ hM
    (va_cwS n S.2.2.2.2.1 (TBg_good (fun w hw => by
      simp only [va_wsS, List.mem_append, List.mem_cons, List.not_mem_nil, or_false] at hw
      rcases hw with (rfl | rfl | rfl) | hw
      · exact f5
      · exact f6
      · exact f8
      · rw [mYw_of f3] at hw
        rcases List.mem_cons.mp hw with rfl | hw
        · exact f9
        · exact hw)) (mYw_of f3) rfl rfl f10 ⟨show 16 + d + 1 ≤ 16 + (d + 1) by omega, show 8 + (mYl Z + 11) + (928 + 46 * d) ≤ 928 + 46 * (d + 1) by omega⟩)
    ⟨pc_blind, pre_of (av := av) S x1 x2 x3⟩ rfl (by rw [List.length_map]; exact hn) x7.1 rfl (by show 2 * 0 + _ ≤ 8; rw [Nat.mul_zero, Nat.zero_add]; exact catsum h8) hd ⟨show cells + mc1 ≤ MC by omega, show slots + ms1 ≤ MS by omega⟩
/-- .. the constructor Z -/
def CI (own : String) (idx : Nat) (Z : mY) (n : Nat) : Prop := mYh Z = [] ∧ mYl Z ≤ 27 ∧ mYr Z = none ∧ (mYn Z).name = "<init>" ∧ Cond.methodLink own idx (mYn Z) ∈ TBg ∧ Cond.instanceMethod (mYn Z) ∈ TBg ∧ Cond.initialized (mYn Z).cls ∈ TBg ∧ Cond.code (mYn Z) (mYc Z) (mYl Z) none ∈ TBg ∧
  ((mYn Z).cls ≠ "java/lang/invoke/MethodHandle" ∧ (mYn Z).cls ≠ "java/lang/invoke/VarHandle" ∧ (parseMethodDescriptor (mYn Z).desc).map (fun d => d.parameters.length) = some n)
theorem go_callI {idx a n mc1 ms1 : Nat} {Z : mY} {h1 : pH} {v : Option Value} (av : List Value) {rest : List Value} (hd : decode (mYc Y) pc = .ok (.invokespecial idx, 3)) (F : CI (mYn Y).cls idx Z n) (E : Ev G d mc1 ms1 Z (.ref a :: av) h (.inl v) h1) (hst : st = av.reverse ++ .ref a :: rest) (hn : av.length = n) (h8 : (rest.map (fun v => v.category)).sum ≤ 8)
    (kk : Go G (d + 1) mc ms Y (pc + 3) loc (v.toList ++ rest) h1 R h') : Go G (d + 1) (mc1 + mc) (ms1 + ms) Y pc loc st h R h' := by
  subst hst
  obtain ⟨f3, f4, fr, f2, f5, f6, f8, f9, f10⟩ := F
  refine go_ret (a9 := #[]) (fun n hs w hw => hs w (by simp [hw])) (fun p e s m args below meth c H locs cells slots MC MS ad ls S X => ?_) kk
  obtain ⟨x1, x2, x3, x4, x5, x6, x7, x8, x9⟩ := X
  have hM := E ad x4 (okS_i (x6 (.ref a) (by simp)) (fun w hw => x6 w (by simp [hw])))
  have hm : (av.reverse ++ .ref a :: rest).map (cvV G ad) = (av.map (cvV G ad)).reverse ++ .ref (ad a) :: rest.map (cvV G ad) := by simp [cvV]
  rw [hm]
  have hw0 : mYw Z = Cond.code (mYn Z) (mYc Z) (mYl Z) none :: TBg := by rw [mYw_of f3, fr]
  exact va_runI (As := av.map (cvV G ad)) (b := ad a) ⟨S.1, S.2.1, S.2.2.1, S.2.2.2.1, S.2.2.2.2.1⟩ hM
    (cwI n S.2.2.2.2.1 (TBg_good (fun w hw => by
      rw [hw0] at hw
      rcases List.mem_cons.mp hw with rfl | hw
      · exact f9
      · exact hw)) hw0 rfl rfl (S.2.2.2.2.1 _ f8) (S.2.2.2.2.1 _ f5) (S.2.2.2.2.1 _ f6) f2 f10 ⟨show 16 + d + 1 ≤ 16 + (d + 1) by omega, show 8 + (mYl Z + 11) + (928 + 46 * d) ≤ 928 + 46 * (d + 1) by omega⟩)
    ⟨pc_blind, pre_of (av := .ref a :: av) S x1 x2 x3⟩ rfl (by rw [List.length_map]; exact hn) x7.1 rfl (by show 2 * 0 + _ ≤ 8; rw [Nat.mul_zero, Nat.zero_add]; exact catsum h8) hd ⟨show cells + mc1 ≤ MC by omega, show slots + ms1 ≤ MS by omega⟩
end GoCall
