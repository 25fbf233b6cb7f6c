/-! RULES: throwing, a callee that throws, catching -/
section GoThrow
variable {G : gC} {d mc ms : Nat} {Y : mY} {pc : Nat} {loc : List (Option Value)} {st : List Value} {h h' : pH} {R : rS}
/-- the making and throwing of a cls with a text, whose entries are ik, is, ic -/
def TH (own : String) (ik is ic i : Nat) (cls : String) : Prop := Bundle.fit cls = true ∧ (∃ q : String × Nat × String, strT[i]? = some q ∧ q.1 = own ∧ q.2.1 = is) ∧ Cond.classLink own ik cls ∈ TBg ∧ Cond.initialized cls ∈ TBg ∧ (∀ w ∈ vx_atS own ic cls ["java/lang/RuntimeException", "java/lang/Exception"], w ∈ faceW) ∧ (∀ w ∈ Cond.classLink own ik cls :: Cond.initialized cls :: vx_atS own ic cls ["java/lang/RuntimeException", "java/lang/Exception"], vx_ot w = true)
theorem fit_names : ∀ n ∈ ["java/lang/RuntimeException", "java/lang/Exception"], Bundle.fit n = true := by decide
theorem xc_here {ad : Nat → Nat} {H : Heap} {s : State} {locs : List Loc} {cls : String} (x1 : va_P (gD G) vwCl (wsO G ad h) H) (x2 : va_D (gA G) (wsO G ad h)) (x3 : va_S (gA G) s.heap H locs) (x4 : okH h) :
    ∀ t : State, s.vm.Alike t.vm → H.size ≤ t.heap.size → (∀ q : Nat, q < H.size → t.heap[q]? = H[q]?) → XcE G ad h.length cls h cls s t := fun t _ hz hk =>
  ⟨rfl, ad, adX.rf, Nat.le_refl _, x1.kept (fun k q hq => hk q.1 (x1 k q hq).lt), x2, ⟨Nat.le_trans x3.1 hz, fun q g1 g2 => (hk q (Nat.lt_of_lt_of_le g1 x3.1)).trans (x3.2.1 q g1 g2)⟩, x4⟩
theorem SX.tab {p : Program} {s : State} {m : MethodId} {args : Array Value} {meth : Method} {c : Code} (S : SX G Y p s m args meth c) (hn : (mYn Y).name ≠ "law") : c.exceptionTable.toList = tableOf (mYh Y) := S.2.2.2.2.2.2.2.1.resolve_left hn
theorem go_throwW {ik is ic i : Nat} {cls : String} (hnl : (mYn Y).name ≠ "law") (F : TH (mYn Y).cls ik is ic i cls) (hh : mYh Y = []) (h8 : (st.map (fun v => v.category)).sum ≤ 8)
    (d0 : decode (mYc Y) pc = .ok (.new ik, 3)) (d3 : decode (mYc Y) (pc + 3) = .ok (.dup, 1)) (d4 : decode (mYc Y) (pc + 4) = .ok (.ldc_w is, 3)) (d7 : decode (mYc Y) (pc + 7) = .ok (.invokespecial ic, 3)) (d10 : decode (mYc Y) (pc + 10) = .ok (.athrow, 1)) :
    Go G d (mc + 1) (ms + 6) Y pc loc st h (.inr cls) h := by
  intro p e s m args below meth c H locs cells slots MC MS ad ls S X
  obtain ⟨x1, x2, x3, x4, x5, x6, x7, x8, x9⟩ := X
  obtain ⟨f1, ⟨q, f2, f3, f4⟩, f5, f6, f7, f8⟩ := F
  have hR := S.o.2.2.2.2.2.1 i q f2
  rw [f3, f4] at hR
  have hout : ∀ x ∈ c.exceptionTable.toList, covers x (pc + 10) = false := by
    rw [S.tab hnl, hh]; intro x hx; cases hx
  show W p (gl G) e (rmR d MC MS) s m args below meth c H locs cells slots (vx_MQ below Qno (XcE G ad h.length cls h) args s MC MS (gA G)) (F0 m pc ls (st.map (cvV G ad)))
  refine vx_throwSW S.1 S.2.1 S.2.2.2.2.2.2.2.2.2.2.2.2 (names := ["java/lang/RuntimeException", "java/lang/Exception"]) S.2.2.2.1 f1 fit_names (S.2.2.2.2.1 _ f5) (S.2.2.2.2.1 _ f6) hR (fun w hw => va_Nw.use (Bool.and_eq_true_iff.mp (List.mem_filter.mp (f7 w hw)).2).2 (S.o.2.2.2.2.2.2.2.2.2 w (f7 w hw))) f8 S.o.2.2.1 S.o.2.2.2.1 x3 (x7.1.trans S.2.2.1.symm) d0 d3 d4 d7 d10 hout ?_ ?_ ?_ ?_ S.2.2.2.2.2.2.1 (xc_here x1 x2 x3 x4) (fun z hz => x3.2.2 z hz) ?_ ?_
  · show 2 + 3 < 16 + d; omega
  · have := catsum (G := G) (ad := ad) h8
    show _ + (13 * (2 + 1) + 43) ≤ 928 + 46 * d
    omega
  · show cells + 1 ≤ MC; omega
  · show slots + 6 ≤ MS; omega
  · omega
  · omega
/-- behind a call that threw: it goes on to the caller -/
theorem go_thr {rest : List Value} {E : String} {h1 : pH} {mc1 ms1 : Nat} {a9 : Array Value} (hnl : (mYn Y).name ≠ "law") (hh : mYh Y = [])
    (row : ∀ (p : Program) (e : Env) (s : State) (m : MethodId) (args : Array Value) (below : List Frame) (meth : Method) (c : Code) (H : Heap) (locs : List Loc) (cells slots MC MS : Nat) (ad : Nat → Nat) (ls : Array Slot),
      SX G Y p s m args meth c → DX G Y ad h H s locs ls loc st cells slots (mc1 + mc) (ms1 + ms) MC MS →
      vx_Run p (gl G) e (rmR d MC MS) s m args below meth c H locs cells slots mc1 ms1 (F0 m pc ls (st.map (cvV G ad))) (rest.map (cvV G ad)) (Qno a9) (XcE G ad h.length E h1) (gA G)) : Go G d (mc1 + mc) (ms1 + ms) Y pc loc st h (.inr E) h1 := by
  intro p e s m args below meth c H locs cells slots MC MS ad ls S X T hT XT
  have hr := row p e s m args below meth c H locs cells slots MC MS ad ls S X T hT XT
  obtain ⟨x1, x2, x3, x4, x5, x6, x7, x8, x9⟩ := X
  rcases hr with ⟨v', st₀, t, T', L, h0, X', hL, e1, e2, hq, stp⟩ | ⟨q, st₀, t, T', L, E', ce, h0, X', hL, e1, e2, ⟨e3, ad', ea, hn, f1, f2, f3, f4⟩, hce, hcv, hcl, stp⟩
  · exact hq.elim
  · subst e3
    have hz : H.size ≤ t.heap.size := by rw [← h0]; exact f3.1
    have hk : ∀ q : Nat, q < H.size → ¬ gA G q → t.heap[q]? = H[q]? := fun q hq hA => by
      have := f3.2 q (by rw [h0]; exact hq) hA
      rw [h0] at this; exact this
    have hout : ∀ x ∈ c.exceptionTable.toList, covers x pc = false := by
      rw [S.tab hnl, hh]; intro x hx; cases hx
    have K : vx_W p (gl G) e (rmR d MC MS) s m args below meth c T'.heap (locs ++ L) (cells + mc1) (slots + ms1) (vx_MQ below Qno (XcE G ad h.length E' h1) args s MC MS (gA G)) (F0 m pc ls (rest.map (cvV G ad))) q := by
      refine vx_out hout S.2.2.2.2.2.2.1 (by rw [e1]; exact hce) hcv hcl (fun t9 ht9 _ => ⟨rfl, ad', ea, hn, by rw [ht9, e1]; exact f1, f2, ⟨?_, fun q g1 g2 => ?_⟩, f4⟩) (fun z hz => ?_) (by omega) (by omega)
      · rw [ht9, e1]; exact Nat.le_trans x3.1 hz
      · rw [ht9, e1, hk q (Nat.lt_of_lt_of_le g1 x3.1) g2]; exact x3.2.1 q g1 g2
      · rcases List.mem_append.mp hz with q1 | q1
        · exact x3.2.2 z q1
        · exact hL z q1
    obtain ⟨t2, a1, b1⟩ := K T' rfl X'
    exact ⟨t2, stp.trans a1, b1⟩
theorem go_throwS {idx n mc1 ms1 : Nat} {Z : mY} {h1 : pH} {E0 : String} (av : List Value) {rest : List Value} (hd : decode (mYc Y) pc = .ok (.invokestatic idx, 3)) (F : CS (mYn Y).cls idx Z n) (E : Ev G d mc1 ms1 Z av h (.inr E0) h1) (hnl : (mYn Y).name ≠ "law") (hh : mYh Y = []) (hst : st = av.reverse ++ rest) (hn : av.length = n) (h8 : (rest.map (fun v => v.category)).sum ≤ 8) :
    Go G (d + 1) (mc1 + mc) (ms1 + ms) Y pc loc st h (.inr E0) h1 := by
  subst hst
  obtain ⟨f3, f4, f5, f6, f8, f9, f10⟩ := F
  refine go_thr (rest := rest) (a9 := #[]) hnl hh (fun p e s m args below meth c H locs cells slots MC MS ad ls S X => ?_)
  obtain ⟨x1, x2, x3, x4, x5, x6, x7, x8, x9⟩ := X
  have hM := E ad x4 (fun w hw => x6 w (by simp [hw]))
  have hm : (av.reverse ++ rest).map (cvV G ad) = (av.map (cvV G ad)).reverse ++ rest.map (cvV G ad) := by simp
  rw [hm]
  exact vx_runS (As := av.map (cvV G ad)) ⟨S.1, S.2.1, S.2.2.1, S.2.2.2.1, S.2.2.2.2.1⟩ hM
    (va_cwS n S.2.2.2.2.1 (TBg_good (fun w hw => by
      simp only [va_wsS, List.mem_append, List.mem_cons, List.not_mem_nil, or_false] at hw
      rcases hw with (rfl | rfl | rfl) | hw
      · exact f5
      · exact f6
      · exact f8
      · rw [mYw_of f3] at hw
        rcases List.mem_cons.mp hw with rfl | hw
        · exact f9
        · exact hw)) (mYw_of f3) rfl rfl f10 ⟨show 16 + d + 1 ≤ 16 + (d + 1) by omega, show 8 + (mYl Z + 11) + (928 + 46 * d) ≤ 928 + 46 * (d + 1) by omega⟩)
    ⟨pc_blind, pre_of (av := av) S x1 x2 x3⟩ rfl (by rw [List.length_map]; exact hn) x7.1 rfl (by show 2 * 0 + _ ≤ 8; rw [Nat.mul_zero, Nat.zero_add]; exact catsum h8) hd ⟨show cells + mc1 ≤ MC by omega, show slots + ms1 ≤ MS by omega⟩
theorem runV_x {idx ci a n mc1 ms1 : Nat} {Z : mY} {fs : List Value} {h1 : pH} {E0 : String} {av rest : List Value} (hd : decode (mYc Y) pc = .ok (.invokevirtual idx, 3)) (F : CV (mYn Y).cls idx ci Z n) (E : Ev G d mc1 ms1 Z (.ref a :: av) h (.inr E0) h1) (ha : h[a]? = some (.inr (ci, fs))) (hn : av.length = n) (h8 : (rest.map (fun v => v.category)).sum ≤ 8)
    {p : Program} {e : Env} {s : State} {m : MethodId} {args : Array Value} {below : List Frame} {meth : Method} {c : Code} {H : Heap} {locs : List Loc} {cells slots MC MS : Nat} {ad : Nat → Nat} {ls : Array Slot} (S : SX G Y p s m args meth c) (X : DX G Y ad h H s locs ls loc (av.reverse ++ .ref a :: rest) cells slots (mc1 + mc) (ms1 + ms) MC MS) :
    vx_Run p (gl G) e (rmR (d + 1) MC MS) s m args below meth c H locs cells slots mc1 ms1 (F0 m pc ls ((av.reverse ++ .ref a :: rest).map (cvV G ad))) (rest.map (cvV G ad)) (Qno #[]) (XcE G ad h.length E0 h1) (gA G) := by
  obtain ⟨q, f1, f2, f3, f4, f5, f6, f7, f8, f9, f10⟩ := F
  obtain ⟨x1, x2, x3, x4, x5, x6, x7, x8, x9⟩ := X
  have hM := E ad x4 (okS_i (x6 (.ref a) (by simp)) (fun w hw => x6 w (by simp [hw])))
  have hm : (av.reverse ++ .ref a :: rest).map (cvV G ad) = (av.map (cvV G ad)).reverse ++ .ref (ad a) :: rest.map (cvV G ad) := by simp [cvV]
  rw [hm]
  exact vx_runV (As := av.map (cvV G ad)) (b := ad a) ⟨S.1, S.2.1, S.2.2.1, S.2.2.2.1, S.2.2.2.2.1⟩ hM
    (cwV n S.2.2.2.2.1 (TBg_good (fun w hw => by
      simp only [wsV, List.mem_append, List.mem_cons, List.not_mem_nil, or_false] at hw
      rcases hw with (rfl | rfl | rfl | rfl) | hw
      · exact f5
      · exact f6
      · exact f7
      · exact f8
      · rw [mYw_of f3] at hw
        rcases List.mem_cons.mp hw with rfl | hw
        · exact f9
        · exact hw)) (mYw_of f3) rfl rfl ⟨f2, f10⟩ ⟨show 16 + d + 1 ≤ 16 + (d + 1) by omega, show 8 + (mYl Z + 11) + (928 + 46 * d) ≤ 928 + 46 * (d + 1) by omega⟩)
    ⟨pc_blind, va_recv S.2.2.2.2.2.2.2.2.2.2.1 x1 f1 (q0 := a) (fs := fs.map (cvV G ad)) (by rw [wsO_at, ha]; rfl), pre_of (av := .ref a :: av) S x1 x2 x3⟩ rfl (by rw [List.length_map]; exact hn) x7.1 rfl (by show 2 * 0 + _ ≤ 8; rw [Nat.mul_zero, Nat.zero_add]; exact catsum h8) hd ⟨show cells + mc1 ≤ MC by omega, show slots + ms1 ≤ MS by omega⟩
theorem go_throwV {idx ci a n mc1 ms1 : Nat} {Z : mY} {fs : List Value} {h1 : pH} {E0 : String} (av : List Value) {rest : List Value} (hd : decode (mYc Y) pc = .ok (.invokevirtual idx, 3)) (F : CV (mYn Y).cls idx ci Z n) (E : Ev G d mc1 ms1 Z (.ref a :: av) h (.inr E0) h1) (ha : h[a]? = some (.inr (ci, fs))) (hnl : (mYn Y).name ≠ "law") (hh : mYh Y = []) (hst : st = av.reverse ++ .ref a :: rest) (hn : av.length = n) (h8 : (rest.map (fun v => v.category)).sum ≤ 8) :
    Go G (d + 1) (mc1 + mc) (ms1 + ms) Y pc loc st h (.inr E0) h1 := by
  subst hst
  exact go_thr (rest := rest) (a9 := #[]) hnl hh (fun p e s m args below meth c H locs cells slots MC MS ad ls S X => runV_x hd F E ha hn h8 S X)
end GoThrow
