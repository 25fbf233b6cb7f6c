/-! RULES: nest calls, copying, catching, bodies with handlers -/
section GoMore
variable {G : gC} {d mc ms : Nat} {Y : mY} {pc : Nat} {loc : List (Option Value)} {st : List Value} {h h' : pH} {R : rS}
/-- the entry idx of class own is the nest mate's static method Z -/
def CN (own : String) (idx j : Nat) (Z : mY) (n : Nat) : Prop := (∃ host : String, nestT[j]? = some (own, idx, mYn Z, host)) ∧ mYh Z = [] ∧ mYl Z ≤ 27 ∧ Cond.static (mYn Z) ∈ TBg ∧ Cond.initialized (mYn Z).cls ∈ TBg ∧ Cond.code (mYn Z) (mYc Z) (mYl Z) (mYr Z) ∈ TBg ∧
  ((mYn Z).cls ≠ "java/lang/invoke/MethodHandle" ∧ (mYn Z).cls ≠ "java/lang/invoke/VarHandle" ∧ (parseMethodDescriptor (mYn Z).desc).map (fun d => d.parameters.length) = some n)
theorem go_callN {idx j n mc1 ms1 : Nat} {Z : mY} {h1 : pH} {v : Option Value} (av : List Value) {rest : List Value} (hd : decode (mYc Y) pc = .ok (.invokestatic idx, 3)) (F : CN (mYn Y).cls idx j Z n) (E : Ev G d mc1 ms1 Z av h (.inl v) h1) (hst : st = av.reverse ++ rest) (hn : av.length = n) (h8 : (rest.map (fun v => v.category)).sum ≤ 8)
    (kk : Go G (d + 1) mc ms Y (pc + 3) loc (v.toList ++ rest) h1 R h') : Go G (d + 1) (mc1 + mc) (ms1 + ms) Y pc loc st h R h' := by
  subst hst
  obtain ⟨⟨host, f5⟩, f3, f4, f6, f8, f9, f10⟩ := F
  refine go_ret (a9 := #[]) (fun n hs w hw => hs w (by simp [hw])) (fun p e s m args below meth c H locs cells slots MC MS ad ls S X => ?_) kk
  obtain ⟨x1, x2, x3, x4, x5, x6, x7, x8, x9⟩ := X
  have hM := E ad x4 (fun w hw => x6 w (by simp [hw]))
  have hm : (av.reverse ++ rest).map (cvV G ad) = (av.map (cvV G ad)).reverse ++ rest.map (cvV G ad) := by simp
  rw [hm]
  have hN := S.o.2.2.2.2.2.2.2.1 j _ f5
  exact va_runSN (As := av.map (cvV G ad)) ⟨S.1, S.2.1, S.2.2.1, S.2.2.2.1, S.2.2.2.2.1⟩ hM
    ⟨va_cnB n S.2.2.2.2.1 (TBg_good (fun w hw => by
      rw [mYw_of f3] at hw
      rcases List.mem_cons.mp hw with rfl | hw
      · exact f9
      · exact hw)) (mYw_of f3) rfl rfl hN (S.2.2.2.2.1 _ f8) f10 ⟨show 16 + d + 1 ≤ 16 + (d + 1) by omega, show 8 + (mYl Z + 11) + (928 + 46 * d) ≤ 928 + 46 * (d + 1) by omega⟩, S.2.2.2.2.1 _ f6, trivial⟩
    ⟨pc_blind, pre_of (av := av) S x1 x2 x3⟩ rfl (by rw [List.length_map]; exact hn) x7.1 rfl (by show 2 * 0 + _ ≤ 8; rw [Nat.mul_zero, Nat.zero_add]; exact catsum h8) hd ⟨show cells + mc1 ≤ MC by omega, show slots + ms1 ≤ MS by omega⟩
theorem go_copyI {idx a b n0 n1 : Nat} {f g : Nat → Int32} {sp dp n : Int32} (hd : decode (mYc Y) pc = .ok (.invokestatic idx, 3)) (w1 : Cond.methodLink (mYn Y).cls idx arraycopyName ∈ TBg) (w2 : Cond.native arraycopyName ∈ TBg) (w3 : Cond.static arraycopyName ∈ TBg) (w4 : Cond.initialized "java/lang/System" ∈ TBg)
    (ha : h[a]? = some (.inl (0, n0, .inl f))) (hb : h[b]? = some (.inl (0, n1, .inl g))) (h1 : ¬ sp < 0) (h2 : ¬ dp < 0) (h3 : ¬ n < 0) (h4 : sp.toNatClampNeg + n.toNatClampNeg ≤ n0) (h5 : dp.toNatClampNeg + n.toNatClampNeg ≤ n1) (h8 : (st.map (fun v => v.category)).sum ≤ 8)
    (kk : Go G d mc ms Y (pc + 3) loc st (h.set b (.inl (0, n1, .inl (va_cpy f g sp.toNatClampNeg dp.toNatClampNeg n.toNatClampNeg)))) R h') : Go G d mc ms Y pc loc (.int n :: .int dp :: .ref b :: .int sp :: .ref a :: st) h R h' := by
  intro p e s m args below meth c H locs cells slots MC MS ad ls S X
  obtain ⟨x1, x2, x3, x4, x5, x6, x7, x8, x9⟩ := X
  refine va_copyi S.1 S.2.1 (S.2.2.1.trans x7.1.symm) S.2.2.2.1 (S.2.2.2.2.1 _ w1) (S.2.2.2.2.1 _ w2) (S.2.2.2.2.1 _ w3) (S.2.2.2.2.1 _ w4) S.2.2.2.2.2.2.2.2.2.2.1 x1 x2 x3 a b 0 0 (c0 := gtc G 0) (c1 := gtc G 0) (n0 := n0) (n1 := n1) (f := f) (g := g) (ty := .int) (by rw [wsO_at, ha]; rfl) (by rw [wsO_at, hb]; rfl) rfl rfl rfl h1 h2 h3 h4 h5 (fun _ _ => rfl) (show 1 ≤ 16 + d by omega) ?_ hd (fun H1 locs1 hP hD hS1 => ?_)
  · have := catsum (G := G) (ad := ad) h8
    have e9 : nativeFrameWords "java/lang/System" "arraycopy" 5 ≤ 300 := by decide +kernel
    show _ + _ ≤ 928 + 46 * d
    omega
  · have e1 : (wsO G ad h).set b (ad b, .inl (gtc G 0, n1, .inl (va_cpy f g sp.toNatClampNeg dp.toNatClampNeg n.toNatClampNeg))) = wsO G ad (h.set b (.inl (0, n1, .inl (va_cpy f g sp.toNatClampNeg dp.toNatClampNeg n.toNatClampNeg)))) := wsO_set (c := .inl (0, n1, .inl (va_cpy f g sp.toNatClampNeg dp.toNatClampNeg n.toNatClampNeg)))
    rw [e1] at hP hD
    refine W_mono (QF_mono (by rw [List.length_set]; exact Nat.le_refl _) adX.rf) (kk p e s m args below meth c H1 locs1 cells slots MC MS ad ls S ⟨hP, hD, hS1, okH_set x4 trivial, ?_, ?_, x7, x8, x9⟩)
    · rw [List.length_set]; exact x5
    · rw [List.length_set]; exact (okS_c (okS_c (okS_c (okS_c (okS_c x6).2).2).2).2).2
/-- a callee's throw that a handler takes; its first row puts the thing thrown away into local k -/
theorem go_catchV {idx ci a n mc1 ms1 k len : Nat} {Z : mY} {fs : List Value} {h1 : pH} {E0 : String} (av : List Value) {rest : List Value} (pre : List ExceptionTableEntry) (x : ExceptionTableEntry) (suf : List ExceptionTableEntry) (hd : decode (mYc Y) pc = .ok (.invokevirtual idx, 3)) (F : CV (mYn Y).cls idx ci Z n) (E : Ev G d mc1 ms1 Z (.ref a :: av) h (.inr E0) h1) (ha : h[a]? = some (.inr (ci, fs))) (hst : st = av.reverse ++ .ref a :: rest) (hn : av.length = n) (h8 : (rest.map (fun v => v.category)).sum ≤ 8)
    (hnl : (mYn Y).name ≠ "law") (hx : tableOf (mYh Y) = pre ++ x :: suf) (hE : E0 ∈ excT) (hpass : ∀ z ∈ pre, z.catchType ≠ 0 ∧ ∃ nm ∈ excT, Cond.classLink (mYn Y).cls z.catchType nm ∈ TBg ∧ E0 ≠ nm) (hcov : covers x pc = true) (h0 : x.catchType ≠ 0) (hl : Cond.classLink (mYn Y).cls x.catchType E0 ∈ TBg) (hc : Cond.castable E0 E0 ∈ faceW)
    (hk : (decode (mYc Y) x.handlerPc = .ok (.astore k, 2) ∧ len = 2) ∨ (∃ q : Fin 4, (q : Nat) = k ∧ decode (mYc Y) x.handlerPc = .ok (.astore_n q, 1) ∧ len = 1)) (hkl : k < mYl Y) (hb : lvB loc k = true) (hki : k < loc.length)
    (kk : Go G (d + 1) mc ms Y (x.handlerPc + len) (loc.set k none) [] h1 R h') : Go G (d + 1) (mc1 + mc) (ms1 + ms) Y pc loc st h R h' := by
  subst hst
  intro p e s m args below meth c H locs cells slots MC MS ad ls S X T hT XT
  have hr := runV_x (e := e) (below := below) hd F E ha hn h8 S X T hT XT
  obtain ⟨x1, x2, x3, x4, x5, x6, x7, x8, x9⟩ := X
  rcases hr with ⟨v', st₀, t, T', L, g0, X', hL, e1, e2, hq, stp⟩ | ⟨q, st₀, t, T', L, E', ce, g0, X', hL, e1, e2, ⟨e3, ad', ea, hn9, f1, f2, f3, f4⟩, hce, hcv, hcl, stp⟩
  · exact hq.elim
  · subst e3
    have hz : H.size ≤ t.heap.size := by rw [← g0]; exact f3.1
    have hk9 : ∀ q : Nat, q < H.size → ¬ gA G q → t.heap[q]? = H[q]? := fun q hq hA => by
      have := f3.2 q (by rw [g0]; exact hq) hA
      rw [g0] at this; exact this
    have hS1 : va_S (gA G) s.heap T'.heap (locs ++ L) := by
      refine ⟨Nat.le_trans x3.1 (by rw [e1]; exact hz), fun q g1 g2 => ?_, fun q hq => ?_⟩
      · rw [e1, hk9 q (Nat.lt_of_lt_of_le g1 x3.1) g2]; exact x3.2.1 q g1 g2
      · rcases List.mem_append.mp hq with q1 | q1
        · exact x3.2.2 q q1
        · exact hL q q1
    have hfin : ∀ ls', lv_has ls' (mYl Y) ((k, Value.ref q) :: (lvP (lcv G ad loc)).filter (fun q => !(q.1 == k) && !(q.1 + 1 == k && q.2.category == 2))) → W p (gl G) e (rmR (d + 1) MC MS) s m args below meth c T'.heap (locs ++ L) (cells + mc1) (slots + ms1) (QF G below args s MC MS ad h.length R h') (F0 m (x.handlerPc + len) ls' []) := by
      intro ls' hl9
      refine W_mono (QF_mono hn9 ea) (kk p e s m args below meth c T'.heap (locs ++ L) (cells + mc1) (slots + ms1) MC MS ad' ls' S ⟨by rw [e1]; exact f1, f2, hS1, f4, okL_clr (okL_mono hn9 x5), okS_nil, ⟨hl9.1, hl9.2.1, fun i w hi => ?_⟩, by omega, by omega⟩)
      have hL2 : lcv G ad' (loc.set k none) = lcv G ad (loc.set k none) := lcv_x ea (okL_clr x5)
      rw [hL2] at hi
      simp only [lcv, List.getElem?_map, List.getElem?_set] at hi
      by_cases e9 : k = i
      · subst e9; simp [hki] at hi
      · simp only [e9, if_false] at hi
        refine hl9.2.2 (i, w) (List.mem_cons_of_mem _ (List.mem_filter.mpr ⟨lvP_mem.mpr (by simpa [lcv] using hi), ?_⟩))
        have n1 : ¬ i = k := fun q => e9 q.symm
        simp only [Bool.and_eq_true, Bool.not_eq_true', beq_eq_false_iff_ne, ne_eq, n1, not_false_eq_true, true_and, Bool.and_eq_false_iff]
        by_cases e2 : i + 1 = k
        · right
          have := lvB_cat (G := G) (ad := ad) hb e2 (by simpa [lcv] using hi)
          omega
        · left; exact e2
    have KW : W p (gl G) e (rmR (d + 1) MC MS) s m args below meth c T'.heap (locs ++ L) (cells + mc1) (slots + ms1) (QF G below args s MC MS ad h.length R h') (F0 m x.handlerPc ls [.ref q]) := by
      rcases hk with ⟨hk1, hk2⟩ | ⟨q4, hk0, hk1, hk2⟩
      · subst hk2
        exact lv_astore S.1 S.2.1 hk1 (lH_has x7) hkl rfl hfin
      · subst hk2
        exact lv_astore_n S.1 S.2.1 hk1 hk0 (lH_has x7) hkl rfl hfin
    have K : vx_W p (gl G) e (rmR (d + 1) MC MS) s m args below meth c T'.heap (locs ++ L) (cells + mc1) (slots + ms1) (QF G below args s MC MS ad h.length R h') (F0 m pc ls (rest.map (cvV G ad))) q := by
      refine vx_catch (own := (mYn Y).cls) (name := E') (E := E') (ce := ce) S.2.2.2.1 pre x suf ((S.tab hnl).trans hx) (fun z hz9 => ?_) hcov h0 (S.2.2.2.2.1 _ hl) (va_Nw.use (Bool.and_eq_true_iff.mp (List.mem_filter.mp hc).2).2 (S.o.2.2.2.2.2.2.2.2.2 _ hc)) (by rw [e1]; exact hce) hcv hcl KW
      obtain ⟨z1, nm, z2, z3, z4⟩ := hpass z hz9
      exact Or.inr ⟨z1, nm, S.2.2.2.2.1 _ z3, S.o.2.2.2.2.2.2.2.2.1 _ hE _ z2 z4⟩
    obtain ⟨t2, a1, b1⟩ := K T' rfl X'
    exact ⟨t2, stp.trans a1, b1⟩
/-- a method's contract out of its body, with handlers -/
theorem ev_ofH {av : List Value} {k : Nat} {v : Option Value} (hy : plainName (mYn Y).cls = true) (hh : mYh Y ≠ []) (hk : (lent av).length + k = mYl Y) (g : Go G d mc ms Y 0 (lent av ++ List.replicate k none) [] h (.inl v) h') (hst : (gl G).stackTraces = false) : Ev G d mc ms Y av h (.inl v) h' := by
  have hw : mYw Y = Cond.codeWith (mYn Y) (mYc Y) (mYl Y) (mYr Y) (mYh Y) :: TBg := by
    unfold mYw
    cases h9 : mYh Y with
    | nil => exact absurd h9 hh
    | cons a b => rfl
  intro ad ho hs
  refine va_MetW (cc := mYc Y) (maxL := mYl Y) (ret := mYr Y) hy hw ?_
  intro p e s m args below meth c s₁ B hml hP
  obtain ⟨rfl, hO, hK, hPP, hDD⟩ := hP
  have hts := atoms_spec (ws := mYw Y) B.pre
  have htab := vx_table (x := mYn Y) B (hts _ (by rw [hw]; exact List.mem_cons_self))
  have hS : SX G Y p s m ((av.map (cvV G ad)).toArray) meth c := ⟨B.exec, B.bytes, hml, findClass_of_methodNamed B.named, fun w hw => hts w (mYw_tb w hw), B.returns, B.notSynchronized, Or.inr htab, Or.inr (name_of_methodNamed B.named B.method).1, hO, hK, fun q hq => Nat.le_trans hO.2.2.1 hq, hst⟩
  rw [lg_entry_eq]
  exact g p e s m _ below meth c s.heap [] 0 0 mc ms ad _ hS ⟨hPP, hDD, va_S.rf, ho, okL_lent hs, okS_nil, lH_entry hk, by omega, by omega⟩
end GoMore
