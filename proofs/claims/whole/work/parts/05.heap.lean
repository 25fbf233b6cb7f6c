/-! RULES: returns, a body's begin, fields, arrays -/
section GoHeap
variable {G : gC} {d mc ms : Nat} {Y : mY} {pc : Nat} {loc : List (Option Value)} {st : List Value} {h h' : pH} {R : rS}
theorem fin_here {ad : Nat → Nat} {H : Heap} {s t : State} {locs : List Loc} (x1 : va_P (gD G) vwCl (wsO G ad h) H) (x2 : va_D (gA G) (wsO G ad h)) (x3 : va_S (gA G) s.heap H locs) (x4 : okH h) (ht : t.heap = H) : FIN G ad h s t := ⟨by rw [ht]; exact x1, x2, x3.F ht, x4⟩
theorem go_zreturn {v : Int32} {ty : FieldType} (hd : decode (mYc Y) pc = .ok (.ireturn, 1)) (hr : mYr Y = some ty) (hn : narrow ty (.int v) = .int v) : Go G d mc ms Y pc loc [.int v] h (.inl (some (.int v))) h := by
  intro p e s m args below meth c H locs cells slots MC MS ad ls S X
  obtain ⟨x1, x2, x3, x4, x5, x6, x7, x8, x9⟩ := X
  refine W.widen (k := MC) (n := MS) (by omega) (by omega) ?_
  show W p (gl G) e (rmR d MC MS) s m args below meth c H locs MC MS (MQ below (QcR G ad h.length (some (.int v)) h) args s MC MS (gA G)) (F0 m pc ls [.int v])
  exact W.zret S.1 S.2.1 (S.2.2.2.2.2.1.trans hr) hn (fun t ht _ => ⟨ad, adX.rf, Nat.le_refl _, fin_here x1 x2 x3 x4 ht, fun w hw => by cases hw; exact trivial, rfl⟩) (fun q hq => x3.2.2 q hq) hd S.2.2.2.2.2.2.1
theorem go_ireturn {v : Int32} (hd : decode (mYc Y) pc = .ok (.ireturn, 1)) (hr : mYr Y = some .int) : Go G d mc ms Y pc loc [.int v] h (.inl (some (.int v))) h := go_zreturn hd hr rfl
theorem go_lreturn {v : Int64} (hd : decode (mYc Y) pc = .ok (.lreturn, 1)) (hr : mYr Y = some .long) : Go G d mc ms Y pc loc [.long v] h (.inl (some (.long v))) h := by
  intro p e s m args below meth c H locs cells slots MC MS ad ls S X
  obtain ⟨x1, x2, x3, x4, x5, x6, x7, x8, x9⟩ := X
  refine W.widen (k := MC) (n := MS) (by omega) (by omega) ?_
  show W p (gl G) e (rmR d MC MS) s m args below meth c H locs MC MS (MQ below (QcR G ad h.length (some (.long v)) h) args s MC MS (gA G)) (F0 m pc ls [.long v])
  exact W.lret S.1 S.2.1 (S.2.2.2.2.2.1.trans hr) (fun t ht _ => ⟨ad, adX.rf, Nat.le_refl _, fin_here x1 x2 x3 x4 ht, fun w hw => by cases hw; exact trivial, rfl⟩) (fun q hq => x3.2.2 q hq) hd S.2.2.2.2.2.2.1
theorem go_vreturn (hd : decode (mYc Y) pc = .ok (.return_, 1)) (hr : mYr Y = none) : Go G d mc ms Y pc loc [] h (.inl none) h := by
  intro p e s m args below meth c H locs cells slots MC MS ad ls S X
  obtain ⟨x1, x2, x3, x4, x5, x6, x7, x8, x9⟩ := X
  refine W.widen (k := MC) (n := MS) (by omega) (by omega) ?_
  show W p (gl G) e (rmR d MC MS) s m args below meth c H locs MC MS (MQ below (QcR G ad h.length (none) h) args s MC MS (gA G)) (F0 m pc ls [])
  exact W.vret S.1 S.2.1 (S.2.2.2.2.2.1.trans hr) (fun t ht _ => ⟨ad, adX.rf, Nat.le_refl _, fin_here x1 x2 x3 x4 ht, fun w hw => (by cases hw), rfl⟩) (fun q hq => x3.2.2 q hq) hd S.2.2.2.2.2.2.1
theorem go_areturn {v : Value} {n : String} (hv : isRv v = true) (hd : decode (mYc Y) pc = .ok (.areturn, 1)) (hr : mYr Y = some (.object n)) : Go G d mc ms Y pc loc [v] h (.inl (some v)) h := by
  intro p e s m args below meth c H locs cells slots MC MS ad ls S X
  obtain ⟨x1, x2, x3, x4, x5, x6, x7, x8, x9⟩ := X
  refine W.widen (k := MC) (n := MS) (by omega) (by omega) ?_
  show W p (gl G) e (rmR d MC MS) s m args below meth c H locs MC MS (MQ below (QcR G ad h.length (some v) h) args s MC MS (gA G)) (F0 m pc ls [cvV G ad v])
  exact W.aret S.1 S.2.1 (S.2.2.2.2.2.1.trans hr) (Or.inl ⟨n, rfl⟩) (by cases v <;> simp [isRv] at hv <;> simp [cvV]) (fun t ht _ => ⟨ad, adX.rf, Nat.le_refl _, fin_here x1 x2 x3 x4 ht, fun w hw => by cases hw; exact (okS_c x6).1, rfl⟩) (fun q hq => x3.2.2 q hq) hd S.2.2.2.2.2.2.1
-- a body's begin
/-- the locals at the begin -/
def lent : List Value → List (Option Value)
  | [] => []
  | v :: vs => if v.category = 2 then some v :: none :: lent vs else some v :: lent vs
theorem lent_args {G : gC} {ad : Nat → Nat} : ∀ (av : List Value) (n i j : Nat) (w : Value), (lcv G ad (lent av ++ List.replicate n none))[i]? = some (some w) → (i + j, w) ∈ lv_args j (av.map (cvV G ad))
  | [], n, i, j, w, hw => by
    simp only [lent, List.nil_append, lcv, List.getElem?_map, List.getElem?_replicate] at hw
    split at hw <;> simp at hw
  | v :: vs, n, i, j, w, hw => by
    simp only [List.map_cons, lv_args, cat_cv]
    by_cases hc : v.category = 2
    · simp only [lent, hc, if_true] at hw ⊢
      match i, hw with
      | 0, hw =>
        simp [lcv] at hw
        rw [Nat.zero_add, ← hw]
        exact List.mem_cons_self
      | 1, hw => simp [lcv] at hw
      | i + 2, hw =>
        have h9 := lent_args vs n i (j + 2) w (by simpa [lcv] using hw)
        rw [show i + 2 + j = i + (j + 2) by omega]
        exact List.mem_cons_of_mem _ h9
    · simp only [lent, hc, if_false] at hw ⊢
      match i, hw with
      | 0, hw =>
        simp [lcv] at hw
        rw [Nat.zero_add, ← hw]
        exact List.mem_cons_self
      | i + 1, hw =>
        have h9 := lent_args vs n i (j + 1) w (by simpa [lcv] using hw)
        rw [show i + 1 + j = i + (j + 1) by omega]
        exact List.mem_cons_of_mem _ h9
theorem lg_sl_cv {G : gC} {ad : Nat → Nat} : ∀ (av : List Value), (lg_sl (av.map (cvV G ad))).length = (lent av).length
  | [] => rfl
  | v :: vs => by
    have ih := lg_sl_cv (G := G) (ad := ad) vs
    simp only [lg_sl, List.map_cons, List.flatMap_cons, List.length_append, cat_cv, lent] at ih ⊢
    by_cases hc : v.category = 2
    · simp only [hc, if_true, List.length_cons, List.length_nil]; omega
    · simp only [hc, if_false, List.length_cons, List.length_nil]; omega
theorem okL_lent {n k : Nat} : ∀ {av : List Value}, okS n av → okL n (lent av ++ List.replicate k none)
  | [], _ => fun v hv => by simp [lent] at hv
  | a :: as, ho => fun v hv => by
    have ih := okL_lent (k := k) (okS_c ho).2
    simp only [lent] at hv
    split at hv
    · simp only [List.cons_append, List.mem_cons, Option.some.injEq, reduceCtorEq, false_or] at hv
      rcases hv with q | q
      · rw [q]; exact (okS_c ho).1
      · exact ih v q
    · simp only [List.cons_append, List.mem_cons, Option.some.injEq] at hv
      rcases hv with q | q
      · rw [q]; exact (okS_c ho).1
      · exact ih v q
theorem lH_entry {G : gC} {ad : Nat → Nat} {av : List Value} {nL k : Nat} (hk : (lent av).length + k = nL) : lH ((lg_sl (av.map (cvV G ad)) ++ List.replicate (nL - (lg_sl (av.map (cvV G ad))).length) Slot.unset).toArray) nL (lcv G ad (lent av ++ List.replicate k none)) := by
  have h1 := lv_entry (av.map (cvV G ad)) (n := nL) (by rw [lg_sl_cv]; omega)
  exact ⟨h1.1, h1.2.1, fun i v hi => h1.2.2 (i, v) (lent_args av k i 0 v hi)⟩
theorem mYw_tb : ∀ w ∈ TBg, w ∈ mYw Y := fun w hw => List.mem_cons_of_mem _ hw
/-- old things stay, wherever nothing below the law's begin was written -/
theorem Old.go {s U : State} (hW : s.WarmedH U.vm) (hz : s.heap.size ≤ U.heap.size) (hk : ∀ q : Nat, q < s.heap.size → ¬ gA G q → U.heap[q]? = s.heap[q]?) (o : Old G s) : Old G U := by
  obtain ⟨o1, o2, o3, o4, a1, a2, a3, a4, a5, a6, a7, a8, a9, a10⟩ := o
  have hv := hW.alike
  refine ⟨(o1.moved hv).kept (hk _ (Nat.lt_of_lt_of_le o2 o3) (Nat.not_le.mpr o2)), o2, Nat.le_trans o3 hz, o4, a1.moved hv, ⟨(a2.1.moved hv).kept hk, a2.2.elim (fun x => Or.inl ((x.moved hv).kept hk)) (fun x => Or.inr ((x.moved hv).kept hk))⟩, (vx_Zq.moved hv a3).kept hk, (vx_Zq.moved hv a4).kept hk, fun i q hq => ⟨((a5 i q hq).1.moved hv).kept hk, ((a5 i q hq).2.moved hv).kept hk⟩, fun i q hq => (a6 i q hq).warm hW, (a7.moved hv).kept hk, fun i q hq => (a8 i q hq).warmM hW, fun E hE F hF n => (a9 E hE F hF n).moved hv, fun w hw => ?_⟩
  have h9 := List.mem_filter.mp hw
  have h8 := Bool.and_eq_true_iff.mp h9.2
  exact va_tabs h8.2 (rfl : (s.setVm U.vm).vm = U.vm) (Cond.before_shiftedFace (State.Shifted.of_warmed hW) w h8.1 (a10 w hw))
theorem old_calling {U : State} {g : JFrame} {mk : MethodId} {a : Array Value} (o : Old G U) : Old G (U.calling g mk a) := by
  obtain ⟨o1, o2, o3, o4, a1, a2, a3, a4, a5, a6, a7, a8, a9, a10⟩ := o
  have hv : U.vm.Alike (U.calling g mk a).vm := Vm.Alike.refl U.vm
  exact ⟨o1.moved hv, o2, o3, o4, a1.moved hv, ⟨a2.1.moved hv, a2.2.elim (fun x => Or.inl (x.moved hv)) (fun x => Or.inr (x.moved hv))⟩, vx_Zq.moved hv a3, vx_Zq.moved hv a4, fun i q hq => ⟨(a5 i q hq).1.moved hv, (a5 i q hq).2.moved hv⟩, fun i q hq => (a6 i q hq).same rfl, a7.moved hv, fun i q hq => va_Nw.same (u := U) (U := U.calling g mk a) rfl rfl (a8 i q hq), fun E hE F hF n => (a9 E hE F hF n).moved hv, fun w hw => va_Nw.same (u := U) (U := U.calling g mk a) (Bool.and_eq_true_iff.mp (List.mem_filter.mp hw).2).2 rfl (a10 w hw)⟩
theorem pc_blind {ad : Nat → Nat} {av : List Value} : FrameBlind (PcE G ad av h) := by
  intro a U g mk q
  obtain ⟨q1, q2, q3, q4, q5⟩ := q
  exact ⟨q1, old_calling q2, va_K.moved (u := U) (U := U.calling g mk a) (Vm.Alike.refl U.vm) q3, q4, q5⟩
/-- a method's contract out of its body (no handlers) -/
theorem ev_of {av : List Value} {k : Nat} (hy : plainName (mYn Y).cls = true) (hh : mYh Y = []) (hk : (lent av).length + k = mYl Y) (g : Go G d mc ms Y 0 (lent av ++ List.replicate k none) [] h R h') (hst : (gl G).stackTraces = false) : Ev G d mc ms Y av h R h' := by
  have hw : mYw Y = Cond.code (mYn Y) (mYc Y) (mYl Y) (mYr Y) :: TBg := by simp only [mYw, hh]
  have body : ∀ (ad : Nat → Nat), okH h → okS h.length av → ∀ p e s m args below meth c s₁, BodyLoose p (gl G) (mYn Y) (headSpec (mYw Y) (rmR d mc ms)) (mYc Y) (mYl Y) (mYr Y) e s m args below meth c s₁ → c.maxLocals = mYl Y → c.exceptionTable.toList = [] →
      PcE G ad av h args s →
      W p (gl G) e (rmR d mc ms) s m args below meth c s.heap [] 0 0 (QF G below args s mc ms ad h.length R h') (entryFrame m args (mYl Y)) := by
    intro ad ho hs p e s m args below meth c s₁ B hml het hP
    obtain ⟨rfl, hO, hK, hPP, hDD⟩ := hP
    have hts := atoms_spec (ws := mYw Y) B.pre
    have hS : SX G Y p s m ((av.map (cvV G ad)).toArray) meth c := ⟨B.exec, B.bytes, hml, findClass_of_methodNamed B.named, fun w hw => hts w (mYw_tb w hw), B.returns, B.notSynchronized, Or.inr (by rw [hh]; exact het), Or.inr (name_of_methodNamed B.named B.method).1, hO, hK, fun q hq => Nat.le_trans hO.2.2.1 hq, hst⟩
    rw [lg_entry_eq]
    exact g p e s m _ below meth c s.heap [] 0 0 mc ms ad _ hS ⟨hPP, hDD, va_S.rf, ho, okL_lent hs, okS_nil, lH_entry hk, by omega, by omega⟩
  intro ad ho hs
  have hemp : ∀ {p : Program} {e : Env} {s : State} {m : MethodId} {args : Array Value} {below : List Frame} {meth : Method} {c : Code} {s₁ : State}, BodyLoose p (gl G) (mYn Y) (headSpec (mYw Y) (rmR d mc ms)) (mYc Y) (mYl Y) (mYr Y) e s m args below meth c s₁ → c.exceptionTable.toList = [] := by
    intro p e s m args below meth c s₁ B
    have hts := atoms_spec (ws := mYw Y) B.pre
    have := B.noHandlers (hts _ (by rw [hw]; exact List.mem_cons_self))
    rw [Array.isEmpty_iff.mp this]
  cases R with
  | inl v =>
    refine Met.ofW (cc := mYc Y) (maxL := mYl Y) (ret := mYr Y) hy hw ?_
    intro p e s m args below meth c s₁ B hml hP
    exact body ad ho hs p e s m args below meth c s₁ B hml (hemp B) hP
  | inr E =>
    refine vx_ofW (cc := mYc Y) (maxL := mYl Y) (ret := mYr Y) hy hw ?_
    intro p e s m args below meth c s₁ B hml ht hP
    exact body ad ho hs p e s m args below meth c s₁ B hml (hemp B) hP
-- fields
/-- the field entry idx of class own is field k of the class numbered ci -/
def FL (own : String) (idx ci k : Nat) (ty : FieldType) (fin : Bool) : Prop := ∃ (C : String) (T : u_T) (N : Nat) (ty0 : Nat → FieldType), vwCl[ci]? = some (C, T, N) ∧ k < N ∧ Cond.fieldLink own idx (T k).1 (T k).2.1 (T k).2.2.1 ∈ TBg ∧ (∀ w ∈ u_ws C T N, w ∈ TBg) ∧ (∀ k, k < N → parseFieldDescriptor (T k).2.2.1 = some (ty0 k)) ∧ (∀ a, a < N → ∀ b, b < N → a ≠ b → (T a).2.1 ≠ (T b).2.1) ∧ ty0 k = ty ∧ (T k).2.2.2 = fin ∧ (T k).1 = C
theorem okC_fld {n ci k : Nat} {fs : List Value} {v : Value} (o : okC n (.inr (ci, fs))) (hv : fs[k]? = some v) : okV n v := o v (List.mem_of_getElem? hv)
theorem go_getfield {idx ci k a : Nat} {fs : List Value} {v : Value} {ty : FieldType} {fin : Bool} (hd : decode (mYc Y) pc = .ok (.getfield idx, 3)) (F : FL (mYn Y).cls idx ci k ty fin) (ha : h[a]? = some (.inr (ci, fs))) (hv : fs[k]? = some v) (kk : Go G d mc ms Y (pc + 3) loc (v :: st) h R h') : Go G d mc ms Y pc loc (.ref a :: st) h R h' := by
  intro p e s m args below meth c H locs cells slots MC MS ad ls S X
  obtain ⟨x1, x2, x3, x4, x5, x6, x7, x8, x9⟩ := X
  obtain ⟨C, T, N, ty0, f1, f2, f3, f4, f5, f6, f7, f8, f9⟩ := F
  have hS := S
  obtain ⟨s1, s2, s3, s4, s5, s6, s7, s8, s9, s10, s11, s12, s13⟩ := S
  refine va_get s1 s2 s5 f4 s4 s11 x1 a (fs := fs.map (cvV G ad)) (by rw [wsO_at, ha]; rfl) f1 k f2 (s5 _ f3) (fun x hx => hx) (v := cvV G ad v) (by simp [hv]) hd ?_
  exact kk p e s m args below meth c H locs cells slots MC MS ad ls hS ⟨x1, x2, x3, x4, x5, okS_i (okC_fld (okH_at x4 ha) hv) (okS_c x6).2, x7, x8, x9⟩
theorem cvC_obj {ad : Nat → Nat} {ci k : Nat} {fs : List Value} {v : Value} : cvC G ad (.inr (ci, fs.set k v)) = .inr (ci, (fs.map (cvV G ad)).set k (cvV G ad v)) := by simp [cvC, List.map_set]
theorem okC_set {n ci k : Nat} {fs : List Value} {v : Value} (o : okC n (.inr (ci, fs))) (hv : okV n v) : okC n (.inr (ci, fs.set k v)) := by
  intro w hw
  rcases List.mem_or_eq_of_mem_set hw with q | q
  · exact o w q
  · rw [q]; exact hv
theorem go_putfield {idx ci k a : Nat} {fs : List Value} {v : Value} {ty : FieldType} (hd : decode (mYc Y) pc = .ok (.putfield idx, 3)) (F : FL (mYn Y).cls idx ci k ty false) (ha : h[a]? = some (.inr (ci, fs))) (hl : k < fs.length) (hn : ∀ ad, narrow ty (cvV G ad v) = cvV G ad v) (hf : ∀ ad, fits ty (cvV G ad v) = true)
    (kk : Go G d mc ms Y (pc + 3) loc st (h.set a (.inr (ci, fs.set k v))) R h') : Go G d mc ms Y pc loc (v :: .ref a :: st) h R h' := by
  intro p e s m args below meth c H locs cells slots MC MS ad ls S X
  obtain ⟨x1, x2, x3, x4, x5, x6, x7, x8, x9⟩ := X
  obtain ⟨C, T, N, ty0, f1, f2, f3, f4, f5, f6, f7, f8, f9⟩ := F
  have hS := S
  obtain ⟨s1, s2, s3, s4, s5, s6, s7, s8, s9, s10, s11, s12, s13⟩ := S
  refine va_put s1 s2 s5 f4 ty0 f5 f6 s4 s11 x1 x2 x3 a (fs := fs.map (cvV G ad)) (by rw [wsO_at, ha]; rfl) f1 k f2 (s5 _ f3) (fun x hx => hx) f8 (ty := ty) (v := cvV G ad v) (by rw [f5 k f2, f7]) (hn ad) (hf ad) (by rw [List.length_map]; exact hl) hd (fun H1 locs1 hP hD hS1 => ?_)
  rw [← cvC_obj, wsO_set] at hP hD
  refine W_mono (QF_mono (by rw [List.length_set]; exact Nat.le_refl _) adX.rf) (kk p e s m args below meth c H1 locs1 cells slots MC MS ad ls hS ⟨hP, hD, hS1, okH_set x4 (okC_set (okH_at x4 ha) (okS_c x6).1), ?_, ?_, x7, x8, x9⟩)
  · rw [List.length_set]; exact x5
  · rw [List.length_set]; exact (okS_c (okS_c x6).2).2
theorem go_putfinal {idx ci k a : Nat} {fs : List Value} {v : Value} {ty : FieldType} (hd : decode (mYc Y) pc = .ok (.putfield idx, 3)) (F : FL (mYn Y).cls idx ci k ty true) (hi : (mYn Y).name = "<init>") (hC : (vwCl[ci]?).map (fun q => q.1) = some (mYn Y).cls) (ha : h[a]? = some (.inr (ci, fs))) (hl : k < fs.length) (hn : ∀ ad, narrow ty (cvV G ad v) = cvV G ad v) (hf : ∀ ad, fits ty (cvV G ad v) = true)
    (kk : Go G d mc ms Y (pc + 3) loc st (h.set a (.inr (ci, fs.set k v))) R h') : Go G d mc ms Y pc loc (v :: .ref a :: st) h R h' := by
  intro p e s m args below meth c H locs cells slots MC MS ad ls S X
  obtain ⟨x1, x2, x3, x4, x5, x6, x7, x8, x9⟩ := X
  obtain ⟨C, T, N, ty0, f1, f2, f3, f4, f5, f6, f7, f8, f9⟩ := F
  have hS := S
  obtain ⟨s1, s2, s3, s4, s5, s6, s7, s8, s9, s10, s11, s12, s13⟩ := S
  have hCC : C = (mYn Y).cls := by rw [f1] at hC; exact Option.some.inj hC
  refine va_putF s1 s2 s5 f4 ty0 f5 f6 s4 s11 x1 x2 x3 a (fs := fs.map (cvV G ad)) (by rw [wsO_at, ha]; rfl) f1 k f2 (s5 _ f3) (fun x hx => hx) f8 ((s9.resolve_left (fun q => by rw [hi] at q; exact absurd q (by decide))).trans hi) (f9.trans hCC) (ty := ty) (v := cvV G ad v) (by rw [f5 k f2, f7]) (hn ad) (hf ad) (by rw [List.length_map]; exact hl) hd (fun H1 locs1 hP hD hS1 => ?_)
  rw [← cvC_obj, wsO_set] at hP hD
  refine W_mono (QF_mono (by rw [List.length_set]; exact Nat.le_refl _) adX.rf) (kk p e s m args below meth c H1 locs1 cells slots MC MS ad ls hS ⟨hP, hD, hS1, okH_set x4 (okC_set (okH_at x4 ha) (okS_c x6).1), ?_, ?_, x7, x8, x9⟩)
  · rw [List.length_set]; exact x5
  · rw [List.length_set]; exact (okS_c (okS_c x6).2).2
end GoHeap
