/-! THE RULES' GROUND: a pure heap (a list of cells, references are places in it), and what it means that the machine, at a place of a method's code, with such a heap, comes to a told end. -/
section GoDefs
/-- what is fixed for the law's whole run: launch, class numbers, array classes, old objects (0: the script), the heap's size at its begin, the script -/
abbrev gC : Type := Launch × va_G × (Nat → ClassId) × (Nat → Nat) × Nat × Nat × (Nat → Int32)
abbrev gl (G : gC) : Launch := G.1
abbrev gD (G : gC) : va_G := G.2.1
abbrev gtc (G : gC) : Nat → ClassId := G.2.2.1
abbrev god (G : gC) : Nat → Nat := G.2.2.2.1
abbrev gb (G : gC) : Nat := G.2.2.2.2.1
abbrev gL (G : gC) : Nat := G.2.2.2.2.2.1
abbrev gxs (G : gC) : Nat → Int32 := G.2.2.2.2.2.2
def gA (G : gC) : Nat → Prop := fun q => gb G ≤ q
def gT (G : gC) : List (ClassId × FieldType) := [(gtc G 0, .int), (gtc G 1, .byte), (gtc G 2, .boolean), (gtc G 3, .long), (gtc G 4, .object "GreatEstate$Text")]
/-- words that stay: what every method is given -/
def TBg : List Cond := lw_tbl.filter goodWord
/-- a method: name, code, locals, answer, handlers -/
abbrev mY : Type := MethodName × ByteArray × Nat × Option FieldType × List (Nat × Nat × Nat × Nat)
abbrev mYn (Y : mY) : MethodName := Y.1
abbrev mYc (Y : mY) : ByteArray := Y.2.1
abbrev mYl (Y : mY) : Nat := Y.2.2.1
abbrev mYr (Y : mY) : Option FieldType := Y.2.2.2.1
abbrev mYh (Y : mY) : List (Nat × Nat × Nat × Nat) := Y.2.2.2.2
def mYw (Y : mY) : List Cond := (match mYh Y with | [] => Cond.code (mYn Y) (mYc Y) (mYl Y) (mYr Y) | hh => Cond.codeWith (mYn Y) (mYc Y) (mYl Y) (mYr Y) hh) :: TBg
/-- a pure cell: an array (its class's number; length and contents), or an object (its class's number, its fields) -/
abbrev pC : Type := (Nat × vp_A) ⊕ (Nat × List Value)
abbrev pH : Type := List pC
def cvV (G : gC) (ad : Nat → Nat) (v : Value) : Value := match v with
  | .ref k => .ref (ad k)
  | .retAddr j => .ref (god G j)
  | w => w
def cvA (ad : Nat → Nat) (a : vp_A) : vp_A := match a with
  | (n, .inr (.inr (.inr (.inr f)))) => (n, .inr (.inr (.inr (.inr (fun j => (f j).map ad)))))
  | (n, .inl f) => (n, .inl f)
  | (n, .inr (.inl f)) => (n, .inr (.inl f))
  | (n, .inr (.inr (.inl f))) => (n, .inr (.inr (.inl f)))
  | (n, .inr (.inr (.inr (.inl f)))) => (n, .inr (.inr (.inr (.inl f))))
def cvC (G : gC) (ad : Nat → Nat) (c : pC) : va_E := match c with
  | .inl (t, a) => .inl (gtc G t, cvA ad a)
  | .inr (ci, fs) => .inr (ci, fs.map (cvV G ad))
def wsO (G : gC) (ad : Nat → Nat) (h : pH) : va_W := h.mapIdx (fun k c => (ad k, cvC G ad c))
def okV (n : Nat) (v : Value) : Prop := match v with
  | .ref k => k < n
  | _ => True
def okA (n : Nat) (a : vp_A) : Prop := match a with
  | (_, .inr (.inr (.inr (.inr f)))) => ∀ j k, f j = some k → k < n
  | _ => True
def okC (n : Nat) (c : pC) : Prop := match c with
  | .inl (_, a) => okA n a
  | .inr (_, fs) => ∀ v ∈ fs, okV n v
def okH (h : pH) : Prop := ∀ c ∈ h, okC h.length c
def okS (n : Nat) (st : List Value) : Prop := ∀ v ∈ st, okV n v
def okL (n : Nat) (loc : List (Option Value)) : Prop := ∀ v, some v ∈ loc → okV n v
def adX (n : Nat) (ad ad' : Nat → Nat) : Prop := ∀ k, k < n → ad' k = ad k
/-- the locals by their places -/
def lH (ls : Array Slot) (nL : Nat) (loc : List (Option Value)) : Prop := ls.size = nL ∧ lv_wf ls ∧ ∀ (i : Nat) (v : Value), loc[i]? = some (some v) → ls[i]? = some (.val v)
def lcv (G : gC) (ad : Nat → Nat) (loc : List (Option Value)) : List (Option Value) := loc.map (fun o => o.map (cvV G ad))
/-- words that stay by what the tables' faces say (superclasses, what can be cast) -/
def faceW : List Cond := lw_tbl.filter (fun w => w.keepsFace && w.onTables)
/-- old objects, as the Statement gives them, in any later state -/
def OldS (G : gC) (U : State) : Prop := va_AO "GreatEstate$Text" U ∧ (va_Z "java/lang/String" "COMPACT_STRINGS" "Z" (.int 1) (gA G) U U.heap ∧ (va_Z "jdk/internal/util/Preconditions" "SIOOBE_FORMATTER" "Ljava/util/function/BiFunction;" .null (gA G) U U.heap ∨ va_Z "jdk/internal/util/Preconditions" "SIOOBE_FORMATTER" "Ljava/util/function/BiFunction;" (.ref (god G 50)) (gA G) U U.heap)) ∧ vx_Zq Bundle.tN "UNASSIGNED_STACK" Bundle.steD (gA G) U U.heap ∧ vx_Zq Bundle.tN "SUPPRESSED_SENTINEL" Bundle.listD (gA G) U U.heap ∧
  (∀ (i : Nat) (q : String × String × List Int32), statT[i]? = some q → va_Z q.1 q.2.1 "[I" (.ref (god G (1 + i))) (gA G) U U.heap ∧ va_T .int (god G (1 + i)) q.2.2.length (fun j => .int (q.2.2.getD j 0)) (gA G) U U.heap) ∧
  (∀ (i : Nat) (q : String × Nat × String), strT[i]? = some q → vk_R q.1 q.2.1 q.2.2 (god G (100 + i)) U) ∧ vk_S strT.length strLen strByt (fun i => god G (100 + i)) (fun i => god G (10000 + i)) (gA G) U U.heap ∧
  (∀ (i : Nat) (q : String × Nat × MethodName × String), nestT[i]? = some q → va_Nw (.methodLinkNest q.1 q.2.1 q.2.2.1 q.2.2.2) U) ∧ (∀ E ∈ excT, ∀ F ∈ excT, E ≠ F → va_Nc E F U) ∧ (∀ w ∈ faceW, va_Nw w U)
def Old (G : gC) (U : State) : Prop := va_X (god G 0) (gL G) (gxs G) U U.heap ∧ god G 0 < gb G ∧ gb G ≤ U.heap.size ∧ gL G ≤ 3584 ∧ OldS G U
def rmR (d MC MS : Nat) : Room := { frames := 16 + d, cells := MC, slots := MS, locals := 928 + 46 * d }
def FIN (G : gC) (ad : Nat → Nat) (h : pH) (s t : State) : Prop := va_P (gD G) vwCl (wsO G ad h) t.heap ∧ va_D (gA G) (wsO G ad h) ∧ va_F (gA G) s t ∧ okH h
abbrev rS : Type := Option Value ⊕ String
def okR (n : Nat) (r : Option Value) : Prop := ∀ v, r = some v → okV n v
/-- what is so where a method has returned v, or thrown E; the heap then is h' -/
def QcR (G : gC) (ad : Nat → Nat) (n : Nat) (v : Option Value) (h' : pH) : Array Value → State → Outcome → State → Prop := fun _ st o t => ∃ ad', adX n ad ad' ∧ n ≤ h'.length ∧ FIN G ad' h' st t ∧ okR h'.length v ∧ o = .returned (v.map (cvV G ad'))
def XcE (G : gC) (ad : Nat → Nat) (n : Nat) (E : String) (h' : pH) : String → State → State → Prop := fun E' st t => E' = E ∧ ∃ ad', adX n ad ad' ∧ n ≤ h'.length ∧ FIN G ad' h' st t
def Qno : Array Value → State → Outcome → State → Prop := fun _ _ _ _ => False
def PcE (G : gC) (ad : Nat → Nat) (av : List Value) (h : pH) : Array Value → State → Prop := va_Pc (av.map (cvV G ad)) (fun U => Old G U ∧ va_K (gD G) vwCl (gT G) U ∧ va_P (gD G) vwCl (wsO G ad h) U.heap ∧ va_D (gA G) (wsO G ad h))
/-- what a body owes at its end -/
def QF (G : gC) (below : List Frame) (args : Array Value) (s : State) (MC MS : Nat) (ad : Nat → Nat) (n : Nat) (R : rS) (h' : pH) : State → Prop := match R with
  | .inl v => MQ below (QcR G ad n v h') args s MC MS (gA G)
  | .inr E => vx_MQ below Qno (XcE G ad n E h') args s MC MS (gA G)
/-- what stays through a method's body -/
def SX (G : gC) (Y : mY) (p : Program) (s : State) (m : MethodId) (args : Array Value) (meth : Method) (c : Code) : Prop :=
  p.tables.exec = Jvm.exec ∧ c.code = mYc Y ∧ c.maxLocals = mYl Y ∧ s.vm.findClass (mYn Y).cls = some m.cls ∧ (∀ w ∈ TBg, w.before args s = true) ∧ meth.sig.returnType = mYr Y ∧ meth.locks = false ∧
  ((mYn Y).name = "law" ∨ c.exceptionTable.toList = tableOf (mYh Y)) ∧ ((mYn Y).name = "law" ∨ meth.name = (mYn Y).name) ∧ Old G s ∧ va_K (gD G) vwCl (gT G) s ∧ (∀ q, s.heap.size ≤ q → gA G q) ∧ (gl G).stackTraces = false
/-- what changes -/
def DX (G : gC) (Y : mY) (ad : Nat → Nat) (h : pH) (H : Heap) (s : State) (locs : List Loc) (ls : Array Slot) (loc : List (Option Value)) (st : List Value) (cells slots mc ms MC MS : Nat) : Prop :=
  va_P (gD G) vwCl (wsO G ad h) H ∧ va_D (gA G) (wsO G ad h) ∧ va_S (gA G) s.heap H locs ∧ okH h ∧ okL h.length loc ∧ okS h.length st ∧ lH ls (mYl Y) (lcv G ad loc) ∧ cells + mc ≤ MC ∧ slots + ms ≤ MS
/-- from this place, with these locals, stack and heap, the method comes to the end R with the heap h'; calls go at most d deep, mc cells of ms slots are made at most -/
def Go (G : gC) (d mc ms : Nat) (Y : mY) (pc : Nat) (loc : List (Option Value)) (st : List Value) (h : pH) (R : rS) (h' : pH) : Prop :=
  ∀ (p : Program) (e : Env) (s : State) (m : MethodId) (args : Array Value) (below : List Frame) (meth : Method) (c : Code) (H : Heap) (locs : List Loc) (cells slots MC MS : Nat) (ad : Nat → Nat) (ls : Array Slot),
    SX G Y p s m args meth c → DX G Y ad h H s locs ls loc st cells slots mc ms MC MS →
    W p (gl G) e (rmR d MC MS) s m args below meth c H locs cells slots (QF G below args s MC MS ad h.length R h') (F0 m pc ls (st.map (cvV G ad)))
/-- a method's contract: called with these values and this heap it returns v, with the heap h' -/
def Ev (G : gC) (d mc ms : Nat) (Y : mY) (av : List Value) (h : pH) (R : rS) (h' : pH) : Prop :=
  ∀ ad : Nat → Nat, okH h → okS h.length av → match R with
  | .inl v => Met (gl G) (mYn Y) (mYw Y) (rmR d mc ms) (PcE G ad av h) (QcR G ad h.length v h') mc ms (gA G)
  | .inr E => vx_Met (gl G) (mYn Y) (mYw Y) (rmR d mc ms) (PcE G ad av h) Qno (XcE G ad h.length E h') mc ms (gA G)
end GoDefs
section GoBase
theorem cvV_x {G : gC} {n : Nat} {ad ad' : Nat → Nat} (e : adX n ad ad') {v : Value} (h : okV n v) : cvV G ad' v = cvV G ad v := by
  cases v <;> simp [cvV, okV] at h ⊢
  exact e _ h
theorem cvS_x {G : gC} {n : Nat} {ad ad' : Nat → Nat} (e : adX n ad ad') {st : List Value} (h : okS n st) : st.map (cvV G ad') = st.map (cvV G ad) :=
  List.map_congr_left fun v hv => cvV_x e (h v hv)
theorem lcv_x {G : gC} {n : Nat} {ad ad' : Nat → Nat} (e : adX n ad ad') {loc : List (Option Value)} (h : okL n loc) : lcv G ad' loc = lcv G ad loc := by
  refine List.map_congr_left fun o ho => ?_
  cases o with
  | none => rfl
  | some v => exact congrArg some (cvV_x e (h v ho))
theorem cvA_x {n : Nat} {ad ad' : Nat → Nat} (e : adX n ad ad') {a : vp_A} (h : okA n a) : cvA ad' a = cvA ad a := by
  obtain ⟨k, f⟩ := a
  rcases f with f | f | f | f | f <;> try rfl
  have : (fun j => (f j).map ad') = fun j => (f j).map ad := by
    funext j
    cases hj : f j with
    | none => rfl
    | some q => exact congrArg some (e q (h j q hj))
  simp only [cvA, this]
theorem cvC_x {G : gC} {n : Nat} {ad ad' : Nat → Nat} (e : adX n ad ad') {c : pC} (h : okC n c) : cvC G ad' c = cvC G ad c := by
  rcases c with ⟨t, a⟩ | ⟨ci, fs⟩
  · simp only [cvC, cvA_x e (show okA n a from h)]
  · simp only [cvC, cvS_x (G := G) e (show okS n fs from h)]
theorem wsO_at {G : gC} {ad : Nat → Nat} {h : pH} (k : Nat) : (wsO G ad h)[k]? = (h[k]?).map (fun c => (ad k, cvC G ad c)) := by
  simp [wsO]
theorem wsO_len {G : gC} {ad : Nat → Nat} {h : pH} : (wsO G ad h).length = h.length := by simp [wsO]
theorem wsO_x {G : gC} {ad ad' : Nat → Nat} {h : pH} (e : adX h.length ad ad') (ho : okH h) : wsO G ad' h = wsO G ad h := by
  apply List.ext_getElem?
  intro k
  rw [wsO_at, wsO_at]
  cases hk : h[k]? with
  | none => rfl
  | some c =>
    have hl := (List.getElem?_eq_some_iff.mp hk).1
    simp only [Option.map_some, e k hl, cvC_x e (ho c (List.mem_of_getElem? hk))]
theorem wsO_set {G : gC} {ad : Nat → Nat} {h : pH} {k : Nat} {c : pC} : (wsO G ad h).set k (ad k, cvC G ad c) = wsO G ad (h.set k c) := by
  apply List.ext_getElem?
  intro j
  rw [wsO_at, List.getElem?_set, List.getElem?_set, wsO_at, wsO_len]
  by_cases hj : k = j
  · subst hj
    by_cases hl : k < h.length <;> simp [hl]
  · simp [hj]
theorem wsO_push {G : gC} {ad : Nat → Nat} {h : pH} {c : pC} : wsO G ad (h ++ [c]) = wsO G ad h ++ [(ad h.length, cvC G ad c)] := by
  simp [wsO, List.mapIdx_append]
theorem okV_mono {n n' : Nat} (h : n ≤ n') {v : Value} (o : okV n v) : okV n' v := by
  cases v <;> simp [okV] at o ⊢
  exact Nat.lt_of_lt_of_le o h
theorem okS_mono {n n' : Nat} (h : n ≤ n') {st : List Value} (o : okS n st) : okS n' st := fun v hv => okV_mono h (o v hv)
theorem okL_mono {n n' : Nat} (h : n ≤ n') {loc : List (Option Value)} (o : okL n loc) : okL n' loc := fun v hv => okV_mono h (o v hv)
theorem okA_mono {n n' : Nat} (h : n ≤ n') {a : vp_A} (o : okA n a) : okA n' a := by
  obtain ⟨k, f⟩ := a
  rcases f with f | f | f | f | f <;> try exact trivial
  exact fun j q hj => Nat.lt_of_lt_of_le (o j q hj) h
theorem okC_mono {n n' : Nat} (h : n ≤ n') {c : pC} (o : okC n c) : okC n' c := by
  rcases c with ⟨t, a⟩ | ⟨ci, fs⟩
  · exact okA_mono h (show okA n a from o)
  · exact okS_mono h (show okS n fs from o)
theorem okH_set {h : pH} {k : Nat} {c : pC} (o : okH h) (hc : okC h.length c) : okH (h.set k c) := by
  intro x hx
  rw [List.length_set]
  rcases List.mem_or_eq_of_mem_set hx with q | q
  · exact o x q
  · subst q; exact hc
theorem okH_push {h : pH} {c : pC} (o : okH h) (hc : okC (h.length + 1) c) : okH (h ++ [c]) := by
  intro x hx
  rw [List.length_append]
  rcases List.mem_append.mp hx with q | q
  · exact okC_mono (Nat.le_add_right _ _) (o x q)
  · cases List.mem_singleton.mp q; exact hc
theorem okH_at {h : pH} {k : Nat} {c : pC} (o : okH h) (hk : h[k]? = some c) : okC h.length c := o c (List.mem_of_getElem? hk)
theorem adX.trans {n n' : Nat} {a b c : Nat → Nat} (h : n ≤ n') (e1 : adX n a b) (e2 : adX n' b c) : adX n a c := fun k hk => (e2 k (Nat.lt_of_lt_of_le hk h)).trans (e1 k hk)
theorem adX.rf {n : Nat} {a : Nat → Nat} : adX n a a := fun _ _ => rfl
theorem W_mono {p : Program} {l : Launch} {e : Env} {R : Room} {s : State} {m : MethodId} {args : Array Value} {below : List Frame} {meth : Method} {c : Code} {H : Heap} {locs : List Loc} {cells slots : Nat} {Q Q' : State → Prop} {g : JFrame} (hq : ∀ t, Q t → Q' t) (k : W p l e R s m args below meth c H locs cells slots Q g) : W p l e R s m args below meth c H locs cells slots Q' g := by
  intro T hT X
  obtain ⟨t, a, b⟩ := k T hT X
  exact ⟨t, a, hq t b⟩
theorem QF_mono {G : gC} {below : List Frame} {args : Array Value} {s : State} {MC MS n n' : Nat} {ad ad' : Nat → Nat} {R : rS} {h' : pH} (hn : n ≤ n') (e : adX n ad ad') (t : State) (q : QF G below args s MC MS ad' n' R h' t) : QF G below args s MC MS ad n R h' t := by
  cases R with
  | inl v =>
    obtain ⟨o, h1, h2, ⟨ad2, e2, hl, r⟩, h4⟩ := q
    exact ⟨o, h1, h2, ⟨ad2, e.trans hn e2, Nat.le_trans hn hl, r⟩, h4⟩
  | inr E =>
    obtain ⟨o, h1, h2, h3⟩ := q
    refine ⟨o, h1, h2, ?_⟩
    rcases h3 with ⟨f, -⟩ | ⟨q, e0, E', ce, L, ⟨e1, ad2, e2, hl, r⟩, h5⟩
    · exact f.elim
    · exact Or.inr ⟨q, e0, E', ce, L, ⟨e1, ad2, e.trans hn e2, Nat.le_trans hn hl, r⟩, h5⟩
/-- the whole of what a row does that writes nothing but the stack -/
theorem go_lift {G : gC} {d mc ms : Nat} {Y : mY} {pc pc' : Nat} {loc : List (Option Value)} {st st' : List Value} {h h' : pH} {R : rS} (hok : ∀ n, okS n st → okL n loc → okS n st')
    (row : ∀ (p : Program) (e : Env) (s : State) (m : MethodId) (args : Array Value) (below : List Frame) (meth : Method) (c : Code) (H : Heap) (locs : List Loc) (cells slots MC MS : Nat) (ad : Nat → Nat) (ls : Array Slot) (Q : State → Prop),
      SX G Y p s m args meth c → lH ls (mYl Y) (lcv G ad loc) → W p (gl G) e (rmR d MC MS) s m args below meth c H locs cells slots Q (F0 m pc' ls (st'.map (cvV G ad))) → W p (gl G) e (rmR d MC MS) s m args below meth c H locs cells slots Q (F0 m pc ls (st.map (cvV G ad))))
    (k : Go G d mc ms Y pc' loc st' h R h') : Go G d mc ms Y pc loc st h R h' := by
  intro p e s m args below meth c H locs cells slots MC MS ad ls S X
  obtain ⟨x1, x2, x3, x4, x5, x6, x7, x8, x9⟩ := X
  exact row p e s m args below meth c H locs cells slots MC MS ad ls _ S x7 (k p e s m args below meth c H locs cells slots MC MS ad ls S ⟨x1, x2, x3, x4, x5, hok _ x6 x5, x7, x8, x9⟩)
theorem okS_nil {n : Nat} : okS n [] := fun v h => by cases h
theorem okS_c {n : Nat} {v : Value} {st : List Value} (h : okS n (v :: st)) : okV n v ∧ okS n st := ⟨h v List.mem_cons_self, fun w hw => h w (List.mem_cons_of_mem _ hw)⟩
theorem okS_i {n : Nat} {v : Value} {st : List Value} (h : okV n v) (hs : okS n st) : okS n (v :: st) := fun w hw => (List.mem_cons.mp hw).elim (fun e => by rw [e]; exact h) (hs w)
theorem lcv_at {G : gC} {ad : Nat → Nat} {loc : List (Option Value)} {i : Nat} {v : Value} (h : loc[i]? = some (some v)) : (lcv G ad loc)[i]? = some (some (cvV G ad v)) := by
  simp [lcv, h]
end GoBase
