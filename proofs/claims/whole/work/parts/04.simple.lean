/-! RULES: constants, locals, stack, numbers, branches -/
section GoSimple
variable {G : gC} {d mc ms : Nat} {Y : mY} {pc : Nat} {loc : List (Option Value)} {st : List Value} {h h' : pH} {R : rS}
theorem okS_t {n : Nat} {v : Value} {st : List Value} (h : (match v with | .ref _ => False | _ => True)) (hs : okS n st) : okS n (v :: st) := okS_i (by cases v <;> first | exact trivial | exact h.elim) hs
theorem go_iconst {n : Int} (hd : decode (mYc Y) pc = .ok (.iconst n, 1)) {v : Int32} (hv : Int32.ofInt n = v) (k : Go G d mc ms Y (pc + 1) loc (.int v :: st) h R h') : Go G d mc ms Y pc loc st h R h' :=
  go_lift (fun n hs _ => okS_t trivial hs) (fun p e s m args below meth c H locs cells slots MC MS ad ls Q S _ w => lv_iconst S.1 S.2.1 hd hv w) k
theorem go_bipush {n : Int} (hd : decode (mYc Y) pc = .ok (.bipush n, 2)) {v : Int32} (hv : (Int8.ofInt n).toInt32 = v) (k : Go G d mc ms Y (pc + 2) loc (.int v :: st) h R h') : Go G d mc ms Y pc loc st h R h' :=
  go_lift (fun n hs _ => okS_t trivial hs) (fun p e s m args below meth c H locs cells slots MC MS ad ls Q S _ w => lv_bipush S.1 S.2.1 hd hv w) k
theorem go_sipush {n : Int} (hd : decode (mYc Y) pc = .ok (.sipush n, 3)) {v : Int32} (hv : (Int16.ofInt n).toInt32 = v) (k : Go G d mc ms Y (pc + 3) loc (.int v :: st) h R h') : Go G d mc ms Y pc loc st h R h' :=
  go_lift (fun n hs _ => okS_t trivial hs) (fun p e s m args below meth c H locs cells slots MC MS ad ls Q S _ w => lv_sipush S.1 S.2.1 hd hv w) k
theorem go_lconst {n : Fin 2} (hd : decode (mYc Y) pc = .ok (.lconst n, 1)) {v : Int64} (hv : Int64.ofNat (n : Nat) = v) (k : Go G d mc ms Y (pc + 1) loc (.long v :: st) h R h') : Go G d mc ms Y pc loc st h R h' :=
  go_lift (fun n hs _ => okS_t trivial hs) (fun p e s m args below meth c H locs cells slots MC MS ad ls Q S _ w => lv_lconst S.1 S.2.1 hd hv w) k
theorem go_null (hd : decode (mYc Y) pc = .ok (.aconst_null, 1)) (k : Go G d mc ms Y (pc + 1) loc (.null :: st) h R h') : Go G d mc ms Y pc loc st h R h' :=
  go_lift (fun n hs _ => okS_t trivial hs) (fun p e s m args below meth c H locs cells slots MC MS ad ls Q S _ w => lv_null S.1 S.2.1 hd w) k
theorem go_ldc {i : Nat} (hd : decode (mYc Y) pc = .ok (.ldc i, 2)) {v : Int32} (hw : Cond.constant (mYn Y).cls i v ∈ TBg) (k : Go G d mc ms Y (pc + 2) loc (.int v :: st) h R h') : Go G d mc ms Y pc loc st h R h' :=
  go_lift (fun n hs _ => okS_t trivial hs) (fun p e s m args below meth c H locs cells slots MC MS ad ls Q S _ w => lv_ldc S.1 S.2.1 S.2.2.2.1 (S.2.2.2.2.1 _ hw) hd w) k
theorem go_ldcw {i : Nat} (hd : decode (mYc Y) pc = .ok (.ldc_w i, 3)) {v : Int32} (hw : Cond.constant (mYn Y).cls i v ∈ TBg) (k : Go G d mc ms Y (pc + 3) loc (.int v :: st) h R h') : Go G d mc ms Y pc loc st h R h' :=
  go_lift (fun n hs _ => okS_t trivial hs) (fun p e s m args below meth c H locs cells slots MC MS ad ls Q S _ w => lv_ldcw S.1 S.2.1 S.2.2.2.1 (S.2.2.2.2.1 _ hw) hd w) k
theorem go_ldc2 {i : Nat} (hd : decode (mYc Y) pc = .ok (.ldc2_w i, 3)) {v : Int64} (hw : Cond.constantLong (mYn Y).cls i v ∈ TBg) (k : Go G d mc ms Y (pc + 3) loc (.long v :: st) h R h') : Go G d mc ms Y pc loc st h R h' :=
  go_lift (fun n hs _ => okS_t trivial hs) (fun p e s m args below meth c H locs cells slots MC MS ad ls Q S _ w => lv_ldc2 S.1 S.2.1 S.2.2.2.1 (S.2.2.2.2.1 _ hw) hd w) k
theorem okL_at {n i : Nat} {v : Value} (o : okL n loc) (h : loc[i]? = some (some v)) : okV n v := o v (List.mem_of_getElem? h)
theorem go_iload_n {q : Fin 4} (hd : decode (mYc Y) pc = .ok (.iload_n q, 1)) {x : Int32} (hl : loc[(q : Nat)]? = some (some (.int x))) (k : Go G d mc ms Y (pc + 1) loc (.int x :: st) h R h') : Go G d mc ms Y pc loc st h R h' :=
  go_lift (fun n hs _ => okS_t trivial hs) (fun p e s m args below meth c H locs cells slots MC MS ad ls Q S l9 w => lv_iload_n S.1 S.2.1 hd rfl (l9.2.2 _ _ (lcv_at hl)) w) k
theorem go_iload {q : Nat} (hd : decode (mYc Y) pc = .ok (.iload q, 2)) {x : Int32} (hl : loc[q]? = some (some (.int x))) (k : Go G d mc ms Y (pc + 2) loc (.int x :: st) h R h') : Go G d mc ms Y pc loc st h R h' :=
  go_lift (fun n hs _ => okS_t trivial hs) (fun p e s m args below meth c H locs cells slots MC MS ad ls Q S l9 w => lv_iload S.1 S.2.1 hd (l9.2.2 _ _ (lcv_at hl)) w) k
theorem go_lload_n {q : Fin 4} (hd : decode (mYc Y) pc = .ok (.lload_n q, 1)) {x : Int64} (hl : loc[(q : Nat)]? = some (some (.long x))) (k : Go G d mc ms Y (pc + 1) loc (.long x :: st) h R h') : Go G d mc ms Y pc loc st h R h' :=
  go_lift (fun n hs _ => okS_t trivial hs) (fun p e s m args below meth c H locs cells slots MC MS ad ls Q S l9 w => lv_lload_n S.1 S.2.1 hd rfl (l9.2.2 _ _ (lcv_at hl)) w) k
theorem go_lload {q : Nat} (hd : decode (mYc Y) pc = .ok (.lload q, 2)) {x : Int64} (hl : loc[q]? = some (some (.long x))) (k : Go G d mc ms Y (pc + 2) loc (.long x :: st) h R h') : Go G d mc ms Y pc loc st h R h' :=
  go_lift (fun n hs _ => okS_t trivial hs) (fun p e s m args below meth c H locs cells slots MC MS ad ls Q S l9 w => lv_lload S.1 S.2.1 hd (l9.2.2 _ _ (lcv_at hl)) w) k
/-- a value that is a reference, of a new or an old thing, or null -/
def isRv (v : Value) : Bool := match v with
  | .ref _ => true
  | .retAddr _ => true
  | .null => true
  | _ => false
theorem go_aload_n {q : Fin 4} (hd : decode (mYc Y) pc = .ok (.aload_n q, 1)) {x : Value} (hl : loc[(q : Nat)]? = some (some x)) (hx : isRv x = true) (k : Go G d mc ms Y (pc + 1) loc (x :: st) h R h') : Go G d mc ms Y pc loc st h R h' :=
  go_lift (fun n hs ho => okS_i (okL_at ho hl) hs) (fun p e s m args below meth c H locs cells slots MC MS ad ls Q S l9 w => by
    have h9 := l9.2.2 _ _ (lcv_at (G := G) (ad := ad) hl)
    cases x <;> simp [isRv] at hx
    · exact lv_aload_nN S.1 S.2.1 hd rfl h9 w
    · exact lv_aload_n S.1 S.2.1 hd rfl h9 w
    · exact lv_aload_n S.1 S.2.1 hd rfl h9 w) k
theorem go_aload {q : Nat} (hd : decode (mYc Y) pc = .ok (.aload q, 2)) {x : Value} (hl : loc[q]? = some (some x)) (hx : isRv x = true) (k : Go G d mc ms Y (pc + 2) loc (x :: st) h R h') : Go G d mc ms Y pc loc st h R h' :=
  go_lift (fun n hs ho => okS_i (okL_at ho hl) hs) (fun p e s m args below meth c H locs cells slots MC MS ad ls Q S l9 w => by
    have h9 := l9.2.2 _ _ (lcv_at (G := G) (ad := ad) hl)
    cases x <;> simp [isRv] at hx
    · exact lv_aloadN S.1 S.2.1 hd h9 w
    · exact lv_aload S.1 S.2.1 hd h9 w
    · exact lv_aload S.1 S.2.1 hd h9 w) k
-- storing
/-- no long lies over the place from below -/
def lvB (loc : List (Option Value)) (i : Nat) : Bool := match i with
  | 0 => true
  | j + 1 => match loc[j]? with
    | some (some (.long _)) => false
    | some (some (.double _)) => false
    | _ => true
theorem lvB_cat {G : gC} {ad : Nat → Nat} {i j : Nat} {v : Value} (hb : lvB loc i = true) (hj : j + 1 = i) (hv : (lcv G ad loc)[j]? = some (some v)) : v.category = 1 := by
  subst hj
  simp only [lvB] at hb
  simp only [lcv, List.getElem?_map] at hv
  cases hl : loc[j]? with
  | none => simp [hl] at hv
  | some o =>
    cases o with
    | none => simp [hl] at hv
    | some w =>
      simp [hl] at hv
      rw [hl] at hb
      subst hv
      cases w <;> simp [cvV, Value.category] at hb ⊢
/-- the pairs of the places -/
def lvP (loc : List (Option Value)) : List (Nat × Value) := (loc.zipIdx).filterMap (fun q => q.1.map (fun v => (q.2, v)))
theorem lvP_mem {loc : List (Option Value)} {i : Nat} {v : Value} : (i, v) ∈ lvP loc ↔ loc[i]? = some (some v) := by
  simp only [lvP, List.mem_filterMap, Prod.exists]
  constructor
  · rintro ⟨o, j, hm, he⟩
    cases o with
    | none => simp at he
    | some w =>
      simp at he
      obtain ⟨rfl, rfl⟩ := he
      have := List.mem_zipIdx_iff_getElem?.mp hm
      simpa using this
  · intro hi
    exact ⟨some v, i, List.mem_zipIdx_iff_getElem?.mpr (by simpa using hi), rfl⟩
theorem lH_has {ls : Array Slot} {nL : Nat} (h : lH ls nL loc) : lv_has ls nL (lvP loc) := ⟨h.1, h.2.1, fun q hq => h.2.2 q.1 q.2 (lvP_mem.mp hq)⟩
theorem lH_store1 {G : gC} {ad : Nat → Nat} {ls : Array Slot} {nL i : Nat} {v : Value} (hb : lvB loc i = true) (hi : i < loc.length) (h : lv_has ls nL ((i, cvV G ad v) :: (lvP (lcv G ad loc)).filter (fun q => !(q.1 == i) && !(q.1 + 1 == i && q.2.category == 2)))) : lH ls nL (lcv G ad (loc.set i (some v))) := by
  refine ⟨h.1, h.2.1, fun j w hj => ?_⟩
  simp only [lcv, List.getElem?_map, List.getElem?_set] at hj
  by_cases e : i = j
  · subst e
    simp [hi] at hj
    subst hj
    exact h.2.2 (i, _) List.mem_cons_self
  · simp only [e, if_false] at hj
    refine h.2.2 (j, w) (List.mem_cons_of_mem _ (List.mem_filter.mpr ⟨lvP_mem.mpr (by simpa [lcv] using hj), ?_⟩))
    have n1 : ¬ j = i := fun q => e q.symm
    simp only [Bool.and_eq_true, Bool.not_eq_true', beq_eq_false_iff_ne, ne_eq, n1, not_false_eq_true, true_and, Bool.and_eq_false_iff]
    by_cases e2 : j + 1 = i
    · right
      have := lvB_cat (G := G) (ad := ad) hb e2 (by simpa [lcv] using hj)
      omega
    · left; exact e2
theorem okL_set {n i : Nat} {v : Value} (o : okL n loc) (hv : okV n v) : okL n (loc.set i (some v)) := by
  intro w hw
  rcases List.mem_or_eq_of_mem_set hw with q | q
  · exact o w q
  · cases q; exact hv
theorem okL_clr {n i : Nat} (o : okL n loc) : okL n (loc.set i none) := by
  intro w hw
  rcases List.mem_or_eq_of_mem_set hw with q | q
  · exact o w q
  · cases q
-- BY PROGRAM
theorem go_iadd {x y : Int32} (hd : decode (mYc Y) pc = .ok (.iadd, 1))  (k : Go G d mc ms Y (pc + 1) loc (.int (x + y) :: st) h R h') : Go G d mc ms Y pc loc (.int y :: .int x :: st) h R h' :=
  go_lift (fun n hs _ => okS_t trivial (okS_c (okS_c hs).2).2) (fun p e s m args below meth c H locs cells slots MC MS ad ls Q S l9 w => lv_iadd S.1 S.2.1 hd w) k
theorem go_isub {x y : Int32} (hd : decode (mYc Y) pc = .ok (.isub, 1))  (k : Go G d mc ms Y (pc + 1) loc (.int (x - y) :: st) h R h') : Go G d mc ms Y pc loc (.int y :: .int x :: st) h R h' :=
  go_lift (fun n hs _ => okS_t trivial (okS_c (okS_c hs).2).2) (fun p e s m args below meth c H locs cells slots MC MS ad ls Q S l9 w => lv_isub S.1 S.2.1 hd w) k
theorem go_imul {x y : Int32} (hd : decode (mYc Y) pc = .ok (.imul, 1))  (k : Go G d mc ms Y (pc + 1) loc (.int (x * y) :: st) h R h') : Go G d mc ms Y pc loc (.int y :: .int x :: st) h R h' :=
  go_lift (fun n hs _ => okS_t trivial (okS_c (okS_c hs).2).2) (fun p e s m args below meth c H locs cells slots MC MS ad ls Q S l9 w => lv_imul S.1 S.2.1 hd w) k
theorem go_iand {x y : Int32} (hd : decode (mYc Y) pc = .ok (.iand, 1))  (k : Go G d mc ms Y (pc + 1) loc (.int (x &&& y) :: st) h R h') : Go G d mc ms Y pc loc (.int y :: .int x :: st) h R h' :=
  go_lift (fun n hs _ => okS_t trivial (okS_c (okS_c hs).2).2) (fun p e s m args below meth c H locs cells slots MC MS ad ls Q S l9 w => lv_iand S.1 S.2.1 hd w) k
theorem go_ior {x y : Int32} (hd : decode (mYc Y) pc = .ok (.ior, 1))  (k : Go G d mc ms Y (pc + 1) loc (.int (x ||| y) :: st) h R h') : Go G d mc ms Y pc loc (.int y :: .int x :: st) h R h' :=
  go_lift (fun n hs _ => okS_t trivial (okS_c (okS_c hs).2).2) (fun p e s m args below meth c H locs cells slots MC MS ad ls Q S l9 w => lv_ior S.1 S.2.1 hd w) k
theorem go_ixor {x y : Int32} (hd : decode (mYc Y) pc = .ok (.ixor, 1))  (k : Go G d mc ms Y (pc + 1) loc (.int (x ^^^ y) :: st) h R h') : Go G d mc ms Y pc loc (.int y :: .int x :: st) h R h' :=
  go_lift (fun n hs _ => okS_t trivial (okS_c (okS_c hs).2).2) (fun p e s m args below meth c H locs cells slots MC MS ad ls Q S l9 w => lv_ixor S.1 S.2.1 hd w) k
theorem go_ishl {x y : Int32} (hd : decode (mYc Y) pc = .ok (.ishl, 1))  (k : Go G d mc ms Y (pc + 1) loc (.int (x <<< (y &&& 31)) :: st) h R h') : Go G d mc ms Y pc loc (.int y :: .int x :: st) h R h' :=
  go_lift (fun n hs _ => okS_t trivial (okS_c (okS_c hs).2).2) (fun p e s m args below meth c H locs cells slots MC MS ad ls Q S l9 w => lv_ishl S.1 S.2.1 hd w) k
theorem go_ishr {x y : Int32} (hd : decode (mYc Y) pc = .ok (.ishr, 1))  (k : Go G d mc ms Y (pc + 1) loc (.int (x >>> (y &&& 31)) :: st) h R h') : Go G d mc ms Y pc loc (.int y :: .int x :: st) h R h' :=
  go_lift (fun n hs _ => okS_t trivial (okS_c (okS_c hs).2).2) (fun p e s m args below meth c H locs cells slots MC MS ad ls Q S l9 w => lv_ishr S.1 S.2.1 hd w) k
theorem go_ladd {x y : Int64} (hd : decode (mYc Y) pc = .ok (.ladd, 1))  (k : Go G d mc ms Y (pc + 1) loc (.long (x + y) :: st) h R h') : Go G d mc ms Y pc loc (.long y :: .long x :: st) h R h' :=
  go_lift (fun n hs _ => okS_t trivial (okS_c (okS_c hs).2).2) (fun p e s m args below meth c H locs cells slots MC MS ad ls Q S l9 w => lv_ladd S.1 S.2.1 hd w) k
theorem go_lsub {x y : Int64} (hd : decode (mYc Y) pc = .ok (.lsub, 1))  (k : Go G d mc ms Y (pc + 1) loc (.long (x - y) :: st) h R h') : Go G d mc ms Y pc loc (.long y :: .long x :: st) h R h' :=
  go_lift (fun n hs _ => okS_t trivial (okS_c (okS_c hs).2).2) (fun p e s m args below meth c H locs cells slots MC MS ad ls Q S l9 w => lv_lsub S.1 S.2.1 hd w) k
theorem go_lmul {x y : Int64} (hd : decode (mYc Y) pc = .ok (.lmul, 1))  (k : Go G d mc ms Y (pc + 1) loc (.long (x * y) :: st) h R h') : Go G d mc ms Y pc loc (.long y :: .long x :: st) h R h' :=
  go_lift (fun n hs _ => okS_t trivial (okS_c (okS_c hs).2).2) (fun p e s m args below meth c H locs cells slots MC MS ad ls Q S l9 w => lv_lmul S.1 S.2.1 hd w) k
theorem go_land {x y : Int64} (hd : decode (mYc Y) pc = .ok (.land, 1))  (k : Go G d mc ms Y (pc + 1) loc (.long (x &&& y) :: st) h R h') : Go G d mc ms Y pc loc (.long y :: .long x :: st) h R h' :=
  go_lift (fun n hs _ => okS_t trivial (okS_c (okS_c hs).2).2) (fun p e s m args below meth c H locs cells slots MC MS ad ls Q S l9 w => lv_land S.1 S.2.1 hd w) k
theorem go_lor {x y : Int64} (hd : decode (mYc Y) pc = .ok (.lor, 1))  (k : Go G d mc ms Y (pc + 1) loc (.long (x ||| y) :: st) h R h') : Go G d mc ms Y pc loc (.long y :: .long x :: st) h R h' :=
  go_lift (fun n hs _ => okS_t trivial (okS_c (okS_c hs).2).2) (fun p e s m args below meth c H locs cells slots MC MS ad ls Q S l9 w => lv_lor S.1 S.2.1 hd w) k
theorem go_idiv {x y : Int32} (hd : decode (mYc Y) pc = .ok (.idiv, 1)) (hy : ¬ y = 0) (k : Go G d mc ms Y (pc + 1) loc (.int (x / y) :: st) h R h') : Go G d mc ms Y pc loc (.int y :: .int x :: st) h R h' :=
  go_lift (fun n hs _ => okS_t trivial (okS_c (okS_c hs).2).2) (fun p e s m args below meth c H locs cells slots MC MS ad ls Q S l9 w => lv_idiv S.1 S.2.1 hd hy w) k
theorem go_irem {x y : Int32} (hd : decode (mYc Y) pc = .ok (.irem, 1)) (hy : ¬ y = 0) (k : Go G d mc ms Y (pc + 1) loc (.int (x - x / y * y) :: st) h R h') : Go G d mc ms Y pc loc (.int y :: .int x :: st) h R h' :=
  go_lift (fun n hs _ => okS_t trivial (okS_c (okS_c hs).2).2) (fun p e s m args below meth c H locs cells slots MC MS ad ls Q S l9 w => lv_irem S.1 S.2.1 hd hy w) k
theorem go_ldiv {x y : Int64} (hd : decode (mYc Y) pc = .ok (.ldiv, 1)) (hy : ¬ y = 0) (k : Go G d mc ms Y (pc + 1) loc (.long (x / y) :: st) h R h') : Go G d mc ms Y pc loc (.long y :: .long x :: st) h R h' :=
  go_lift (fun n hs _ => okS_t trivial (okS_c (okS_c hs).2).2) (fun p e s m args below meth c H locs cells slots MC MS ad ls Q S l9 w => lv_ldiv S.1 S.2.1 hd hy w) k
theorem go_ineg {x : Int32} (hd : decode (mYc Y) pc = .ok (.ineg, 1))  (k : Go G d mc ms Y (pc + 1) loc (.int (-x) :: st) h R h') : Go G d mc ms Y pc loc (.int x :: st) h R h' :=
  go_lift (fun n hs _ => okS_t trivial (okS_c hs).2) (fun p e s m args below meth c H locs cells slots MC MS ad ls Q S l9 w => lv_ineg S.1 S.2.1 hd w) k
theorem go_lneg {x : Int64} (hd : decode (mYc Y) pc = .ok (.lneg, 1))  (k : Go G d mc ms Y (pc + 1) loc (.long (-x) :: st) h R h') : Go G d mc ms Y pc loc (.long x :: st) h R h' :=
  go_lift (fun n hs _ => okS_t trivial (okS_c hs).2) (fun p e s m args below meth c H locs cells slots MC MS ad ls Q S l9 w => lv_lneg S.1 S.2.1 hd w) k
theorem go_iushr {x y : Int32} (hd : decode (mYc Y) pc = .ok (.iushr, 1))  (k : Go G d mc ms Y (pc + 1) loc (.int ((x.toUInt32 >>> (y.toUInt32 &&& Int32.toUInt32 31)).toInt32) :: st) h R h') : Go G d mc ms Y pc loc (.int y :: .int x :: st) h R h' :=
  go_lift (fun n hs _ => okS_t trivial (okS_c (okS_c hs).2).2) (fun p e s m args below meth c H locs cells slots MC MS ad ls Q S l9 w => lv_iushr S.1 S.2.1 hd rfl w) k
theorem go_i2l {x : Int32} (hd : decode (mYc Y) pc = .ok (.i2l, 1))  (k : Go G d mc ms Y (pc + 1) loc (.long x.toInt64 :: st) h R h') : Go G d mc ms Y pc loc (.int x :: st) h R h' :=
  go_lift (fun n hs _ => okS_t trivial (okS_c hs).2) (fun p e s m args below meth c H locs cells slots MC MS ad ls Q S l9 w => lv_i2l S.1 S.2.1 hd rfl w) k
theorem go_l2i {x : Int64} (hd : decode (mYc Y) pc = .ok (.l2i, 1))  (k : Go G d mc ms Y (pc + 1) loc (.int x.toInt32 :: st) h R h') : Go G d mc ms Y pc loc (.long x :: st) h R h' :=
  go_lift (fun n hs _ => okS_t trivial (okS_c hs).2) (fun p e s m args below meth c H locs cells slots MC MS ad ls Q S l9 w => lv_l2i S.1 S.2.1 hd rfl w) k
theorem go_i2b {x : Int32} (hd : decode (mYc Y) pc = .ok (.i2b, 1))  (k : Go G d mc ms Y (pc + 1) loc (.int x.toInt8.toInt32 :: st) h R h') : Go G d mc ms Y pc loc (.int x :: st) h R h' :=
  go_lift (fun n hs _ => okS_t trivial (okS_c hs).2) (fun p e s m args below meth c H locs cells slots MC MS ad ls Q S l9 w => lv_i2b S.1 S.2.1 hd rfl w) k
theorem go_i2c {x : Int32} (hd : decode (mYc Y) pc = .ok (.i2c, 1))  (k : Go G d mc ms Y (pc + 1) loc (.int (x.toUInt32 % 65536).toInt32 :: st) h R h') : Go G d mc ms Y pc loc (.int x :: st) h R h' :=
  go_lift (fun n hs _ => okS_t trivial (okS_c hs).2) (fun p e s m args below meth c H locs cells slots MC MS ad ls Q S l9 w => lv_i2c S.1 S.2.1 hd rfl w) k
theorem go_lcmp {x y : Int64} (hd : decode (mYc Y) pc = .ok (.lcmp, 1))  (k : Go G d mc ms Y (pc + 1) loc (.int (lg_cmp x y) :: st) h R h') : Go G d mc ms Y pc loc (.long y :: .long x :: st) h R h' :=
  go_lift (fun n hs _ => okS_t trivial (okS_c (okS_c hs).2).2) (fun p e s m args below meth c H locs cells slots MC MS ad ls Q S l9 w => W.lcmp S.1 S.2.1 hd w) k
theorem cat_cv {G : gC} {ad : Nat → Nat} (v : Value) : (cvV G ad v).category = v.category := by cases v <;> rfl
theorem go_dup {v : Value} (hd : decode (mYc Y) pc = .ok (.dup, 1)) (hv : v.category = 1) (k : Go G d mc ms Y (pc + 1) loc (v :: v :: st) h R h') : Go G d mc ms Y pc loc (v :: st) h R h' :=
  go_lift (fun n hs _ => okS_i (okS_c hs).1 hs) (fun p e s m args below meth c H locs cells slots MC MS ad ls Q S l9 w => lv_dup S.1 S.2.1 hd (by rw [cat_cv]; exact hv) w) k
theorem go_pop {v : Value} (hd : decode (mYc Y) pc = .ok (.pop, 1)) (hv : v.category = 1) (k : Go G d mc ms Y (pc + 1) loc (st) h R h') : Go G d mc ms Y pc loc (v :: st) h R h' :=
  go_lift (fun n hs _ => (okS_c hs).2) (fun p e s m args below meth c H locs cells slots MC MS ad ls Q S l9 w => lv_pop S.1 S.2.1 hd (va := cvV G ad v) (by rw [cat_cv]; exact hv) w) k
theorem go_dup2 {v u : Value} (hd : decode (mYc Y) pc = .ok (.dup2, 1)) (hv : v.category = 1) (hu : u.category = 1) (k : Go G d mc ms Y (pc + 1) loc (v :: u :: v :: u :: st) h R h') : Go G d mc ms Y pc loc (v :: u :: st) h R h' :=
  go_lift (fun n hs _ => okS_i (okS_c hs).1 (okS_i (okS_c (okS_c hs).2).1 hs)) (fun p e s m args below meth c H locs cells slots MC MS ad ls Q S l9 w => lv_dup2_11 S.1 S.2.1 hd (by rw [cat_cv]; exact hv) (by rw [cat_cv]; exact hu) w) k
theorem go_dup2L {v : Value} (hd : decode (mYc Y) pc = .ok (.dup2, 1)) (hv : v.category = 2) (k : Go G d mc ms Y (pc + 1) loc (v :: v :: st) h R h') : Go G d mc ms Y pc loc (v :: st) h R h' :=
  go_lift (fun n hs _ => okS_i (okS_c hs).1 hs) (fun p e s m args below meth c H locs cells slots MC MS ad ls Q S l9 w => lv_dup2_2 S.1 S.2.1 hd (by rw [cat_cv]; exact hv) w) k
theorem go_goto {off : Int} {tgt : Nat} (hd : decode (mYc Y) pc = .ok (.goto off, 3)) (ht : (pc : Int) + off = (tgt : Int)) (k : Go G d mc ms Y tgt loc (st) h R h') : Go G d mc ms Y pc loc (st) h R h' :=
  go_lift (fun n hs _ => hs) (fun p e s m args below meth c H locs cells slots MC MS ad ls Q S l9 w => lv_goto S.1 S.2.1 hd ht w) k
theorem go_if_eq {x : Int32} {off : Int} {tgt : Nat} (hd : decode (mYc Y) pc = .ok (.ifCond .eq off, 3)) (ht : (pc : Int) + off = (tgt : Int)) (kt : (x = 0) → Go G d mc ms Y tgt loc st h R h') (kf : ¬ (x = 0) → Go G d mc ms Y (pc + 3) loc st h R h') : Go G d mc ms Y pc loc (.int x :: st) h R h' := by
  by_cases q : (x = 0)
  · exact go_lift (fun n hs _ => (okS_c hs).2) (fun p e s m args below meth c H locs cells slots MC MS ad ls Q S l9 w => lv_if_eq S.1 S.2.1 hd ht (fun _ => w) (fun z => absurd q z)) (kt q)
  · exact go_lift (fun n hs _ => (okS_c hs).2) (fun p e s m args below meth c H locs cells slots MC MS ad ls Q S l9 w => lv_if_eq S.1 S.2.1 hd ht (fun z => absurd z q) (fun _ => w)) (kf q)
theorem go_if_lt {x : Int32} {off : Int} {tgt : Nat} (hd : decode (mYc Y) pc = .ok (.ifCond .lt off, 3)) (ht : (pc : Int) + off = (tgt : Int)) (kt : (x < 0) → Go G d mc ms Y tgt loc st h R h') (kf : ¬ (x < 0) → Go G d mc ms Y (pc + 3) loc st h R h') : Go G d mc ms Y pc loc (.int x :: st) h R h' := by
  by_cases q : (x < 0)
  · exact go_lift (fun n hs _ => (okS_c hs).2) (fun p e s m args below meth c H locs cells slots MC MS ad ls Q S l9 w => lv_if_lt S.1 S.2.1 hd ht (fun _ => w) (fun z => absurd q z)) (kt q)
  · exact go_lift (fun n hs _ => (okS_c hs).2) (fun p e s m args below meth c H locs cells slots MC MS ad ls Q S l9 w => lv_if_lt S.1 S.2.1 hd ht (fun z => absurd z q) (fun _ => w)) (kf q)
theorem go_icmp_eq {x y : Int32} {off : Int} {tgt : Nat} (hd : decode (mYc Y) pc = .ok (.if_icmp .eq off, 3)) (ht : (pc : Int) + off = (tgt : Int)) (kt : (x = y) → Go G d mc ms Y tgt loc st h R h') (kf : ¬ (x = y) → Go G d mc ms Y (pc + 3) loc st h R h') : Go G d mc ms Y pc loc (.int y :: .int x :: st) h R h' := by
  by_cases q : (x = y)
  · exact go_lift (fun n hs _ => (okS_c (okS_c hs).2).2) (fun p e s m args below meth c H locs cells slots MC MS ad ls Q S l9 w => lv_icmp_eq S.1 S.2.1 hd ht (fun _ => w) (fun z => absurd q z)) (kt q)
  · exact go_lift (fun n hs _ => (okS_c (okS_c hs).2).2) (fun p e s m args below meth c H locs cells slots MC MS ad ls Q S l9 w => lv_icmp_eq S.1 S.2.1 hd ht (fun z => absurd z q) (fun _ => w)) (kf q)
theorem go_icmp_lt {x y : Int32} {off : Int} {tgt : Nat} (hd : decode (mYc Y) pc = .ok (.if_icmp .lt off, 3)) (ht : (pc : Int) + off = (tgt : Int)) (kt : (x < y) → Go G d mc ms Y tgt loc st h R h') (kf : ¬ (x < y) → Go G d mc ms Y (pc + 3) loc st h R h') : Go G d mc ms Y pc loc (.int y :: .int x :: st) h R h' := by
  by_cases q : (x < y)
  · exact go_lift (fun n hs _ => (okS_c (okS_c hs).2).2) (fun p e s m args below meth c H locs cells slots MC MS ad ls Q S l9 w => lv_icmp_lt S.1 S.2.1 hd ht (fun _ => w) (fun z => absurd q z)) (kt q)
  · exact go_lift (fun n hs _ => (okS_c (okS_c hs).2).2) (fun p e s m args below meth c H locs cells slots MC MS ad ls Q S l9 w => lv_icmp_lt S.1 S.2.1 hd ht (fun z => absurd z q) (fun _ => w)) (kf q)
theorem go_if_ge {x : Int32} {off : Int} {tgt : Nat} (hd : decode (mYc Y) pc = .ok (.ifCond .ge off, 3)) (ht : (pc : Int) + off = (tgt : Int)) (kt : (0 ≤ x) → Go G d mc ms Y tgt loc st h R h') (kf : ¬ (0 ≤ x) → Go G d mc ms Y (pc + 3) loc st h R h') : Go G d mc ms Y pc loc (.int x :: st) h R h' := by
  by_cases q : (0 ≤ x)
  · exact go_lift (fun n hs _ => (okS_c hs).2) (fun p e s m args below meth c H locs cells slots MC MS ad ls Q S l9 w => lv_if_ge S.1 S.2.1 hd ht (fun _ => w) (fun z => absurd q z)) (kt q)
  · exact go_lift (fun n hs _ => (okS_c hs).2) (fun p e s m args below meth c H locs cells slots MC MS ad ls Q S l9 w => lv_if_ge S.1 S.2.1 hd ht (fun z => absurd z q) (fun _ => w)) (kf q)
theorem go_if_gt {x : Int32} {off : Int} {tgt : Nat} (hd : decode (mYc Y) pc = .ok (.ifCond .gt off, 3)) (ht : (pc : Int) + off = (tgt : Int)) (kt : (0 < x) → Go G d mc ms Y tgt loc st h R h') (kf : ¬ (0 < x) → Go G d mc ms Y (pc + 3) loc st h R h') : Go G d mc ms Y pc loc (.int x :: st) h R h' := by
  by_cases q : (0 < x)
  · exact go_lift (fun n hs _ => (okS_c hs).2) (fun p e s m args below meth c H locs cells slots MC MS ad ls Q S l9 w => lv_if_gt S.1 S.2.1 hd ht (fun _ => w) (fun z => absurd q z)) (kt q)
  · exact go_lift (fun n hs _ => (okS_c hs).2) (fun p e s m args below meth c H locs cells slots MC MS ad ls Q S l9 w => lv_if_gt S.1 S.2.1 hd ht (fun z => absurd z q) (fun _ => w)) (kf q)
theorem go_if_le {x : Int32} {off : Int} {tgt : Nat} (hd : decode (mYc Y) pc = .ok (.ifCond .le off, 3)) (ht : (pc : Int) + off = (tgt : Int)) (kt : (x ≤ 0) → Go G d mc ms Y tgt loc st h R h') (kf : ¬ (x ≤ 0) → Go G d mc ms Y (pc + 3) loc st h R h') : Go G d mc ms Y pc loc (.int x :: st) h R h' := by
  by_cases q : (x ≤ 0)
  · exact go_lift (fun n hs _ => (okS_c hs).2) (fun p e s m args below meth c H locs cells slots MC MS ad ls Q S l9 w => lv_if_le S.1 S.2.1 hd ht (fun _ => w) (fun z => absurd q z)) (kt q)
  · exact go_lift (fun n hs _ => (okS_c hs).2) (fun p e s m args below meth c H locs cells slots MC MS ad ls Q S l9 w => lv_if_le S.1 S.2.1 hd ht (fun z => absurd z q) (fun _ => w)) (kf q)
theorem go_icmp_ge {x y : Int32} {off : Int} {tgt : Nat} (hd : decode (mYc Y) pc = .ok (.if_icmp .ge off, 3)) (ht : (pc : Int) + off = (tgt : Int)) (kt : (y ≤ x) → Go G d mc ms Y tgt loc st h R h') (kf : ¬ (y ≤ x) → Go G d mc ms Y (pc + 3) loc st h R h') : Go G d mc ms Y pc loc (.int y :: .int x :: st) h R h' := by
  by_cases q : (y ≤ x)
  · exact go_lift (fun n hs _ => (okS_c (okS_c hs).2).2) (fun p e s m args below meth c H locs cells slots MC MS ad ls Q S l9 w => lv_icmp_ge S.1 S.2.1 hd ht (fun _ => w) (fun z => absurd q z)) (kt q)
  · exact go_lift (fun n hs _ => (okS_c (okS_c hs).2).2) (fun p e s m args below meth c H locs cells slots MC MS ad ls Q S l9 w => lv_icmp_ge S.1 S.2.1 hd ht (fun z => absurd z q) (fun _ => w)) (kf q)
theorem go_icmp_gt {x y : Int32} {off : Int} {tgt : Nat} (hd : decode (mYc Y) pc = .ok (.if_icmp .gt off, 3)) (ht : (pc : Int) + off = (tgt : Int)) (kt : (y < x) → Go G d mc ms Y tgt loc st h R h') (kf : ¬ (y < x) → Go G d mc ms Y (pc + 3) loc st h R h') : Go G d mc ms Y pc loc (.int y :: .int x :: st) h R h' := by
  by_cases q : (y < x)
  · exact go_lift (fun n hs _ => (okS_c (okS_c hs).2).2) (fun p e s m args below meth c H locs cells slots MC MS ad ls Q S l9 w => lv_icmp_gt S.1 S.2.1 hd ht (fun _ => w) (fun z => absurd q z)) (kt q)
  · exact go_lift (fun n hs _ => (okS_c (okS_c hs).2).2) (fun p e s m args below meth c H locs cells slots MC MS ad ls Q S l9 w => lv_icmp_gt S.1 S.2.1 hd ht (fun z => absurd z q) (fun _ => w)) (kf q)
theorem go_icmp_le {x y : Int32} {off : Int} {tgt : Nat} (hd : decode (mYc Y) pc = .ok (.if_icmp .le off, 3)) (ht : (pc : Int) + off = (tgt : Int)) (kt : (x ≤ y) → Go G d mc ms Y tgt loc st h R h') (kf : ¬ (x ≤ y) → Go G d mc ms Y (pc + 3) loc st h R h') : Go G d mc ms Y pc loc (.int y :: .int x :: st) h R h' := by
  by_cases q : (x ≤ y)
  · exact go_lift (fun n hs _ => (okS_c (okS_c hs).2).2) (fun p e s m args below meth c H locs cells slots MC MS ad ls Q S l9 w => lv_icmp_le S.1 S.2.1 hd ht (fun _ => w) (fun z => absurd q z)) (kt q)
  · exact go_lift (fun n hs _ => (okS_c (okS_c hs).2).2) (fun p e s m args below meth c H locs cells slots MC MS ad ls Q S l9 w => lv_icmp_le S.1 S.2.1 hd ht (fun z => absurd z q) (fun _ => w)) (kf q)
theorem go_if_ne {x : Int32} {off : Int} {tgt : Nat} (hd : decode (mYc Y) pc = .ok (.ifCond .ne off, 3)) (ht : (pc : Int) + off = (tgt : Int)) (kt : ¬ (x = 0) → Go G d mc ms Y tgt loc st h R h') (kf : (x = 0) → Go G d mc ms Y (pc + 3) loc st h R h') : Go G d mc ms Y pc loc (.int x :: st) h R h' := by
  by_cases q : (x = 0)
  · exact go_lift (fun n hs _ => (okS_c hs).2) (fun p e s m args below meth c H locs cells slots MC MS ad ls Q S l9 w => lv_if_ne S.1 S.2.1 hd ht (fun z => absurd q z) (fun _ => w)) (kf q)
  · exact go_lift (fun n hs _ => (okS_c hs).2) (fun p e s m args below meth c H locs cells slots MC MS ad ls Q S l9 w => lv_if_ne S.1 S.2.1 hd ht (fun _ => w) (fun z => absurd z q)) (kt q)
theorem go_icmp_ne {x y : Int32} {off : Int} {tgt : Nat} (hd : decode (mYc Y) pc = .ok (.if_icmp .ne off, 3)) (ht : (pc : Int) + off = (tgt : Int)) (kt : ¬ (x = y) → Go G d mc ms Y tgt loc st h R h') (kf : (x = y) → Go G d mc ms Y (pc + 3) loc st h R h') : Go G d mc ms Y pc loc (.int y :: .int x :: st) h R h' := by
  by_cases q : (x = y)
  · exact go_lift (fun n hs _ => (okS_c (okS_c hs).2).2) (fun p e s m args below meth c H locs cells slots MC MS ad ls Q S l9 w => lv_icmp_ne S.1 S.2.1 hd ht (fun z => absurd q z) (fun _ => w)) (kf q)
  · exact go_lift (fun n hs _ => (okS_c (okS_c hs).2).2) (fun p e s m args below meth c H locs cells slots MC MS ad ls Q S l9 w => lv_icmp_ne S.1 S.2.1 hd ht (fun _ => w) (fun z => absurd z q)) (kt q)
theorem go_ifnull_r {v : Value} {off : Int} (hd : decode (mYc Y) pc = .ok (.ifnull off, 3)) (hv : isRv v = true) (hn : v ≠ .null) (k : Go G d mc ms Y (pc + 3) loc (st) h R h') : Go G d mc ms Y pc loc (v :: st) h R h' :=
  go_lift (fun n hs _ => (okS_c hs).2) (fun p e s m args below meth c H locs cells slots MC MS ad ls Q S l9 w => by cases v <;> simp [isRv] at hv hn ⊢ <;> exact lv_ifnull S.1 S.2.1 hd w) k
theorem go_ifnonnull_r {v : Value} {off : Int} {tgt : Nat} (hd : decode (mYc Y) pc = .ok (.ifnonnull off, 3)) (ht : (pc : Int) + off = (tgt : Int)) (hv : isRv v = true) (hn : v ≠ .null) (k : Go G d mc ms Y tgt loc (st) h R h') : Go G d mc ms Y pc loc (v :: st) h R h' :=
  go_lift (fun n hs _ => (okS_c hs).2) (fun p e s m args below meth c H locs cells slots MC MS ad ls Q S l9 w => by cases v <;> simp [isRv] at hv hn ⊢ <;> exact lv_ifnonnull S.1 S.2.1 hd ht w) k
theorem go_ifnull_n {off : Int} {tgt : Nat} (hd : decode (mYc Y) pc = .ok (.ifnull off, 3)) (ht : (pc : Int) + off = (tgt : Int)) (k : Go G d mc ms Y tgt loc (st) h R h') : Go G d mc ms Y pc loc (.null :: st) h R h' :=
  go_lift (fun n hs _ => (okS_c hs).2) (fun p e s m args below meth c H locs cells slots MC MS ad ls Q S l9 w => lv_ifnullN S.1 S.2.1 hd ht w) k
theorem go_ifnonnull_n {off : Int} (hd : decode (mYc Y) pc = .ok (.ifnonnull off, 3))  (k : Go G d mc ms Y (pc + 3) loc (st) h R h') : Go G d mc ms Y pc loc (.null :: st) h R h' :=
  go_lift (fun n hs _ => (okS_c hs).2) (fun p e s m args below meth c H locs cells slots MC MS ad ls Q S l9 w => lv_ifnonnullN S.1 S.2.1 hd w) k
theorem go_tableOut {dflt lo hi : Int} {offs : Array Int} {len : Nat} {x : Int32} {tgt : Nat} (hd : decode (mYc Y) pc = .ok (.tableswitch dflt lo hi offs, len)) (hx : x.toInt < lo ∨ hi < x.toInt) (ht : (pc : Int) + dflt = (tgt : Int)) (k : Go G d mc ms Y tgt loc (st) h R h') : Go G d mc ms Y pc loc (.int x :: st) h R h' :=
  go_lift (fun n hs _ => (okS_c hs).2) (fun p e s m args below meth c H locs cells slots MC MS ad ls Q S l9 w => lv_tableOut S.1 S.2.1 hd hx ht w) k
theorem go_tableIn {dflt lo hi : Int} {offs : Array Int} {len : Nat} {x : Int32} {off : Int} {tgt : Nat} (hd : decode (mYc Y) pc = .ok (.tableswitch dflt lo hi offs, len)) (h1 : ¬ x.toInt < lo) (h2 : ¬ hi < x.toInt) (ho : offs[(x.toInt - lo).toNat]? = some off) (ht : (pc : Int) + off = (tgt : Int)) (k : Go G d mc ms Y tgt loc (st) h R h') : Go G d mc ms Y pc loc (.int x :: st) h R h' :=
  go_lift (fun n hs _ => (okS_c hs).2) (fun p e s m args below meth c H locs cells slots MC MS ad ls Q S l9 w => lv_tableIn S.1 S.2.1 hd h1 h2 ho ht w) k
theorem lcv_len {G : gC} {ad : Nat → Nat} : (lcv G ad loc).length = loc.length := by simp [lcv]
/-- a row that stores one value of one place -/
theorem go_store1 {v : Value} {i pc' : Nat} (hb : lvB loc i = true) (hi : i < loc.length)
    (row : ∀ (p : Program) (e : Env) (s : State) (m : MethodId) (args : Array Value) (below : List Frame) (meth : Method) (c : Code) (H : Heap) (locs : List Loc) (cells slots MC MS : Nat) (ad : Nat → Nat) (ls : Array Slot) (Q : State → Prop),
      SX G Y p s m args meth c → lH ls (mYl Y) (lcv G ad loc) → (∀ ls', lv_has ls' (mYl Y) ((i, cvV G ad v) :: (lvP (lcv G ad loc)).filter (fun q => !(q.1 == i) && !(q.1 + 1 == i && q.2.category == 2))) → W p (gl G) e (rmR d MC MS) s m args below meth c H locs cells slots Q (F0 m pc' ls' (st.map (cvV G ad)))) →
      W p (gl G) e (rmR d MC MS) s m args below meth c H locs cells slots Q (F0 m pc ls ((v :: st).map (cvV G ad))))
    (k : Go G d mc ms Y pc' (loc.set i (some v)) st h R h') : Go G d mc ms Y pc loc (v :: st) h R h' := by
  intro p e s m args below meth c H locs cells slots MC MS ad ls S X
  obtain ⟨x1, x2, x3, x4, x5, x6, x7, x8, x9⟩ := X
  refine row p e s m args below meth c H locs cells slots MC MS ad ls _ S x7 (fun ls' h9 => ?_)
  exact k p e s m args below meth c H locs cells slots MC MS ad ls' S ⟨x1, x2, x3, x4, okL_set x5 (okS_c x6).1, (okS_c x6).2, lH_store1 hb hi h9, x8, x9⟩
theorem go_istore_n {q : Fin 4} {x : Int32} (hd : decode (mYc Y) pc = .ok (.istore_n q, 1)) (hn : (q : Nat) < mYl Y) (hb : lvB loc q = true) (hi : (q : Nat) < loc.length) (k : Go G d mc ms Y (pc + 1) (loc.set q (some (.int x))) st h R h') : Go G d mc ms Y pc loc (.int x :: st) h R h' :=
  go_store1 hb hi (fun p e s m args below meth c H locs cells slots MC MS ad ls Q S l9 w => lv_istore_n S.1 S.2.1 hd rfl (lH_has l9) hn rfl w) k
theorem go_istore {q : Nat} {x : Int32} (hd : decode (mYc Y) pc = .ok (.istore q, 2)) (hn : q < mYl Y) (hb : lvB loc q = true) (hi : q < loc.length) (k : Go G d mc ms Y (pc + 2) (loc.set q (some (.int x))) st h R h') : Go G d mc ms Y pc loc (.int x :: st) h R h' :=
  go_store1 hb hi (fun p e s m args below meth c H locs cells slots MC MS ad ls Q S l9 w => lv_istore S.1 S.2.1 hd (lH_has l9) hn rfl w) k
theorem go_astore_n {q : Fin 4} {v : Value} (hd : decode (mYc Y) pc = .ok (.astore_n q, 1)) (hv : isRv v = true) (hn : (q : Nat) < mYl Y) (hb : lvB loc q = true) (hi : (q : Nat) < loc.length) (k : Go G d mc ms Y (pc + 1) (loc.set q (some v)) st h R h') : Go G d mc ms Y pc loc (v :: st) h R h' :=
  go_store1 hb hi (fun p e s m args below meth c H locs cells slots MC MS ad ls Q S l9 w => by
    cases v <;> simp [isRv] at hv
    · exact lv_astore_nN S.1 S.2.1 hd rfl (lH_has l9) hn rfl w
    · exact lv_astore_n S.1 S.2.1 hd rfl (lH_has l9) hn rfl w
    · exact lv_astore_n S.1 S.2.1 hd rfl (lH_has l9) hn rfl w) k
theorem go_astore {q : Nat} {v : Value} (hd : decode (mYc Y) pc = .ok (.astore q, 2)) (hv : isRv v = true) (hn : q < mYl Y) (hb : lvB loc q = true) (hi : q < loc.length) (k : Go G d mc ms Y (pc + 2) (loc.set q (some v)) st h R h') : Go G d mc ms Y pc loc (v :: st) h R h' :=
  go_store1 hb hi (fun p e s m args below meth c H locs cells slots MC MS ad ls Q S l9 w => by
    cases v <;> simp [isRv] at hv
    · exact lv_astoreN S.1 S.2.1 hd (lH_has l9) hn rfl w
    · exact lv_astore S.1 S.2.1 hd (lH_has l9) hn rfl w
    · exact lv_astore S.1 S.2.1 hd (lH_has l9) hn rfl w) k
theorem lH_store2 {G : gC} {ad : Nat → Nat} {ls : Array Slot} {nL i : Nat} {x : Int64} (hb : lvB loc i = true) (hi : i + 1 < loc.length) (h : lv_has ls nL ((i, Value.long x) :: (lvP (lcv G ad loc)).filter (fun q => !(q.1 == i) && (!(q.1 == i + 1) && !(q.1 + 1 == i && q.2.category == 2))))) : lH ls nL (lcv G ad ((loc.set i (some (.long x))).set (i + 1) none)) := by
  refine ⟨h.1, h.2.1, fun j w hj => ?_⟩
  simp only [lcv, List.getElem?_map, List.getElem?_set, List.length_set] at hj
  by_cases e1 : i + 1 = j
  · subst e1
    simp [hi] at hj
  · simp only [e1, if_false] at hj
    by_cases e : i = j
    · subst e
      simp [show i < loc.length by omega] at hj
      subst hj
      exact h.2.2 (i, _) List.mem_cons_self
    · simp only [e, if_false] at hj
      refine h.2.2 (j, w) (List.mem_cons_of_mem _ (List.mem_filter.mpr ⟨lvP_mem.mpr (by simpa [lcv] using hj), ?_⟩))
      have n1 : ¬ j = i := fun q => e q.symm
      have n2 : ¬ j = i + 1 := fun q => e1 q.symm
      simp only [Bool.and_eq_true, Bool.not_eq_true', beq_eq_false_iff_ne, ne_eq, n1, n2, not_false_eq_true, true_and, Bool.and_eq_false_iff]
      by_cases e2 : j + 1 = i
      · right
        have := lvB_cat (G := G) (ad := ad) hb e2 (by simpa [lcv] using hj)
        omega
      · left; exact e2
theorem go_storeL {x : Int64} {i pc' : Nat} (hb : lvB loc i = true) (hi : i + 1 < loc.length)
    (row : ∀ (p : Program) (e : Env) (s : State) (m : MethodId) (args : Array Value) (below : List Frame) (meth : Method) (c : Code) (H : Heap) (locs : List Loc) (cells slots MC MS : Nat) (ad : Nat → Nat) (ls : Array Slot) (Q : State → Prop),
      SX G Y p s m args meth c → lH ls (mYl Y) (lcv G ad loc) → (∀ ls', lv_has ls' (mYl Y) ((i, Value.long x) :: (lvP (lcv G ad loc)).filter (fun q => !(q.1 == i) && (!(q.1 == i + 1) && !(q.1 + 1 == i && q.2.category == 2)))) → W p (gl G) e (rmR d MC MS) s m args below meth c H locs cells slots Q (F0 m pc' ls' (st.map (cvV G ad)))) →
      W p (gl G) e (rmR d MC MS) s m args below meth c H locs cells slots Q (F0 m pc ls ((.long x :: st).map (cvV G ad))))
    (k : Go G d mc ms Y pc' ((loc.set i (some (.long x))).set (i + 1) none) st h R h') : Go G d mc ms Y pc loc (.long x :: st) h R h' := by
  intro p e s m args below meth c H locs cells slots MC MS ad ls S X
  obtain ⟨x1, x2, x3, x4, x5, x6, x7, x8, x9⟩ := X
  refine row p e s m args below meth c H locs cells slots MC MS ad ls _ S x7 (fun ls' h9 => ?_)
  exact k p e s m args below meth c H locs cells slots MC MS ad ls' S ⟨x1, x2, x3, x4, okL_clr (okL_set x5 (okS_c x6).1), (okS_c x6).2, lH_store2 hb hi h9, x8, x9⟩
theorem go_lstore_n {q : Fin 4} {x : Int64} (hd : decode (mYc Y) pc = .ok (.lstore_n q, 1)) (hn : (q : Nat) + 1 < mYl Y) (hb : lvB loc q = true) (hi : (q : Nat) + 1 < loc.length) (k : Go G d mc ms Y (pc + 1) ((loc.set q (some (.long x))).set ((q : Nat) + 1) none) st h R h') : Go G d mc ms Y pc loc (.long x :: st) h R h' :=
  go_storeL hb hi (fun p e s m args below meth c H locs cells slots MC MS ad ls Q S l9 w => lv_lstore_n S.1 S.2.1 hd rfl (lH_has l9) hn rfl w) k
theorem go_lstore {q : Nat} {x : Int64} (hd : decode (mYc Y) pc = .ok (.lstore q, 2)) (hn : q + 1 < mYl Y) (hb : lvB loc q = true) (hi : q + 1 < loc.length) (k : Go G d mc ms Y (pc + 2) ((loc.set q (some (.long x))).set (q + 1) none) st h R h') : Go G d mc ms Y pc loc (.long x :: st) h R h' :=
  go_storeL hb hi (fun p e s m args below meth c H locs cells slots MC MS ad ls Q S l9 w => lv_lstore S.1 S.2.1 hd (lH_has l9) hn rfl w) k
theorem go_iinc {i : Nat} {n : Int} {x v : Int32} (hd : decode (mYc Y) pc = .ok (.iinc i n, 3)) (hl : loc[i]? = some (some (.int x))) (hv : x + Int32.ofInt n = v) (hn : i < mYl Y) (hb : lvB loc i = true) (k : Go G d mc ms Y (pc + 3) (loc.set i (some (.int v))) st h R h') : Go G d mc ms Y pc loc st h R h' := by
  intro p e s m args below meth c H locs cells slots MC MS ad ls S X
  obtain ⟨x1, x2, x3, x4, x5, x6, x7, x8, x9⟩ := X
  obtain ⟨k9, hk9⟩ := List.getElem?_of_mem (lvP_mem.mpr (lcv_at (G := G) (ad := ad) hl))
  refine lv_iinc S.1 S.2.1 hd (lH_has x7) hk9 hv hn rfl (fun ls' h9 => ?_)
  exact k p e s m args below meth c H locs cells slots MC MS ad ls' S ⟨x1, x2, x3, x4, okL_set x5 trivial, x6, lH_store1 hb (List.getElem?_eq_some_iff.mp hl).1 h9, x8, x9⟩
/-- fewer locals are remembered -/
theorem go_forget {loc' : List (Option Value)} (hl : ∀ (i : Nat) (v : Value), loc'[i]? = some (some v) → loc[i]? = some (some v)) (k : Go G d mc ms Y pc loc' st h R h') : Go G d mc ms Y pc loc st h R h' := by
  intro p e s m args below meth c H locs cells slots MC MS ad ls S X
  obtain ⟨x1, x2, x3, x4, x5, x6, x7, x8, x9⟩ := X
  refine k p e s m args below meth c H locs cells slots MC MS ad ls S ⟨x1, x2, x3, x4, fun v hv => ?_, x6, ⟨x7.1, x7.2.1, fun i v hi => ?_⟩, x8, x9⟩
  · obtain ⟨i, hi⟩ := List.getElem?_of_mem hv
    exact okL_at x5 (hl i v hi)
  · simp only [lcv, List.getElem?_map] at hi
    cases hj : loc'[i]? with
    | none => simp [hj] at hi
    | some o =>
      cases o with
      | none => simp [hj] at hi
      | some w =>
        simp [hj] at hi
        subst hi
        exact x7.2.2 i _ (lcv_at (hl i w hj))
end GoSimple
