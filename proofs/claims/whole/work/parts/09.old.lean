/-! RULES: old things (the script, static arrays, string constants) -/
section GoOld
variable {G : gC} {d mc ms : Nat} {Y : mY} {pc : Nat} {loc : List (Option Value)} {st : List Value} {h h' : pH} {R : rS}
/-- a row that changes the stack alone, and may look at old things -/
theorem go_liftO {pc' : Nat} {st' : List Value} (hok : ∀ n, okS n st → okS n st')
    (row : ∀ (p : Program) (e : Env) (s : State) (m : MethodId) (args : Array Value) (below : List Frame) (meth : Method) (c : Code) (H : Heap) (locs : List Loc) (cells slots MC MS : Nat) (ad : Nat → Nat) (ls : Array Slot) (Q : State → Prop),
      SX G Y p s m args meth c → va_S (gA G) s.heap H locs → W p (gl G) e (rmR d MC MS) s m args below meth c H locs cells slots Q (F0 m pc' ls (st'.map (cvV G ad))) → W p (gl G) e (rmR d MC MS) s m args below meth c H locs cells slots Q (F0 m pc ls (st.map (cvV G ad))))
    (k : Go G d mc ms Y pc' loc st' h R h') : Go G d mc ms Y pc loc st h R h' := by
  intro p e s m args below meth c H locs cells slots MC MS ad ls S X
  obtain ⟨x1, x2, x3, x4, x5, x6, x7, x8, x9⟩ := X
  exact row p e s m args below meth c H locs cells slots MC MS ad ls _ S x3 (k p e s m args below meth c H locs cells slots MC MS ad ls S ⟨x1, x2, x3, x4, x5, hok _ x6, x7, x8, x9⟩)
theorem go_scriptLoad {i : Int32} (hd : decode (mYc Y) pc = .ok (.iaload, 1)) (hi : vp_in i (gL G)) (k : Go G d mc ms Y (pc + 1) loc (.int (gxs G i.toNatClampNeg) :: st) h R h') : Go G d mc ms Y pc loc (.int i :: .retAddr 0 :: st) h R h' :=
  go_liftO (fun n hs => okS_t trivial (okS_c (okS_c hs).2).2) (fun p e s m args below meth c H locs cells slots MC MS ad ls Q S x3 w =>
    va_sld S.1 S.2.1 S.2.2.2.2.2.2.2.2.2.1.1 (Nat.lt_of_lt_of_le S.2.2.2.2.2.2.2.2.2.1.2.1 S.2.2.2.2.2.2.2.2.2.1.2.2.1) (Nat.not_le.mpr S.2.2.2.2.2.2.2.2.2.1.2.1) x3 hi hd w) k
theorem go_scriptLen (hd : decode (mYc Y) pc = .ok (.arraylength, 1)) (k : Go G d mc ms Y (pc + 1) loc (.int (nI (gL G)) :: st) h R h') : Go G d mc ms Y pc loc (.retAddr 0 :: st) h R h' :=
  go_liftO (fun n hs => okS_t trivial (okS_c hs).2) (fun p e s m args below meth c H locs cells slots MC MS ad ls Q S x3 w =>
    va_slen S.1 S.2.1 S.2.2.2.2.2.2.2.2.2.1.1 (Nat.lt_of_lt_of_le S.2.2.2.2.2.2.2.2.2.1.2.1 S.2.2.2.2.2.2.2.2.2.1.2.2.1) (Nat.not_le.mpr S.2.2.2.2.2.2.2.2.2.1.2.1) x3 hd w) k
theorem SX.o {p : Program} {s : State} {m : MethodId} {args : Array Value} {meth : Method} {c : Code} (S : SX G Y p s m args meth c) : OldS G s := S.2.2.2.2.2.2.2.2.2.1.2.2.2.2
theorem go_getstaticA {i idx : Nat} {q : String × String × List Int32} (hd : decode (mYc Y) pc = .ok (.getstatic idx, 3)) (hq : statT[i]? = some q) (hw : Cond.fieldLink (mYn Y).cls idx q.1 q.2.1 "[I" ∈ TBg) (k : Go G d mc ms Y (pc + 3) loc (.retAddr (1 + i) :: st) h R h') : Go G d mc ms Y pc loc st h R h' :=
  go_liftO (fun n hs => okS_t trivial hs) (fun p e s m args below meth c H locs cells slots MC MS ad ls Q S x3 w =>
    va_gets S.1 S.2.1 (S.o.2.2.2.2.1 i q hq).1 x3 S.2.2.2.1 (S.2.2.2.2.1 _ hw) (fun x hx => hx) hd w) k
theorem go_getstaticCS {idx : Nat} (hd : decode (mYc Y) pc = .ok (.getstatic idx, 3)) (hw : Cond.fieldLink (mYn Y).cls idx "java/lang/String" "COMPACT_STRINGS" "Z" ∈ TBg) (k : Go G d mc ms Y (pc + 3) loc (.int 1 :: st) h R h') : Go G d mc ms Y pc loc st h R h' :=
  go_liftO (fun n hs => okS_t trivial hs) (fun p e s m args below meth c H locs cells slots MC MS ad ls Q S x3 w =>
    va_gets S.1 S.2.1 S.o.2.1.1 x3 S.2.2.2.1 (S.2.2.2.2.1 _ hw) (fun x hx => hx) hd w) k
/-- a static of which only 'a reference or null' is known -/
theorem go_getstaticF {idx : Nat} (hd : decode (mYc Y) pc = .ok (.getstatic idx, 3)) (hw : Cond.fieldLink (mYn Y).cls idx "jdk/internal/util/Preconditions" "SIOOBE_FORMATTER" "Ljava/util/function/BiFunction;" ∈ TBg) (k : ∀ v, isRv v = true → Go G d mc ms Y (pc + 3) loc (v :: st) h R h') : Go G d mc ms Y pc loc st h R h' := by
  intro p e s m args below meth c H locs cells slots MC MS ad ls S X
  obtain ⟨x1, x2, x3, x4, x5, x6, x7, x8, x9⟩ := X
  rcases S.o.2.1.2 with z | z
  · exact va_gets S.1 S.2.1 z x3 S.2.2.2.1 (S.2.2.2.2.1 _ hw) (fun x hx => hx) hd (k .null rfl p e s m args below meth c H locs cells slots MC MS ad ls S ⟨x1, x2, x3, x4, x5, okS_t trivial x6, x7, x8, x9⟩)
  · exact va_gets S.1 S.2.1 z x3 S.2.2.2.1 (S.2.2.2.2.1 _ hw) (fun x hx => hx) hd (k (.retAddr 50) rfl p e s m args below meth c H locs cells slots MC MS ad ls S ⟨x1, x2, x3, x4, x5, okS_t trivial x6, x7, x8, x9⟩)
theorem go_ialoadA {i : Nat} {q : String × String × List Int32} {j : Int32} (hd : decode (mYc Y) pc = .ok (.iaload, 1)) (hq : statT[i]? = some q) (hj : vp_in j q.2.2.length) (k : Go G d mc ms Y (pc + 1) loc (.int (q.2.2.getD j.toNatClampNeg 0) :: st) h R h') : Go G d mc ms Y pc loc (.int j :: .retAddr (1 + i) :: st) h R h' :=
  go_liftO (fun n hs => okS_t trivial (okS_c (okS_c hs).2).2) (fun p e s m args below meth c H locs cells slots MC MS ad ls Q S x3 w =>
    va_ti S.1 S.2.1 (S.o.2.2.2.2.1 i q hq).2 x3 hj rfl hd w) k
theorem go_ldcS {i idx : Nat} {q : String × Nat × String} (hd : decode (mYc Y) pc = .ok (.ldc idx, 2)) (hq : strT[i]? = some q) (ho : q.1 = (mYn Y).cls) (hi : q.2.1 = idx) (k : Go G d mc ms Y (pc + 2) loc (.retAddr (100 + i) :: st) h R h') : Go G d mc ms Y pc loc st h R h' :=
  go_liftO (fun n hs => okS_t trivial hs) (fun p e s m args below meth c H locs cells slots MC MS ad ls Q S x3 w => by
    have hR := S.o.2.2.2.2.2.1 i q hq
    rw [ho, hi] at hR
    exact va_ldcS S.1 S.2.1 S.2.2.2.1 hR hd w) k
theorem ldcwS {p : Program} {l : Launch} {e : Env} {R : Room} {s : State} {m : MethodId} {args : Array Value} {below : List Frame} {meth : Method} {c : Code} {T : State} {locs : List Loc} {cells slots : Nat}
    (X : Stand p l e R s m args below meth c T locs cells slots) (hexec : p.tables.exec = Jvm.exec) {own text : String} {index : Nat} {a : Addr} (hown : s.vm.findClass own = some m.cls)
    (hconst : (Cond.stringRef own index text).before args s = true) (hev : (Term.string own index).eval args s none [] s = some (.ref a)) {g : JFrame} (hg : g.method = m) (hdg : decode c.code g.pc = .ok (.ldc_w index, 3)) :
    ∀ target, Steps p.tables e below (T.setTop { g with pc := g.pc + 3, stack := .ref a :: g.stack }) target → Steps p.tables e below (T.setTop g) target := by
  obtain ⟨k, cf, i, a', hk, hcf, hcp, -, hr, hev'⟩ := Cond.stringRef_spec hown hconst
  cases hev.symm.trans hev'
  obtain ⟨k', hk', he⟩ := X.warmed.alike.2.2 _ _ hk
  have hr' : k'.resolved[index]? = some (some (.string a)) := by
    rcases X.warmed.entry hk hk' index with h | ⟨h, -⟩
    · rw [h]; exact hr
    · rw [hr] at h; cases h
  intro target hrest
  subst hg
  jvm_step X.here [hexec, hdg, ldc_w.wp_string (e := e) (s := T) (f := g) X.here.top hk' (by rw [he]; exact hcf) hcp hr']
  exact hrest
theorem go_ldcwS {i idx : Nat} {q : String × Nat × String} (hd : decode (mYc Y) pc = .ok (.ldc_w idx, 3)) (hq : strT[i]? = some q) (ho : q.1 = (mYn Y).cls) (hi : q.2.1 = idx) (k : Go G d mc ms Y (pc + 3) loc (.retAddr (100 + i) :: st) h R h') : Go G d mc ms Y pc loc st h R h' :=
  go_liftO (fun n hs => okS_t trivial hs) (fun p e s m args below meth c H locs cells slots MC MS ad ls Q S x3 w => by
    have hR := S.o.2.2.2.2.2.1 i q hq
    rw [ho, hi] at hR
    intro T hT X
    obtain ⟨t, a1, b1⟩ := w T hT X
    exact ⟨t, ldcwS X S.1 S.2.2.2.1 hR.1 hR.2 (g := F0 m pc ls (st.map (cvV G ad))) rfl (by rw [S.2.1]; exact hd) t a1, b1⟩) k
-- a string's own fields and bytes
theorem go_strCoder {i idx : Nat} (hd : decode (mYc Y) pc = .ok (.getfield idx, 3)) (hi : i < strT.length) (hw : Cond.fieldLink (mYn Y).cls idx "java/lang/String" "coder" "B" ∈ TBg) (k : Go G d mc ms Y (pc + 3) loc (.int 0 :: st) h R h') : Go G d mc ms Y pc loc (.retAddr (100 + i) :: st) h R h' :=
  go_liftO (fun n hs => okS_t trivial (okS_c hs).2) (fun p e s m args below meth c H locs cells slots MC MS ad ls Q S x3 w =>
    vk_getf S.1 S.2.1 (S.o.2.2.2.2.2.2.1.1 i hi).2.1 x3 S.2.2.2.1 (S.2.2.2.2.1 _ hw) (fun x hx => hx) hd w) k
theorem go_strValue {i idx : Nat} (hd : decode (mYc Y) pc = .ok (.getfield idx, 3)) (hi : i < strT.length) (hw : Cond.fieldLink (mYn Y).cls idx "java/lang/String" "value" "[B" ∈ TBg) (k : Go G d mc ms Y (pc + 3) loc (.retAddr (10000 + i) :: st) h R h') : Go G d mc ms Y pc loc (.retAddr (100 + i) :: st) h R h' :=
  go_liftO (fun n hs => okS_t trivial (okS_c hs).2) (fun p e s m args below meth c H locs cells slots MC MS ad ls Q S x3 w =>
    vk_getf S.1 S.2.1 (S.o.2.2.2.2.2.2.1.1 i hi).2.2.1 x3 S.2.2.2.1 (S.2.2.2.2.1 _ hw) (fun x hx => hx) hd w) k
theorem go_strByte {i : Nat} {j : Int32} (hd : decode (mYc Y) pc = .ok (.baload, 1)) (hi : i < strT.length) (hj : vp_in j (strLen.getD i 0)) (k : Go G d mc ms Y (pc + 1) loc (.int ((strByt.getD i []).getD j.toNatClampNeg 0) :: st) h R h') : Go G d mc ms Y pc loc (.int j :: .retAddr (10000 + i) :: st) h R h' :=
  go_liftO (fun n hs => okS_t trivial (okS_c (okS_c hs).2).2) (fun p e s m args below meth c H locs cells slots MC MS ad ls Q S x3 w =>
    va_tb S.1 S.2.1 (S.o.2.2.2.2.2.2.1.1 i hi).2.2.2 x3 hj rfl hd w) k
theorem go_strLen {i : Nat} (hd : decode (mYc Y) pc = .ok (.arraylength, 1)) (hi : i < strT.length) (k : Go G d mc ms Y (pc + 1) loc (.int (nI (strLen.getD i 0)) :: st) h R h') : Go G d mc ms Y pc loc (.retAddr (10000 + i) :: st) h R h' :=
  go_liftO (fun n hs => okS_t trivial (okS_c hs).2) (fun p e s m args below meth c H locs cells slots MC MS ad ls Q S x3 w =>
    va_tlen S.1 S.2.1 (S.o.2.2.2.2.2.2.1.1 i hi).2.2.2 x3 rfl hd w) k
end GoOld
