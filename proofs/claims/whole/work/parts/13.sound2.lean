/-! THE PURE MACHINE IS RIGHT, 2: what makes an instruction's data right; one instruction -/
section SoundB
def szC (c : pC) : Nat := match c with | .inl (_, n, _) => n | .inr (_, fs) => fs.length
def sz (h : pH) : Nat := (h.map szC).sum
theorem sz_set : ∀ {h : pH} {a : Nat} {c c' : pC}, h[a]? = some c → szC c' = szC c → sz (h.set a c') = sz h
  | [], _, _, _, h, _ => by simp at h
  | x :: h, 0, c, c', e, s => by simp at e; subst e; simp [sz, s]
  | x :: h, a + 1, c, c', e, s => by
    simp at e
    have := sz_set (c' := c') e s
    simp only [sz, List.set_cons_succ, List.map_cons, List.sum_cons] at this ⊢
    omega
theorem sz_push {h : pH} {c : pC} : sz (h ++ [c]) = sz h + szC c := by simp [sz]
def GoE (G : gC) (d e : Nat) (Y : mY) (pc : Nat) (loc : pL) (st : List Value) (h : pH) (R : rS) (h' : pH) : Prop :=
  h.length ≤ h'.length ∧ sz h ≤ sz h' ∧ Go G d (h'.length - h.length + e) (sz h' - sz h + 6 * e) Y pc loc st h R h'
def EvE (G : gC) (d e : Nat) (Z : mY) (av : List Value) (h : pH) (R : rS) (h' : pH) : Prop :=
  h.length ≤ h'.length ∧ sz h ≤ sz h' ∧ Ev G d (h'.length - h.length + e) (sz h' - sz h + 6 * e) Z av h R h'
variable {G : gC} {d e : Nat} {Y : mY} {pc pc' : Nat} {loc loc' : pL} {st st' : List Value} {h h' : pH} {R : rS}
theorem go_mono {mc ms mc' ms' : Nat} (h1 : mc ≤ mc') (h2 : ms ≤ ms') (k : Go G d mc ms Y pc loc st h R h') : Go G d mc' ms' Y pc loc st h R h' := by
  intro p e s m args below meth c H locs cells slots MC MS ad ls S X
  obtain ⟨x1, x2, x3, x4, x5, x6, x7, x8, x9⟩ := X
  exact k p e s m args below meth c H locs cells slots MC MS ad ls S ⟨x1, x2, x3, x4, x5, x6, x7, by omega, by omega⟩
theorem ge_mono {e' : Nat} (he : e' ≤ e) (k : GoE G d e' Y pc loc st h R h') : GoE G d e Y pc loc st h R h' :=
  ⟨k.1, k.2.1, go_mono (by omega) (by omega) k.2.2⟩
theorem ge_same (k : GoE G d e Y pc' loc' st' h R h') (rule : ∀ mc ms, Go G d mc ms Y pc' loc' st' h R h' → Go G d mc ms Y pc loc st h R h') : GoE G d e Y pc loc st h R h' := ⟨k.1, k.2.1, rule _ _ k.2.2⟩
theorem ge_set {a : Nat} {c c' : pC} (ha : h[a]? = some c) (hs : szC c' = szC c) (k : GoE G d e Y pc' loc' st' (h.set a c') R h') (rule : ∀ mc ms, Go G d mc ms Y pc' loc' st' (h.set a c') R h' → Go G d mc ms Y pc loc st h R h') : GoE G d e Y pc loc st h R h' := by
  obtain ⟨k1, k2, k3⟩ := k
  rw [List.length_set] at k1 k3
  rw [sz_set ha hs] at k2 k3
  exact ⟨k1, k2, rule _ _ k3⟩
theorem ge_new {c : pC} (k : GoE G d e Y pc' loc' st' (h ++ [c]) R h') (rule : ∀ mc ms, Go G d mc ms Y pc' loc' st' (h ++ [c]) R h' → Go G d (mc + 1) (ms + szC c) Y pc loc st h R h') : GoE G d e Y pc loc st h R h' := by
  obtain ⟨k1, k2, k3⟩ := k
  rw [List.length_append, List.length_singleton] at k1 k3
  rw [sz_push] at k2 k3
  exact ⟨by omega, by omega, go_mono (by omega) (by omega) (rule _ _ k3)⟩
/-- behind a call -/
theorem ge_call {d1 e1 : Nat} {Z : mY} {av : List Value} {R1 : rS} {h1 : pH} (E : EvE G d1 e1 Z av h R1 h1) (k : GoE G d e Y pc' loc' st' h1 R h') (rule : ∀ mc1 ms1 mc ms, Ev G d1 mc1 ms1 Z av h R1 h1 → Go G d mc ms Y pc' loc' st' h1 R h' → Go G d (mc1 + mc) (ms1 + ms) Y pc loc st h R h') : GoE G d (e1 + e) Y pc loc st h R h' := by
  obtain ⟨k1, k2, k3⟩ := k
  obtain ⟨q1, q2, q3⟩ := E
  exact ⟨by omega, by omega, go_mono (by omega) (by omega) (rule _ _ _ _ q3 k3)⟩
theorem ge_thr {d1 e1 : Nat} {Z : mY} {av : List Value} {R1 : rS} {h1 : pH} (E : EvE G d1 e1 Z av h R1 h1) (rule : ∀ mc1 ms1, Ev G d1 mc1 ms1 Z av h R1 h1 → Go G d (mc1 + 0) (ms1 + 0) Y pc loc st h R h1) : GoE G d e1 Y pc loc st h R h1 := by
  obtain ⟨q1, q2, q3⟩ := E
  exact ⟨q1, q2, rule _ _ q3⟩
/-- the room that a thrown thing takes -/
def tcR (R : rS) : Nat := match R with | .inl _ => 0 | .inr _ => 1
def ceE (md : Nat) (R : rS) : Nat := match md with | 0 => tcR R | 1 => 10 | _ => 0
def isRT (ty : FieldType) : Prop := (∃ n, ty = .object n) ∨ ∃ t, ty = .array t
/-- the entry idx is String's method Z -/
def CVS (own : String) (idx : Nat) (Z : mY) (n : Nat) : Prop := (mYn Z).cls = "java/lang/String" ∧ mYh Z = [] ∧ mYl Z ≤ 27 ∧ Cond.methodLink own idx (mYn Z) ∈ TBg ∧ Cond.instanceMethod (mYn Z) ∈ TBg ∧ Cond.selects "java/lang/String" (mYn Z) (mYn Z) ∈ TBg ∧ Cond.initialized "java/lang/String" ∈ TBg ∧ Cond.code (mYn Z) (mYc Z) (mYl Z) (mYr Z) ∈ TBg ∧
  ((mYn Z).cls ≠ "java/lang/invoke/MethodHandle" ∧ (mYn Z).cls ≠ "java/lang/invoke/VarHandle" ∧ (parseMethodDescriptor (mYn Z).desc).map (fun d => d.parameters.length) = some n)
/-- a throw at pc of E is taken, and the body goes on at q, local k is lost -/
def HC (Y : mY) (pc : Nat) (E : String) (q k : Nat) : Prop := ∃ (pre : List ExceptionTableEntry) (x : ExceptionTableEntry) (suf : List ExceptionTableEntry) (len : Nat), tableOf (mYh Y) = pre ++ x :: suf ∧ E ∈ excT ∧ (∀ z ∈ pre, z.catchType ≠ 0 ∧ ∃ nm ∈ excT, Cond.classLink (mYn Y).cls z.catchType nm ∈ TBg ∧ E ≠ nm) ∧ covers x pc = true ∧ x.catchType ≠ 0 ∧ Cond.classLink (mYn Y).cls x.catchType E ∈ TBg ∧ Cond.castable E E ∈ faceW ∧
  ((decode (mYc Y) x.handlerPc = .ok (.astore k, 2) ∧ len = 2) ∨ (∃ q : Fin 4, (q : Nat) = k ∧ decode (mYc Y) x.handlerPc = .ok (.astore_n q, 1) ∧ len = 1)) ∧ q = x.handlerPc + len
/-- the method that answers its first number, if that is not below 0 and below its second -/
def CkP (P : mY) : Prop := ∀ (G : gC) (d : Nat) (h : pH) (i n : Int32) (v : Value), (gl G).stackTraces = false → isRv v = true → ¬ i < 0 → ¬ n ≤ i → Ev G d 0 0 P [.int i, .int n, v] h (.inl (some (.int i))) h
/-- at pc a cls is made and thrown -/
def GT (Y : mY) (pc : Nat) (cls : String) : Prop := ∀ (G : gC) (d mc ms : Nat) (loc : pL) (st : List Value) (h : pH), (st.map (fun v => v.category)).sum ≤ 8 → Go G d (mc + 1) (ms + 6) Y pc loc st h (.inr cls) h
-- Math's own max and min
def MM5 (own : String) (idx : Nat) : Prop := Cond.methodLink own idx Lib.Math.max.name ∈ TBg ∧ Cond.static Lib.Math.max.name ∈ TBg ∧ Cond.initialized "java/lang/Math" ∈ TBg ∧ Cond.code Lib.Math.max.name Lib.Math.max.code 2 (some .int) ∈ TBg
def MM6 (own : String) (idx : Nat) : Prop := Cond.methodLink own idx Lib.Math.min.name ∈ TBg ∧ Cond.static Lib.Math.min.name ∈ TBg ∧ Cond.initialized "java/lang/Math" ∈ TBg ∧ Cond.code Lib.Math.min.name Lib.Math.min.code 2 (some .int) ∈ TBg
def MM7 (own : String) (idx : Nat) : Prop := Cond.methodLink own idx Lib.MathLoose.max_long.x ∈ TBg ∧ Cond.static Lib.MathLoose.max_long.x ∈ TBg ∧ Cond.initialized "java/lang/Math" ∈ TBg ∧ Cond.code Lib.MathLoose.max_long.x Lib.MathLoose.max_long.code 4 (some .long) ∈ TBg
def MM8 (own : String) (idx : Nat) : Prop := Cond.methodLink own idx Lib.MathLoose.min_long.x ∈ TBg ∧ Cond.static Lib.MathLoose.min_long.x ∈ TBg ∧ Cond.initialized "java/lang/Math" ∈ TBg ∧ Cond.code Lib.MathLoose.min_long.x Lib.MathLoose.min_long.code 4 (some .long) ∈ TBg
/-- how long an instruction is -/
def lenI (ins : Instr) : Nat := match ins with
  | .bipush _ | .ldc _ | .iload _ | .lload _ | .aload _ | .istore _ | .lstore _ | .astore _ | .newarray _ => 2
  | .sipush _ | .ldc_w _ | .ldc2_w _ | .iinc _ _ | .getfield _ | .putfield _ | .getstatic _ | .anewarray _ | .new _ | .goto _ | .ifCond _ _ | .if_icmp _ _ | .ifnull _ | .ifnonnull _ | .invokevirtual _ | .invokestatic _ | .invokespecial _ => 3
  | _ => 1
def swOk (pc : Nat) : List Int → List (Int32 × Nat) → Int → Prop
  | [], [], _ => True
  | o :: os, (y, t) :: l, x => y.toInt = x ∧ (pc : Int) + o = (t : Int) ∧ swOk pc os l (x + 1)
  | _, _, _ => False
/-- an instruction's data is right -/
def VX (MY : List (mY × Nat)) (dfl : Nat → List Value) (Y : mY) (md : Nat) (ct : cL) (pc : Nat) (ri : rI) : Prop := match ri with
  | (ins, _, fc, _, a, b, c, e, v, w, tb) => match ins with
    | .iconst n => Int32.ofInt n = v
    | .bipush n => (Int8.ofInt n).toInt32 = v
    | .sipush n => (Int16.ofInt n).toInt32 = v
    | .lconst n => Int64.ofNat (n : Nat) = w
    | .ldc2_w i => Cond.constantLong (mYn Y).cls i w ∈ TBg
    | .ldc i => (c = 0 ∧ Cond.constant (mYn Y).cls i v ∈ TBg) ∨ (c = 1 ∧ a = 100 + b ∧ ∃ q : String × Nat × String, strT[b]? = some q ∧ q.1 = (mYn Y).cls ∧ q.2.1 = i)
    | .ldc_w i => (c = 0 ∧ Cond.constant (mYn Y).cls i v ∈ TBg) ∨ (c = 1 ∧ a = 100 + b ∧ ∃ q : String × Nat × String, strT[b]? = some q ∧ q.1 = (mYn Y).cls ∧ q.2.1 = i)
    | .iload i => a = i
    | .iload_n i => a = (i : Nat)
    | .lload i => a = i
    | .lload_n i => a = (i : Nat)
    | .aload i => a = i
    | .aload_n i => a = (i : Nat)
    | .istore i => a = i
    | .istore_n i => a = (i : Nat)
    | .astore i => a = i
    | .astore_n i => a = (i : Nat)
    | .lstore i => a = i ∧ b = a + 1
    | .lstore_n i => a = (i : Nat) ∧ b = a + 1
    | .iinc i n => a = i ∧ Int32.ofInt n = v
    | .getfield i => (c < 2 ∧ ∃ ty fin, FL (mYn Y).cls i a b ty fin) ∨ (c = 2 ∧ Cond.fieldLink (mYn Y).cls i "java/lang/String" "coder" "B" ∈ TBg) ∨ (c = 3 ∧ Cond.fieldLink (mYn Y).cls i "java/lang/String" "value" "[B" ∈ TBg)
    | .putfield i => (c = 0 ∧ FL (mYn Y).cls i a b .int false) ∨ (c = 1 ∧ FL (mYn Y).cls i a b .int true ∧ (mYn Y).name = "<init>" ∧ (vwCl[a]?).map (fun q => q.1) = some (mYn Y).cls) ∨ (c = 2 ∧ FL (mYn Y).cls i a b .boolean false) ∨ (c = 3 ∧ ∃ ty, isRT ty ∧ FL (mYn Y).cls i a b ty false) ∨ (c = 4 ∧ (∃ ty, isRT ty ∧ FL (mYn Y).cls i a b ty true) ∧ (mYn Y).name = "<init>" ∧ (vwCl[a]?).map (fun q => q.1) = some (mYn Y).cls)
    | .getstatic i => (c = 0 ∧ a = 1 + b ∧ ∃ q : String × String × List Int32, statT[b]? = some q ∧ Cond.fieldLink (mYn Y).cls i q.1 q.2.1 "[I" ∈ TBg) ∨ (c = 1 ∧ Cond.fieldLink (mYn Y).cls i "java/lang/String" "COMPACT_STRINGS" "Z" ∈ TBg) ∨ (c = 2 ∧ a = pc + 7 ∧ Cond.fieldLink (mYn Y).cls i "jdk/internal/util/Preconditions" "SIOOBE_FORMATTER" "Ljava/util/function/BiFunction;" ∈ TBg ∧ ∃ j P, decode (mYc Y) (pc + 3) = .ok (.invokestatic j, 3) ∧ decode (mYc Y) (pc + 6) = .ok (.pop, 1) ∧ CS (mYn Y).cls j P 3 ∧ CkP P)
    | .newarray t => (c = 0 ∧ t = .int ∧ Cond.arrayClass .int ∈ TBg) ∨ (c = 1 ∧ t = .byte ∧ Cond.arrayClass .byte ∈ TBg) ∨ (c = 2 ∧ t = .boolean ∧ Cond.arrayClass .boolean ∈ TBg) ∨ (c = 3 ∧ t = .long ∧ Cond.arrayClass .long ∈ TBg)
    | .anewarray i => Cond.classLink (mYn Y).cls i "GreatEstate$Text" ∈ TBg
    | .new i => (c = 0 ∧ ∃ N, (dfl a).length = N ∧ NW (mYn Y).cls i a N (dfl a)) ∨ (c = 1 ∧ md = 0 ∧ GT Y pc (xnm a))
    | .goto o => (pc : Int) + o = (a : Int)
    | .ifCond _ o => (pc : Int) + o = (a : Int)
    | .if_icmp _ o => (pc : Int) + o = (a : Int)
    | .ifnull o => (pc : Int) + o = (a : Int)
    | .ifnonnull o => (pc : Int) + o = (a : Int)
    | .tableswitch df lo hi offs => (pc : Int) + df = (a : Int) ∧ hi = lo + tb.length - 1 ∧ swOk pc offs.toList tb lo
    | .ireturn => (c = 0 ∧ mYr Y = some .int) ∨ (c = 1 ∧ mYr Y = some .boolean) ∨ (c = 2 ∧ mYr Y = some .byte) ∨ (c = 3 ∧ mYr Y = some .char)
    | .lreturn => mYr Y = some .long
    | .areturn => ∃ n, mYr Y = some (.object n)
    | .return_ => mYr Y = none
    | .invokevirtual i => (c = 9 ∧ ∃ Z, MY[a]? = some (Z, 0) ∧ CVS (mYn Y).cls i Z b) ∨ (c ≠ 9 ∧ (∃ Z, MY[a]? = some (Z, 0) ∧ CV (mYn Y).cls i e Z b) ∧ (md = 1 → ∀ E q k, clk ct E = some (q, k) → HC Y pc E q k))
    | .invokestatic i => (e = 0 ∧ ∃ Z, MY[a]? = some (Z, 0) ∧ CS (mYn Y).cls i Z b) ∨ (e = 1 ∧ ∃ j Z, MY[a]? = some (Z, 0) ∧ CN (mYn Y).cls i j Z b) ∨ (e = 2 ∧ Cond.methodLink (mYn Y).cls i arraycopyName ∈ TBg ∧ Cond.native arraycopyName ∈ TBg ∧ Cond.static arraycopyName ∈ TBg ∧ Cond.initialized "java/lang/System" ∈ TBg) ∨ (e = 3 ∧ fc = true ∧ md = 2 ∧ ∃ Z, MY[a]? = some (Z, 1) ∧ CH (mYn Y).cls i Z b) ∨ (e = 5 ∧ MM5 (mYn Y).cls i) ∨ (e = 6 ∧ MM6 (mYn Y).cls i) ∨ (e = 7 ∧ MM7 (mYn Y).cls i) ∨ (e = 8 ∧ MM8 (mYn Y).cls i)
    | .invokespecial i => (e = 0 ∧ ∃ Z, MY[a]? = some (Z, 0) ∧ CI (mYn Y).cls i Z b) ∨ (e = 1 ∧ Cond.methodLink (mYn Y).cls i objectInit ∈ TBg ∧ Cond.instanceMethod objectInit ∈ TBg ∧ Cond.code objectInit ⟨#[0xb1]⟩ 1 none ∈ TBg)
    | _ => True
def VI (MY : List (mY × Nat)) (dfl : Nat → List Value) (Y : mY) (md : Nat) (ct : cL) (q : Nat × rI) : Prop := (match q.2.1 with
  | .tableswitch _ _ _ _ => ∃ len, decode (mYc Y) q.1 = .ok (q.2.1, len)
  | _ => decode (mYc Y) q.1 = .ok (q.2.1, lenI q.2.1) ∧ q.2.2.1 = q.1 + lenI q.2.1) ∧ VX MY dfl Y md ct q.1 q.2
def VL (MY : List (mY × Nat)) (dfl : Nat → List Value) (Y : mY) (md : Nat) (ct : cL) : List (Nat × rI) → Prop
  | [] => True
  | q :: l => VI MY dfl Y md ct q ∧ VL MY dfl Y md ct l
def VC (MY : List (mY × Nat)) (dfl : Nat → List Value) (Y : mY) (md : Nat) (ct : cL) : List (Nat × List (Nat × rI)) → Prop
  | [] => True
  | q :: l => VL MY dfl Y md ct q.2 ∧ VC MY dfl Y md ct l
/-- a method's data is right -/
def VE (MY : List (mY × Nat)) (dfl : Nat → List Value) (E : mE) : Prop := VC MY dfl E.1 E.2.2.1 E.2.2.2 E.2.1 ∧ plainName (mYn E.1).cls = true ∧ ((E.2.2.1 = 0 ∧ (mYn E.1).name ≠ "law" ∧ mYh E.1 = []) ∨ (E.2.2.1 = 1 ∧ (mYn E.1).name ≠ "law" ∧ mYh E.1 ≠ []) ∨ E.2.2.1 = 2)
theorem lk2_x {MY : List (mY × Nat)} {dfl : Nat → List Value} {md : Nat} {ct : cL} : ∀ {l : List (Nat × rI)} {pc : Nat} {r : rI}, VL MY dfl Y md ct l → lk2 l pc = some r → VI MY dfl Y md ct (pc, r)
  | [], _, _, _, h => by cases h
  | (q, r0) :: l, pc, r, hv, h => by
    unfold lk2 at h
    cases hb : Nat.beq q pc with
    | true => rw [hb] at h; cases h; rw [← Nat.eq_of_beq_eq_true hb]; exact hv.1
    | false => rw [hb] at h; exact lk2_x hv.2 h
theorem lk1_x {MY : List (mY × Nat)} {dfl : Nat → List Value} {md : Nat} {ct : cL} : ∀ {l : List (Nat × List (Nat × rI))} {pc : Nat} {r : rI}, VC MY dfl Y md ct l → lk1 l pc = some r → VI MY dfl Y md ct (pc, r)
  | [], _, _, _, h => by cases h
  | (q, r0) :: l, pc, r, hv, h => by
    unfold lk1 at h
    cases hb : Nat.ble pc q with
    | true => rw [hb] at h; exact lk2_x hv.1 h
    | false => rw [hb] at h; exact lk1_x hv.2 h
end SoundB
