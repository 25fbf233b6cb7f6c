/-! RULES: making arrays and objects -/
section GoMake
variable {G : gC} {d mc ms : Nat} {Y : mY} {pc : Nat} {loc : List (Option Value)} {st : List Value} {h h' : pH} {R : rS}
theorem go_newI {n : Int32} {N : Nat} (hd : decode (mYc Y) pc = .ok (.newarray .int, 2)) (hw : Cond.arrayClass .int ∈ TBg) (h0 : ¬ n < 0) (hN : n.toNatClampNeg = N) (hb : N ≤ 100000) (kk : Go G d mc ms Y (pc + 2) loc (.ref h.length :: st) (h ++ [.inl (0, N, .inl (fun _ => 0))]) R h') : Go G d (mc + 1) (ms + N) Y pc loc (.int n :: st) h R h' :=
  go_make (c1 := .inl (0, N, .inl (fun _ => 0))) (fun _ => trivial) (fun n hs => (okS_c hs).2) (fun p e s m args below meth c H locs cells slots MC MS ad ls Q S x1 x2 x3 hc hs w => by
    have hK := S.2.2.2.2.2.2.2.2.2.2.1
    refine va_newa (a0 := (N, .inl (fun _ => 0))) (atype := .int) S.1 S.2.1 (S.2.2.2.2.1 _ hw) (ty := .int) rfl hK x1 x2 x3 S.2.2.2.2.2.2.2.2.2.2.2.1 (fun cA => rfl) h0 hN (by simp only [componentBytes]; omega) hc hs hd (fun q cA H1 hK1 hP hD hS1 => ?_)
    have e1 : s.vm.findClass ("[" ++ FieldType.toString .int) = some cA := (hK1.2 5 (cA, .int) rfl).2
    have e2 : s.vm.findClass ("[" ++ FieldType.toString .int) = some (gtc G 0) := (hK.2 0 (gtc G 0, .int) rfl).2
    have e3 : cA = gtc G 0 := Option.some.inj (e1.symm.trans e2)
    subst e3
    exact w q H1 hP hD hS1) kk
theorem go_newB {n : Int32} {N : Nat} (hd : decode (mYc Y) pc = .ok (.newarray .byte, 2)) (hw : Cond.arrayClass .byte ∈ TBg) (h0 : ¬ n < 0) (hN : n.toNatClampNeg = N) (hb : N ≤ 100000) (kk : Go G d mc ms Y (pc + 2) loc (.ref h.length :: st) (h ++ [.inl (1, N, .inl (fun _ => 0))]) R h') : Go G d (mc + 1) (ms + N) Y pc loc (.int n :: st) h R h' :=
  go_make (c1 := .inl (1, N, .inl (fun _ => 0))) (fun _ => trivial) (fun n hs => (okS_c hs).2) (fun p e s m args below meth c H locs cells slots MC MS ad ls Q S x1 x2 x3 hc hs w => by
    have hK := S.2.2.2.2.2.2.2.2.2.2.1
    refine va_newa (a0 := (N, .inl (fun _ => 0))) (atype := .byte) S.1 S.2.1 (S.2.2.2.2.1 _ hw) (ty := .byte) rfl hK x1 x2 x3 S.2.2.2.2.2.2.2.2.2.2.2.1 (fun cA => rfl) h0 hN (by simp only [componentBytes]; omega) hc hs hd (fun q cA H1 hK1 hP hD hS1 => ?_)
    have e1 : s.vm.findClass ("[" ++ FieldType.toString .byte) = some cA := (hK1.2 5 (cA, .byte) rfl).2
    have e2 : s.vm.findClass ("[" ++ FieldType.toString .byte) = some (gtc G 1) := (hK.2 1 (gtc G 1, .byte) rfl).2
    have e3 : cA = gtc G 1 := Option.some.inj (e1.symm.trans e2)
    subst e3
    exact w q H1 hP hD hS1) kk
theorem go_newZ {n : Int32} {N : Nat} (hd : decode (mYc Y) pc = .ok (.newarray .boolean, 2)) (hw : Cond.arrayClass .boolean ∈ TBg) (h0 : ¬ n < 0) (hN : n.toNatClampNeg = N) (hb : N ≤ 100000) (kk : Go G d mc ms Y (pc + 2) loc (.ref h.length :: st) (h ++ [.inl (2, N, .inl (fun _ => 0))]) R h') : Go G d (mc + 1) (ms + N) Y pc loc (.int n :: st) h R h' :=
  go_make (c1 := .inl (2, N, .inl (fun _ => 0))) (fun _ => trivial) (fun n hs => (okS_c hs).2) (fun p e s m args below meth c H locs cells slots MC MS ad ls Q S x1 x2 x3 hc hs w => by
    have hK := S.2.2.2.2.2.2.2.2.2.2.1
    refine va_newa (a0 := (N, .inl (fun _ => 0))) (atype := .boolean) S.1 S.2.1 (S.2.2.2.2.1 _ hw) (ty := .boolean) rfl hK x1 x2 x3 S.2.2.2.2.2.2.2.2.2.2.2.1 (fun cA => rfl) h0 hN (by simp only [componentBytes]; omega) hc hs hd (fun q cA H1 hK1 hP hD hS1 => ?_)
    have e1 : s.vm.findClass ("[" ++ FieldType.toString .boolean) = some cA := (hK1.2 5 (cA, .boolean) rfl).2
    have e2 : s.vm.findClass ("[" ++ FieldType.toString .boolean) = some (gtc G 2) := (hK.2 2 (gtc G 2, .boolean) rfl).2
    have e3 : cA = gtc G 2 := Option.some.inj (e1.symm.trans e2)
    subst e3
    exact w q H1 hP hD hS1) kk
theorem go_newJ {n : Int32} {N : Nat} (hd : decode (mYc Y) pc = .ok (.newarray .long, 2)) (hw : Cond.arrayClass .long ∈ TBg) (h0 : ¬ n < 0) (hN : n.toNatClampNeg = N) (hb : N ≤ 100000) (kk : Go G d mc ms Y (pc + 2) loc (.ref h.length :: st) (h ++ [.inl (3, N, .inr (.inl (fun _ => 0)))]) R h') : Go G d (mc + 1) (ms + N) Y pc loc (.int n :: st) h R h' :=
  go_make (c1 := .inl (3, N, .inr (.inl (fun _ => 0)))) (fun _ => trivial) (fun n hs => (okS_c hs).2) (fun p e s m args below meth c H locs cells slots MC MS ad ls Q S x1 x2 x3 hc hs w => by
    have hK := S.2.2.2.2.2.2.2.2.2.2.1
    refine va_newa (a0 := (N, .inr (.inl (fun _ => 0)))) (atype := .long) S.1 S.2.1 (S.2.2.2.2.1 _ hw) (ty := .long) rfl hK x1 x2 x3 S.2.2.2.2.2.2.2.2.2.2.2.1 (fun cA => rfl) h0 hN (by simp only [componentBytes]; omega) hc hs hd (fun q cA H1 hK1 hP hD hS1 => ?_)
    have e1 : s.vm.findClass ("[" ++ FieldType.toString .long) = some cA := (hK1.2 5 (cA, .long) rfl).2
    have e2 : s.vm.findClass ("[" ++ FieldType.toString .long) = some (gtc G 3) := (hK.2 3 (gtc G 3, .long) rfl).2
    have e3 : cA = gtc G 3 := Option.some.inj (e1.symm.trans e2)
    subst e3
    exact w q H1 hP hD hS1) kk
theorem go_newT {n : Int32} {N i : Nat} (hd : decode (mYc Y) pc = .ok (.anewarray i, 3)) (hw : Cond.classLink (mYn Y).cls i "GreatEstate$Text" ∈ TBg) (h0 : ¬ n < 0) (hN : n.toNatClampNeg = N) (hb : N ≤ 100000) (kk : Go G d mc ms Y (pc + 3) loc (.ref h.length :: st) (h ++ [.inl (4, N, .inr (.inr (.inr (.inr (fun _ => none)))))]) R h') : Go G d (mc + 1) (ms + N) Y pc loc (.int n :: st) h R h' :=
  go_make (c1 := .inl (4, N, .inr (.inr (.inr (.inr (fun _ => none)))))) (fun _ j k hj => by cases hj) (fun n hs => (okS_c hs).2) (fun p e s m args below meth c H locs cells slots MC MS ad ls Q S x1 x2 x3 hc hs w => by
    have hK := S.2.2.2.2.2.2.2.2.2.2.1
    refine va_newq S.1 S.2.1 S.2.2.2.1 (S.2.2.2.2.1 _ hw) S.2.2.2.2.2.2.2.2.2.1.2.2.2.2.1 hK x1 x2 x3 S.2.2.2.2.2.2.2.2.2.2.2.1 h0 hN (by omega) hc hs hd (fun q cA H1 hK1 hP hD hS1 => ?_)
    obtain ⟨kA, comp, e1, e2, e3, e4⟩ := (hK1.2 5 (cA, .object "GreatEstate$Text") rfl).2
    obtain ⟨kB, comb, f1, f2, f3, f4⟩ := (hK.2 4 (gtc G 4, .object "GreatEstate$Text") rfl).2
    have e9 : cA = gtc G 4 := Option.some.inj (e4.symm.trans f4)
    subst e9
    exact w q H1 hP hD hS1) kk
/-- the class entry idx of class own names the class numbered ci, whose new objects have the fields fs -/
def NW (own : String) (idx ci N : Nat) (fs : List Value) : Prop := ∃ (C : String) (T : u_T) (ty0 : Nat → FieldType), vwCl[ci]? = some (C, T, N) ∧ Cond.classLink own idx C ∈ TBg ∧ Cond.instantiable C N ∈ TBg ∧ Cond.initialized C ∈ TBg ∧ (∀ w ∈ u_ws C T N, w ∈ TBg) ∧ (∀ k, k < N → parseFieldDescriptor (T k).2.2.1 = some (ty0 k)) ∧ (∀ j, j < N → defaultValue (ty0 j) = vp_V fs j) ∧ fs.all (fun v => match v with | .ref _ => false | .retAddr _ => false | _ => true) = true
theorem cv_dflt {ad : Nat → Nat} {fs : List Value} (hf : fs.all (fun v => match v with | .ref _ => false | .retAddr _ => false | _ => true) = true) : fs.map (cvV G ad) = fs := by
  have : fs.map (cvV G ad) = fs.map id := List.map_congr_left fun v hv => by
    have := List.all_eq_true.mp hf v hv
    cases v <;> simp [cvV] at this ⊢
  rw [this, List.map_id]
theorem ok_dflt {n : Nat} {fs : List Value} (hf : fs.all (fun v => match v with | .ref _ => false | .retAddr _ => false | _ => true) = true) : okS n fs := fun v hv => by
  have := List.all_eq_true.mp hf v hv
  cases v <;> simp [okV] at this ⊢
theorem go_new {idx ci N : Nat} {fs : List Value} (hd : decode (mYc Y) pc = .ok (.new idx, 3)) (F : NW (mYn Y).cls idx ci N fs) (kk : Go G d mc ms Y (pc + 3) loc (.ref h.length :: st) (h ++ [.inr (ci, fs)]) R h') : Go G d (mc + 1) (ms + N) Y pc loc st h R h' := by
  obtain ⟨C, T, ty0, f1, f2, f3, f4, f5, f6, f7, f8⟩ := F
  refine go_make (c1 := .inr (ci, fs)) (fun n => ok_dflt f8) (fun n hs => hs) (fun p e s m args below meth c H locs cells slots MC MS ad ls Q S x1 x2 x3 hc hs w => ?_) kk
  obtain ⟨s1, s2, s3, s4, s5, s6, s7, s8, s9, s10, s11, s12, s13⟩ := S
  refine va_new s1 s2 s5 f5 ty0 f6 s4 (s5 _ f2) (s5 _ f3) (s5 _ f4) s11 x1 x2 x3 s12 f1 (fs := fs) f7 hc hs hd (fun q H1 hP hD hS1 => ?_)
  have e : cvC G ad (.inr (ci, fs)) = .inr (ci, fs) := by simp only [cvC, cv_dflt f8]
  rw [← e] at hP hD
  exact w q H1 hP hD hS1
/-- Object's own constructor -/
theorem go_objInit {idx a : Nat} (hd : decode (mYc Y) pc = .ok (.invokespecial idx, 3)) (h1 : Cond.methodLink (mYn Y).cls idx objectInit ∈ TBg) (h2 : Cond.instanceMethod objectInit ∈ TBg) (h3 : Cond.code objectInit ⟨#[0xb1]⟩ 1 none ∈ TBg) (hst : (st.map (fun v => v.category)).sum ≤ 8) (kk : Go G d mc ms Y (pc + 3) loc st h R h') : Go G d mc ms Y pc loc (.ref a :: st) h R h' :=
  go_lift (fun n hs _ => (okS_c hs).2) (fun p e s m args below meth c H locs cells slots MC MS ad ls Q S l9 w => by
    refine W.objInit S.1 S.2.1 S.2.2.2.1 (S.2.2.2.2.1 _ h1) (S.2.2.2.2.1 _ h2) (S.2.2.2.2.1 _ h3) rfl (l9.1.trans S.2.2.1.symm) rfl hd (show 1 ≤ 16 + d by omega) ?_ w
    have e : ((st.map (cvV G ad)).map fun v => v.category) = st.map (fun v => v.category) := by
      rw [List.map_map]; exact List.map_congr_left fun v _ => cat_cv v
    show 2 * 0 + _ + 12 ≤ 928 + 46 * d
    rw [e]; omega) kk
end GoMake
