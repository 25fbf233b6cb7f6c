/-! RULES: the law's calls of its helpers; the claim out of the law's Go -/
section GoLaw
variable {G : gC} {d mc ms : Nat} {Y : mY} {pc : Nat} {loc : List (Option Value)} {st : List Value} {h h' : pH} {R : rS}
/-- the entry idx of class own is the static method Z, which has handlers -/
def CH (own : String) (idx : Nat) (Z : mY) (n : Nat) : Prop := mYh Z ≠ [] ∧ mYl Z ≤ 27 ∧ Cond.methodLink own idx (mYn Z) ∈ TBg ∧ Cond.static (mYn Z) ∈ TBg ∧ Cond.initialized (mYn Z).cls ∈ TBg ∧ Cond.codeWith (mYn Z) (mYc Z) (mYl Z) (mYr Z) (mYh Z) ∈ TBg ∧
  ((mYn Z).cls ≠ "java/lang/invoke/MethodHandle" ∧ (mYn Z).cls ≠ "java/lang/invoke/VarHandle" ∧ (parseMethodDescriptor (mYn Z).desc).map (fun d => d.parameters.length) = some n)
theorem mYw_ofH {Z : mY} (hh : mYh Z ≠ []) : mYw Z = Cond.codeWith (mYn Z) (mYc Z) (mYl Z) (mYr Z) (mYh Z) :: TBg := by
  unfold mYw
  cases h9 : mYh Z with
  | nil => exact absurd h9 hh
  | cons a b => rfl
theorem go_callH {idx n mc1 ms1 : Nat} {Z : mY} {h1 : pH} {v : Option Value} (av : List Value) {rest : List Value} (hd : decode (mYc Y) pc = .ok (.invokestatic idx, 3)) (F : CH (mYn Y).cls idx Z n) (E : Ev G d mc1 ms1 Z av h (.inl v) h1) (hst : st = av.reverse ++ rest) (hn : av.length = n) (h8 : (rest.map (fun v => v.category)).sum ≤ 8)
    (kk : Go G (d + 1) mc ms Y (pc + 3) loc (v.toList ++ rest) h1 R h') : Go G (d + 1) (mc1 + mc) (ms1 + ms) Y pc loc st h R h' := by
  subst hst
  obtain ⟨f3, f4, f5, f6, f8, f9, f10⟩ := F
  refine go_ret (a9 := #[]) (fun n hs w hw => hs w (by simp [hw])) (fun p e s m args below meth c H locs cells slots MC MS ad ls S X => ?_) kk
  obtain ⟨x1, x2, x3, x4, x5, x6, x7, x8, x9⟩ := X
  have hM := E ad x4 (fun w hw => x6 w (by simp [hw]))
  have hm : (av.reverse ++ rest).map (cvV G ad) = (av.map (cvV G ad)).reverse ++ rest.map (cvV G ad) := by simp
  rw [hm]
  exact vx_runSW (As := av.map (cvV G ad)) ⟨S.1, S.2.1, S.2.2.1, S.2.2.2.1, S.2.2.2.2.1⟩ hM
    (vx_cwSW n S.2.2.2.2.1 (TBg_good (fun w hw => by
      simp only [va_wsS, List.mem_append, List.mem_cons, List.not_mem_nil, or_false] at hw
      rcases hw with (rfl | rfl | rfl) | hw
      · exact f5
      · exact f6
      · exact f8
      · rw [mYw_ofH f3] at hw
        rcases List.mem_cons.mp hw with rfl | hw
        · exact f9
        · exact hw)) (mYw_ofH f3) rfl rfl f10 ⟨show 16 + d + 1 ≤ 16 + (d + 1) by omega, show 8 + (mYl Z + 11) + (928 + 46 * d) ≤ 928 + 46 * (d + 1) by omega⟩)
    ⟨pc_blind, pre_of (av := av) S x1 x2 x3⟩ rfl (by rw [List.length_map]; exact hn) x7.1 rfl (by show 2 * 0 + _ ≤ 8; rw [Nat.mul_zero, Nat.zero_add]; exact catsum h8) hd ⟨show cells + mc1 ≤ MC by omega, show slots + ms1 ≤ MS by omega⟩
/-- the law as a method -/
def mLaw : mY := (⟨"GreatEstateLaw", "law", "([I)Z"⟩, code, 7, ret, [])
theorem framed_new {s t : State} {o : Outcome} {L : List Loc} {k n : Nat} (hF : FrameEnd s o t L k n) (hL : ∀ q ∈ L, s.heap.size ≤ q.base) : Framed s o t [] k n :=
  ⟨hF.1, hF.2.1, hF.2.2.weaken (fun y hy hlt => absurd hlt (Nat.not_lt.mpr (hL y hy))) (Nat.le_refl _) (Nat.le_refl _)⟩
end GoLaw
