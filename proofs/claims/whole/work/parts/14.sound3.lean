/-! THE PURE MACHINE IS RIGHT, 3: one instruction, by program -/
section SoundC
variable {G : gC} {d e mc ms : Nat} {Y : mY} {pc : Nat} {loc : pL} {st : List Value} {h h' : pH} {R : rS}
theorem go_callVS {idx i n mc1 ms1 : Nat} {Z : mY} {h1 : pH} {v : Option Value} (av : List Value) {rest : List Value} (hd : decode (mYc Y) pc = .ok (.invokevirtual idx, 3)) (F : CVS (mYn Y).cls idx Z n) (E : Ev G d mc1 ms1 Z (.retAddr (100 + i) :: av) h (.inl v) h1) (hi : i < strT.length) (hst : st = av.reverse ++ .retAddr (100 + i) :: rest) (hn : av.length = n) (h8 : (rest.map (fun v => v.category)).sum ≤ 8)
    (kk : Go G (d + 1) mc ms Y (pc + 3) loc (v.toList ++ rest) h1 R h') : Go G (d + 1) (mc1 + mc) (ms1 + ms) Y pc loc st h R h' := by
  subst hst
  obtain ⟨f2, f3, f4, f5, f6, f7, f8, f9, f10⟩ := F
  refine go_ret (a9 := #[]) (fun n hs w hw => hs w (by simp [hw])) (fun p e s m args below meth c H locs cells slots MC MS ad ls S X => ?_) kk
  obtain ⟨x1, x2, x3, x4, x5, x6, x7, x8, x9⟩ := X
  have hM := E ad x4 (okS_i (x6 (.retAddr (100 + i)) (by simp)) (fun w hw => x6 w (by simp [hw])))
  have hm : (av.reverse ++ .retAddr (100 + i) :: rest).map (cvV G ad) = (av.map (cvV G ad)).reverse ++ .ref (god G (100 + i)) :: rest.map (cvV G ad) := by simp [cvV]
  rw [hm]
  exact va_runV (As := av.map (cvV G ad)) (b := god G (100 + i)) ⟨S.1, S.2.1, S.2.2.1, S.2.2.2.1, S.2.2.2.2.1⟩ hM
    (cwV (C := "java/lang/String") n S.2.2.2.2.1 (TBg_good (fun w hw => by
      simp only [wsV, List.mem_append, List.mem_cons, List.not_mem_nil, or_false] at hw
      rcases hw with (rfl | rfl | rfl | rfl) | hw
      · exact f5
      · exact f6
      · exact f7
      · exact f8
      · rw [mYw_of f3] at hw
        rcases List.mem_cons.mp hw with rfl | hw
        · exact f9
        · exact hw)) (mYw_of f3) rfl rfl ⟨f2, f10⟩ ⟨show 16 + d + 1 ≤ 16 + (d + 1) by omega, show 8 + (mYl Z + 11) + (928 + 46 * d) ≤ 928 + 46 * (d + 1) by omega⟩)
    ⟨pc_blind, vk_recv (i := i) S.o.2.2.2.2.2.2.1 hi x3, pre_of (av := .retAddr (100 + i) :: av) S x1 x2 x3⟩ rfl (by rw [List.length_map]; exact hn) x7.1 rfl (by show 2 * 0 + _ ≤ 8; rw [Nat.mul_zero, Nat.zero_add]; exact catsum h8) hd ⟨show cells + mc1 ≤ MC by omega, show slots + ms1 ≤ MS by omega⟩
theorem go_mmaxI {idx : Nat} {x y : Int32} (hd : decode (mYc Y) pc = .ok (.invokestatic idx, 3)) (F : MM5 (mYn Y).cls idx) (h8 : (st.map (fun v => v.category)).sum ≤ 8) (k : Go G d mc ms Y (pc + 3) loc (.int (if x < y then y else x) :: st) h R h') : Go G d mc ms Y pc loc (.int y :: .int x :: st) h R h' := by
  intro p e s m args below meth c H locs cells slots MC MS ad ls S X
  obtain ⟨x1, x2, x3, x4, x5, x6, x7, x8, x9⟩ := X
  obtain ⟨w1, w2, w3, w4⟩ := F
  refine va_mmax S.1 S.2.1 (S.2.2.1.trans x7.1.symm) S.2.2.2.1 (S.2.2.2.2.1 _ w1) (S.2.2.2.2.1 _ w2) (S.2.2.2.2.1 _ w3) (S.2.2.2.2.1 _ w4) (show 1 ≤ 16 + d by omega) ?_ (show cells ≤ MC by omega) (show slots ≤ MS by omega) hd (k p e s m args below meth c H locs cells slots MC MS ad ls S ⟨x1, x2, x3, x4, x5, okS_t trivial (okS_c (okS_c x6).2).2, x7, x8, x9⟩)
  have := catsum (G := G) (ad := ad) h8
  show _ + 13 ≤ 928 + 46 * d
  omega
theorem go_mminI {idx : Nat} {x y : Int32} (hd : decode (mYc Y) pc = .ok (.invokestatic idx, 3)) (F : MM6 (mYn Y).cls idx) (h8 : (st.map (fun v => v.category)).sum ≤ 8) (k : Go G d mc ms Y (pc + 3) loc (.int (if y < x then y else x) :: st) h R h') : Go G d mc ms Y pc loc (.int y :: .int x :: st) h R h' := by
  intro p e s m args below meth c H locs cells slots MC MS ad ls S X
  obtain ⟨x1, x2, x3, x4, x5, x6, x7, x8, x9⟩ := X
  obtain ⟨w1, w2, w3, w4⟩ := F
  refine va_mmin S.1 S.2.1 (S.2.2.1.trans x7.1.symm) S.2.2.2.1 (S.2.2.2.2.1 _ w1) (S.2.2.2.2.1 _ w2) (S.2.2.2.2.1 _ w3) (S.2.2.2.2.1 _ w4) (show 1 ≤ 16 + d by omega) ?_ (show cells ≤ MC by omega) (show slots ≤ MS by omega) hd (k p e s m args below meth c H locs cells slots MC MS ad ls S ⟨x1, x2, x3, x4, x5, okS_t trivial (okS_c (okS_c x6).2).2, x7, x8, x9⟩)
  have := catsum (G := G) (ad := ad) h8
  show _ + 13 ≤ 928 + 46 * d
  omega
theorem go_mmaxJ {idx : Nat} {x y : Int64} (hd : decode (mYc Y) pc = .ok (.invokestatic idx, 3)) (F : MM7 (mYn Y).cls idx) (h8 : (st.map (fun v => v.category)).sum ≤ 8) (k : Go G d mc ms Y (pc + 3) loc (.long (if y < x then x else y) :: st) h R h') : Go G d mc ms Y pc loc (.long y :: .long x :: st) h R h' := by
  intro p e s m args below meth c H locs cells slots MC MS ad ls S X
  obtain ⟨x1, x2, x3, x4, x5, x6, x7, x8, x9⟩ := X
  obtain ⟨w1, w2, w3, w4⟩ := F
  refine va_mmax_long S.1 S.2.1 (S.2.2.1.trans x7.1.symm) S.2.2.2.1 (S.2.2.2.2.1 _ w1) (S.2.2.2.2.1 _ w2) (S.2.2.2.2.1 _ w3) (S.2.2.2.2.1 _ w4) (show 1 ≤ 16 + d by omega) ?_ (show cells ≤ MC by omega) (show slots ≤ MS by omega) hd (k p e s m args below meth c H locs cells slots MC MS ad ls S ⟨x1, x2, x3, x4, x5, okS_t trivial (okS_c (okS_c x6).2).2, x7, x8, x9⟩)
  have := catsum (G := G) (ad := ad) h8
  show _ + 15 ≤ 928 + 46 * d
  omega
theorem go_mminJ {idx : Nat} {x y : Int64} (hd : decode (mYc Y) pc = .ok (.invokestatic idx, 3)) (F : MM8 (mYn Y).cls idx) (h8 : (st.map (fun v => v.category)).sum ≤ 8) (k : Go G d mc ms Y (pc + 3) loc (.long (if y < x then y else x) :: st) h R h') : Go G d mc ms Y pc loc (.long y :: .long x :: st) h R h' := by
  intro p e s m args below meth c H locs cells slots MC MS ad ls S X
  obtain ⟨x1, x2, x3, x4, x5, x6, x7, x8, x9⟩ := X
  obtain ⟨w1, w2, w3, w4⟩ := F
  refine va_mmin_long S.1 S.2.1 (S.2.2.1.trans x7.1.symm) S.2.2.2.1 (S.2.2.2.2.1 _ w1) (S.2.2.2.2.1 _ w2) (S.2.2.2.2.1 _ w3) (S.2.2.2.2.1 _ w4) (show 1 ≤ 16 + d by omega) ?_ (show cells ≤ MC by omega) (show slots ≤ MS by omega) hd (k p e s m args below meth c H locs cells slots MC MS ad ls S ⟨x1, x2, x3, x4, x5, okS_t trivial (okS_c (okS_c x6).2).2, x7, x8, x9⟩)
  have := catsum (G := G) (ad := ad) h8
  show _ + 15 ≤ 928 + 46 * d
  omega
theorem tab_go {df lo hi : Int} {offs : Array Int} {len : Nat} {x : Int32} {a : Nat} (hd : decode (mYc Y) pc = .ok (.tableswitch df lo hi offs, len)) (ha : (pc : Int) + df = (a : Int)) {tb : List (Int32 × Nat)} (hh : hi = lo + tb.length - 1) (hs : swOk pc offs.toList tb lo) {κ0 : rO} {κ : Nat → rO} (H : tsw x κ0 κ tb = some (R, h')) (h0 : κ0 = some (R, h') → Go G d mc ms Y a loc st h R h') (h1 : ∀ t, κ t = some (R, h') → Go G d mc ms Y t loc st h R h') : Go G d mc ms Y pc loc (.int x :: st) h R h' := by
  have key : ∀ (os : List Int) (l : List (Int32 × Nat)) (y : Int), swOk pc os l y → tsw x κ0 κ l = some (R, h') → (∃ j t o, (x.toInt = y + (j : Nat)) ∧ j < l.length ∧ os[j]? = some o ∧ (pc : Int) + o = ((t : Nat) : Int) ∧ κ t = some (R, h')) ∨ ((x.toInt < y ∨ y + l.length - 1 < x.toInt) ∧ κ0 = some (R, h')) := by
    intro os l
    induction l generalizing os with
    | nil => intro y _ H; exact Or.inr ⟨by simp; omega, H⟩
    | cons q l ih =>
      intro y hs H
      obtain ⟨v, t⟩ := q
      cases os with
      | nil => exact hs.elim
      | cons o os =>
        obtain ⟨s1, s2, s3⟩ := hs
        unfold tsw at H
        split at H
        · rename_i he
          exact Or.inl ⟨0, t, o, by rw [he, s1]; simp, by simp, rfl, s2, H⟩
        · rename_i he
          have hne : x.toInt ≠ y := fun q => he (Int32.toInt_inj.mp (q.trans s1.symm))
          rcases ih os (y + 1) s3 H with ⟨j, t', o', g1, g2, g3, g4, g5⟩ | ⟨g1, g2⟩
          · exact Or.inl ⟨j + 1, t', o', by rw [g1]; push_cast; omega, by simp; omega, by simpa using g3, g4, g5⟩
          · refine Or.inr ⟨?_, g2⟩
            simp only [List.length_cons]
            omega
  rcases key _ _ _ hs H with ⟨j, t, o', g1, g2, g3, g4, g5⟩ | ⟨g1, g2⟩
  · refine go_tableIn hd (by omega) (by omega) (off := o') ?_ g4 (h1 t g5)
    have : (x.toInt - lo).toNat = j := by omega
    rw [this, ← Array.getElem?_toList]; exact g3
  · exact go_tableOut hd (by omega) ha (h0 g2)
theorem rt_nar {ty : FieldType} {v : Value} (h1 : isRT ty) (h2 : isRv v = true) (ad : Nat → Nat) : narrow ty (cvV G ad v) = cvV G ad v ∧ fits ty (cvV G ad v) = true := by
  rcases h1 with ⟨n, rfl⟩ | ⟨t, rfl⟩ <;> cases v <;> first | exact ⟨rfl, rfl⟩ | cases h2
theorem zb_nar {x : Int32} (h : x = 0 ∨ x = 1) (ad : Nat → Nat) : narrow .boolean (cvV G ad (.int x)) = cvV G ad (.int x) ∧ fits .boolean (cvV G ad (.int x)) = true := by
  rcases h with rfl | rfl
  · exact ⟨(by decide : narrow .boolean (.int 0) = .int 0), (by decide : fits .boolean (.int 0) = true)⟩
  · exact ⟨(by decide : narrow .boolean (.int 1) = .int 1), (by decide : fits .boolean (.int 1) = true)⟩
theorem ge_end {v : Option Value} (k : ∀ mc ms, Go G d mc ms Y pc loc st h (.inl v) h) : GoE G d e Y pc loc st h (.inl v) h := ⟨Nat.le_refl _, Nat.le_refl _, k _ _⟩
theorem szC_fs {ci k : Nat} {fs : List Value} {v : Value} : szC (.inr (ci, fs.set k v)) = szC (.inr (ci, fs)) := by simp [szC]
theorem thrH_x {n : Nat} {ct : cL} {κ : Nat → pL → List Value → pH → rO} {E : String} {h1 : pH} {z : rS × pH} (H : thrH 1 n ct loc κ E h1 = some z) : ∃ q k, clk ct E = some (q, k) ∧ sto n loc k (κ q (loc.set k none) [] h1) = some z := by
  have H : (match clk ct E with | some (q, k) => sto n loc k (κ q (loc.set k none) [] h1) | none => none) = some z := H
  split at H
  · exact ⟨_, _, by assumption, H⟩
  · cases H
set_option maxHeartbeats 4000000 in
set_option maxRecDepth 100000 in
theorem stp_sound {S : sT} {call : cT} {md : Nat} {ct : cL} {dfl : Nat → List Value} {κ : kT} {ri : rI} {MY : List (mY × Nat)} (hS : S = (gL G, gxs G)) (hst : (gl G).stackTraces = false) (hV : VI MY dfl Y md ct (pc, ri))
    (hmd : (md = 0 ∧ (mYn Y).name ≠ "law" ∧ mYh Y = [] ∧ e = tcR R) ∨ (md = 1 ∧ (mYn Y).name ≠ "law" ∧ mYh Y ≠ []) ∨ md = 2)
    (hcall : ∀ k av h1 R1 h2, call k av h1 = some (R1, h2) → ∃ Z m, MY[k]? = some (Z, m) ∧ EvE G d (ceE m R1) Z av h1 R1 h2)
    (hκ : ∀ f pc' l s h1, κ f pc' l s h1 = some (R, h') → GoE G (d + 1) e Y pc' l s h1 R h')
    (hκt : md ≠ 0 → ∃ e', e' + (match md with | 1 => 1 | _ => 10) ≤ e ∧ ∀ pc' l s h1, κ true pc' l s h1 = some (R, h') → GoE G (d + 1) e' Y pc' l s h1 R h')
    (H : stp S call Y md ct dfl κ ri loc st h = some (R, h')) : GoE G (d + 1) e Y pc loc st h R h' := by
  subst hS
  obtain ⟨ins, nx, fc, tc, a, b, c, e9, v, w, tb⟩ := ri
  obtain ⟨hV, hX⟩ := hV
  cases ins
  case iconst n =>
    obtain ⟨hd, hn⟩ := hV
    have hn9 : nx = pc + 1 := hn
    subst hn9
    clear hn
    exact ge_same (hκ _ _ _ _ _ H) (fun mc ms k => go_iconst hd hX k)
  case bipush n =>
    obtain ⟨hd, hn⟩ := hV
    have hn9 : nx = pc + 2 := hn
    subst hn9
    clear hn
    exact ge_same (hκ _ _ _ _ _ H) (fun mc ms k => go_bipush hd hX k)
  case sipush n =>
    obtain ⟨hd, hn⟩ := hV
    have hn9 : nx = pc + 3 := hn
    subst hn9
    clear hn
    exact ge_same (hκ _ _ _ _ _ H) (fun mc ms k => go_sipush hd hX k)
  case lconst n =>
    obtain ⟨hd, hn⟩ := hV
    have hn9 : nx = pc + 1 := hn
    subst hn9
    clear hn
    exact ge_same (hκ _ _ _ _ _ H) (fun mc ms k => go_lconst hd hX k)
  case ldc2_w n =>
    obtain ⟨hd, hn⟩ := hV
    have hn9 : nx = pc + 3 := hn
    subst hn9
    clear hn
    exact ge_same (hκ _ _ _ _ _ H) (fun mc ms k => go_ldc2 hd hX k)
  case aconst_null =>
    obtain ⟨hd, hn⟩ := hV
    have hn9 : nx = pc + 1 := hn
    subst hn9
    clear hn
    exact ge_same (hκ _ _ _ _ _ H) (fun mc ms k => go_null hd k)
  case ldc n =>
    obtain ⟨hd, hn⟩ := hV
    have hn9 : nx = pc + 2 := hn
    subst hn9
    clear hn
    rcases hX with ⟨rfl, hX⟩ | ⟨rfl, rfl, q, hq, h1, h2⟩
    · exact ge_same (hκ _ _ _ _ _ H) (fun mc ms k => go_ldc hd hX k)
    · exact ge_same (hκ _ _ _ _ _ H) (fun mc ms k => go_ldcS hd hq h1 h2 k)
  case ldc_w n =>
    obtain ⟨hd, hn⟩ := hV
    have hn9 : nx = pc + 3 := hn
    subst hn9
    clear hn
    rcases hX with ⟨rfl, hX⟩ | ⟨rfl, rfl, q, hq, h1, h2⟩
    · exact ge_same (hκ _ _ _ _ _ H) (fun mc ms k => go_ldcw hd hX k)
    · exact ge_same (hκ _ _ _ _ _ H) (fun mc ms k => go_ldcwS hd hq h1 h2 k)
  case iload i =>
    obtain ⟨hd, hn⟩ := hV
    have hn9 : nx = pc + 2 := hn
    subst hn9
    clear hn
    cases hX
    obtain ⟨x, hl, H9⟩ := ldI_x H
    clear H
    have H := H9
    clear H9
    exact ge_same (hκ _ _ _ _ _ H) (fun mc ms k => go_iload hd hl k)
  case iload_n i =>
    obtain ⟨hd, hn⟩ := hV
    have hn9 : nx = pc + 1 := hn
    subst hn9
    clear hn
    cases hX
    obtain ⟨x, hl, H9⟩ := ldI_x H
    clear H
    have H := H9
    clear H9
    exact ge_same (hκ _ _ _ _ _ H) (fun mc ms k => go_iload_n hd hl k)
  case lload i =>
    obtain ⟨hd, hn⟩ := hV
    have hn9 : nx = pc + 2 := hn
    subst hn9
    clear hn
    cases hX
    obtain ⟨x, hl, H9⟩ := ldJ_x H
    clear H
    have H := H9
    clear H9
    exact ge_same (hκ _ _ _ _ _ H) (fun mc ms k => go_lload hd hl k)
  case lload_n i =>
    obtain ⟨hd, hn⟩ := hV
    have hn9 : nx = pc + 1 := hn
    subst hn9
    clear hn
    cases hX
    obtain ⟨x, hl, H9⟩ := ldJ_x H
    clear H
    have H := H9
    clear H9
    exact ge_same (hκ _ _ _ _ _ H) (fun mc ms k => go_lload_n hd hl k)
  case aload i =>
    obtain ⟨hd, hn⟩ := hV
    have hn9 : nx = pc + 2 := hn
    subst hn9
    clear hn
    cases hX
    obtain ⟨x, hl, hr, H9⟩ := ldA_x H
    clear H
    have H := H9
    clear H9
    exact ge_same (hκ _ _ _ _ _ H) (fun mc ms k => go_aload hd hl hr k)
  case aload_n i =>
    obtain ⟨hd, hn⟩ := hV
    have hn9 : nx = pc + 1 := hn
    subst hn9
    clear hn
    cases hX
    obtain ⟨x, hl, hr, H9⟩ := ldA_x H
    clear H
    have H := H9
    clear H9
    exact ge_same (hκ _ _ _ _ _ H) (fun mc ms k => go_aload_n hd hl hr k)
  case istore i =>
    obtain ⟨hd, hn⟩ := hV
    have hn9 : nx = pc + 2 := hn
    subst hn9
    clear hn
    cases hX
    obtain ⟨x, s, rfl, H9⟩ := i1_x H
    clear H
    have H := H9
    clear H9
    obtain ⟨h1, h2, h3, H9⟩ := sto_x H
    clear H
    have H := H9
    clear H9
    exact ge_same (hκ _ _ _ _ _ H) (fun mc ms k => go_istore hd h1 h3 h2 k)
  case istore_n i =>
    obtain ⟨hd, hn⟩ := hV
    have hn9 : nx = pc + 1 := hn
    subst hn9
    clear hn
    cases hX
    obtain ⟨x, s, rfl, H9⟩ := i1_x H
    clear H
    have H := H9
    clear H9
    obtain ⟨h1, h2, h3, H9⟩ := sto_x H
    clear H
    have H := H9
    clear H9
    exact ge_same (hκ _ _ _ _ _ H) (fun mc ms k => go_istore_n hd h1 h3 h2 k)
  case astore i =>
    obtain ⟨hd, hn⟩ := hV
    have hn9 : nx = pc + 2 := hn
    subst hn9
    clear hn
    cases hX
    obtain ⟨x, s, rfl, H9⟩ := a1_x H
    clear H
    have H := H9
    clear H9
    obtain ⟨hr, H9⟩ := iA_x H
    clear H
    have H := H9
    clear H9
    obtain ⟨h1, h2, h3, H9⟩ := sto_x H
    clear H
    have H := H9
    clear H9
    exact ge_same (hκ _ _ _ _ _ H) (fun mc ms k => go_astore hd hr h1 h3 h2 k)
  case astore_n i =>
    obtain ⟨hd, hn⟩ := hV
    have hn9 : nx = pc + 1 := hn
    subst hn9
    clear hn
    cases hX
    obtain ⟨x, s, rfl, H9⟩ := a1_x H
    clear H
    have H := H9
    clear H9
    obtain ⟨hr, H9⟩ := iA_x H
    clear H
    have H := H9
    clear H9
    obtain ⟨h1, h2, h3, H9⟩ := sto_x H
    clear H
    have H := H9
    clear H9
    exact ge_same (hκ _ _ _ _ _ H) (fun mc ms k => go_astore_n hd hr h1 h3 h2 k)
  case lstore i =>
    obtain ⟨hd, hn⟩ := hV
    have hn9 : nx = pc + 2 := hn
    subst hn9
    clear hn
    obtain ⟨hX, hb⟩ := hX
    cases hX
    cases hb
    obtain ⟨x, s, rfl, H9⟩ := j1_x H
    clear H
    have H := H9
    clear H9
    obtain ⟨h1, h2, h3, H9⟩ := stoJ_x H
    clear H
    have H := H9
    clear H9
    exact ge_same (hκ _ _ _ _ _ H) (fun mc ms k => go_lstore hd h1 h3 h2 k)
  case lstore_n i =>
    obtain ⟨hd, hn⟩ := hV
    have hn9 : nx = pc + 1 := hn
    subst hn9
    clear hn
    obtain ⟨hX, hb⟩ := hX
    cases hX
    cases hb
    obtain ⟨x, s, rfl, H9⟩ := j1_x H
    clear H
    have H := H9
    clear H9
    obtain ⟨h1, h2, h3, H9⟩ := stoJ_x H
    clear H
    have H := H9
    clear H9
    exact ge_same (hκ _ _ _ _ _ H) (fun mc ms k => go_lstore_n hd h1 h3 h2 k)
  case iinc i n =>
    obtain ⟨hd, hn⟩ := hV
    have hn9 : nx = pc + 3 := hn
    subst hn9
    clear hn
    obtain ⟨hX, hv⟩ := hX
    cases hX
    obtain ⟨x, hl, H9⟩ := ldI_x H
    clear H
    have H := H9
    clear H9
    obtain ⟨h1, h2, h3, H9⟩ := sto_x H
    clear H
    have H := H9
    clear H9
    exact ge_same (hκ _ _ _ _ _ H) (fun mc ms k => go_iinc hd hl (by rw [hv]) h1 h3 k)
  case iadd =>
    obtain ⟨hd, hn⟩ := hV
    have hn9 : nx = pc + 1 := hn
    subst hn9
    clear hn
    obtain ⟨x, y, s, rfl, H9⟩ := i2_x H
    clear H
    have H := H9
    clear H9
    exact ge_same (hκ _ _ _ _ _ H) (fun mc ms k => go_iadd hd k)
  case isub =>
    obtain ⟨hd, hn⟩ := hV
    have hn9 : nx = pc + 1 := hn
    subst hn9
    clear hn
    obtain ⟨x, y, s, rfl, H9⟩ := i2_x H
    clear H
    have H := H9
    clear H9
    exact ge_same (hκ _ _ _ _ _ H) (fun mc ms k => go_isub hd k)
  case imul =>
    obtain ⟨hd, hn⟩ := hV
    have hn9 : nx = pc + 1 := hn
    subst hn9
    clear hn
    obtain ⟨x, y, s, rfl, H9⟩ := i2_x H
    clear H
    have H := H9
    clear H9
    exact ge_same (hκ _ _ _ _ _ H) (fun mc ms k => go_imul hd k)
  case iand =>
    obtain ⟨hd, hn⟩ := hV
    have hn9 : nx = pc + 1 := hn
    subst hn9
    clear hn
    obtain ⟨x, y, s, rfl, H9⟩ := i2_x H
    clear H
    have H := H9
    clear H9
    exact ge_same (hκ _ _ _ _ _ H) (fun mc ms k => go_iand hd k)
  case ior =>
    obtain ⟨hd, hn⟩ := hV
    have hn9 : nx = pc + 1 := hn
    subst hn9
    clear hn
    obtain ⟨x, y, s, rfl, H9⟩ := i2_x H
    clear H
    have H := H9
    clear H9
    exact ge_same (hκ _ _ _ _ _ H) (fun mc ms k => go_ior hd k)
  case ixor =>
    obtain ⟨hd, hn⟩ := hV
    have hn9 : nx = pc + 1 := hn
    subst hn9
    clear hn
    obtain ⟨x, y, s, rfl, H9⟩ := i2_x H
    clear H
    have H := H9
    clear H9
    exact ge_same (hκ _ _ _ _ _ H) (fun mc ms k => go_ixor hd k)
  case ishl =>
    obtain ⟨hd, hn⟩ := hV
    have hn9 : nx = pc + 1 := hn
    subst hn9
    clear hn
    obtain ⟨x, y, s, rfl, H9⟩ := i2_x H
    clear H
    have H := H9
    clear H9
    exact ge_same (hκ _ _ _ _ _ H) (fun mc ms k => go_ishl hd k)
  case ishr =>
    obtain ⟨hd, hn⟩ := hV
    have hn9 : nx = pc + 1 := hn
    subst hn9
    clear hn
    obtain ⟨x, y, s, rfl, H9⟩ := i2_x H
    clear H
    have H := H9
    clear H9
    exact ge_same (hκ _ _ _ _ _ H) (fun mc ms k => go_ishr hd k)
  case iushr =>
    obtain ⟨hd, hn⟩ := hV
    have hn9 : nx = pc + 1 := hn
    subst hn9
    clear hn
    obtain ⟨x, y, s, rfl, H9⟩ := i2_x H
    clear H
    have H := H9
    clear H9
    exact ge_same (hκ _ _ _ _ _ H) (fun mc ms k => go_iushr hd k)
  case ladd =>
    obtain ⟨hd, hn⟩ := hV
    have hn9 : nx = pc + 1 := hn
    subst hn9
    clear hn
    obtain ⟨x, y, s, rfl, H9⟩ := j2_x H
    clear H
    have H := H9
    clear H9
    exact ge_same (hκ _ _ _ _ _ H) (fun mc ms k => go_ladd hd k)
  case lsub =>
    obtain ⟨hd, hn⟩ := hV
    have hn9 : nx = pc + 1 := hn
    subst hn9
    clear hn
    obtain ⟨x, y, s, rfl, H9⟩ := j2_x H
    clear H
    have H := H9
    clear H9
    exact ge_same (hκ _ _ _ _ _ H) (fun mc ms k => go_lsub hd k)
  case lmul =>
    obtain ⟨hd, hn⟩ := hV
    have hn9 : nx = pc + 1 := hn
    subst hn9
    clear hn
    obtain ⟨x, y, s, rfl, H9⟩ := j2_x H
    clear H
    have H := H9
    clear H9
    exact ge_same (hκ _ _ _ _ _ H) (fun mc ms k => go_lmul hd k)
  case land =>
    obtain ⟨hd, hn⟩ := hV
    have hn9 : nx = pc + 1 := hn
    subst hn9
    clear hn
    obtain ⟨x, y, s, rfl, H9⟩ := j2_x H
    clear H
    have H := H9
    clear H9
    exact ge_same (hκ _ _ _ _ _ H) (fun mc ms k => go_land hd k)
  case lor =>
    obtain ⟨hd, hn⟩ := hV
    have hn9 : nx = pc + 1 := hn
    subst hn9
    clear hn
    obtain ⟨x, y, s, rfl, H9⟩ := j2_x H
    clear H
    have H := H9
    clear H9
    exact ge_same (hκ _ _ _ _ _ H) (fun mc ms k => go_lor hd k)
  case lcmp =>
    obtain ⟨hd, hn⟩ := hV
    have hn9 : nx = pc + 1 := hn
    subst hn9
    clear hn
    obtain ⟨x, y, s, rfl, H9⟩ := j2_x H
    clear H
    have H := H9
    clear H9
    exact ge_same (hκ _ _ _ _ _ H) (fun mc ms k => go_lcmp hd k)
  case idiv =>
    obtain ⟨hd, hn⟩ := hV
    have hn9 : nx = pc + 1 := hn
    subst hn9
    clear hn
    obtain ⟨x, y, s, rfl, H9⟩ := i2_x H
    clear H
    have H := H9
    clear H9
    obtain ⟨hy, H9⟩ := dv_x H
    clear H
    have H := H9
    clear H9
    exact ge_same (hκ _ _ _ _ _ H) (fun mc ms k => go_idiv hd hy k)
  case irem =>
    obtain ⟨hd, hn⟩ := hV
    have hn9 : nx = pc + 1 := hn
    subst hn9
    clear hn
    obtain ⟨x, y, s, rfl, H9⟩ := i2_x H
    clear H
    have H := H9
    clear H9
    obtain ⟨hy, H9⟩ := dv_x H
    clear H
    have H := H9
    clear H9
    exact ge_same (hκ _ _ _ _ _ H) (fun mc ms k => go_irem hd hy k)
  case ldiv =>
    obtain ⟨hd, hn⟩ := hV
    have hn9 : nx = pc + 1 := hn
    subst hn9
    clear hn
    obtain ⟨x, y, s, rfl, H9⟩ := j2_x H
    clear H
    have H := H9
    clear H9
    obtain ⟨hy, H9⟩ := dvJ_x H
    clear H
    have H := H9
    clear H9
    exact ge_same (hκ _ _ _ _ _ H) (fun mc ms k => go_ldiv hd hy k)
  case ineg =>
    obtain ⟨hd, hn⟩ := hV
    have hn9 : nx = pc + 1 := hn
    subst hn9
    clear hn
    obtain ⟨x, s, rfl, H9⟩ := i1_x H
    clear H
    have H := H9
    clear H9
    exact ge_same (hκ _ _ _ _ _ H) (fun mc ms k => go_ineg hd k)
  case i2l =>
    obtain ⟨hd, hn⟩ := hV
    have hn9 : nx = pc + 1 := hn
    subst hn9
    clear hn
    obtain ⟨x, s, rfl, H9⟩ := i1_x H
    clear H
    have H := H9
    clear H9
    exact ge_same (hκ _ _ _ _ _ H) (fun mc ms k => go_i2l hd k)
  case i2b =>
    obtain ⟨hd, hn⟩ := hV
    have hn9 : nx = pc + 1 := hn
    subst hn9
    clear hn
    obtain ⟨x, s, rfl, H9⟩ := i1_x H
    clear H
    have H := H9
    clear H9
    exact ge_same (hκ _ _ _ _ _ H) (fun mc ms k => go_i2b hd k)
  case i2c =>
    obtain ⟨hd, hn⟩ := hV
    have hn9 : nx = pc + 1 := hn
    subst hn9
    clear hn
    obtain ⟨x, s, rfl, H9⟩ := i1_x H
    clear H
    have H := H9
    clear H9
    exact ge_same (hκ _ _ _ _ _ H) (fun mc ms k => go_i2c hd k)
  case lneg =>
    obtain ⟨hd, hn⟩ := hV
    have hn9 : nx = pc + 1 := hn
    subst hn9
    clear hn
    obtain ⟨x, s, rfl, H9⟩ := j1_x H
    clear H
    have H := H9
    clear H9
    exact ge_same (hκ _ _ _ _ _ H) (fun mc ms k => go_lneg hd k)
  case l2i =>
    obtain ⟨hd, hn⟩ := hV
    have hn9 : nx = pc + 1 := hn
    subst hn9
    clear hn
    obtain ⟨x, s, rfl, H9⟩ := j1_x H
    clear H
    have H := H9
    clear H9
    exact ge_same (hκ _ _ _ _ _ H) (fun mc ms k => go_l2i hd k)
  case dup =>
    obtain ⟨hd, hn⟩ := hV
    have hn9 : nx = pc + 1 := hn
    subst hn9
    clear hn
    obtain ⟨x, s, rfl, H9⟩ := a1_x H
    clear H
    have H := H9
    clear H9
    obtain ⟨hc, H9⟩ := nl_x H
    clear H
    have H := H9
    clear H9
    exact ge_same (hκ _ _ _ _ _ H) (fun mc ms k => go_dup hd hc k)
  case pop =>
    obtain ⟨hd, hn⟩ := hV
    have hn9 : nx = pc + 1 := hn
    subst hn9
    clear hn
    obtain ⟨x, s, rfl, H9⟩ := a1_x H
    clear H
    have H := H9
    clear H9
    obtain ⟨hc, H9⟩ := nl_x H
    clear H
    have H := H9
    clear H9
    exact ge_same (hκ _ _ _ _ _ H) (fun mc ms k => go_pop hd hc k)
  case dup2 =>
    obtain ⟨hd, hn⟩ := hV
    have hn9 : nx = pc + 1 := hn
    subst hn9
    clear hn
    match c, H with
    | 0, H =>
      obtain ⟨x, s, rfl, H9⟩ := a1_x H
      clear H
      have H := H9
      clear H9
      obtain ⟨y, s, rfl, H9⟩ := a1_x H
      clear H
      have H := H9
      clear H9
      obtain ⟨h1, H9⟩ := nl_x H
      clear H
      have H := H9
      clear H9
      obtain ⟨h2, H9⟩ := nl_x H
      clear H
      have H := H9
      clear H9
      exact ge_same (hκ _ _ _ _ _ H) (fun mc ms k => go_dup2 hd h1 h2 k)
    | c + 1, H =>
      obtain ⟨x, s, rfl, H9⟩ := j1_x H
      clear H
      have H := H9
      clear H9
      exact ge_same (hκ _ _ _ _ _ H) (fun mc ms k => go_dup2L hd rfl k)
  case getfield i =>
    obtain ⟨hd, hn⟩ := hV
    have hn9 : nx = pc + 3 := hn
    subst hn9
    clear hn
    obtain ⟨o, s, rfl, H9⟩ := a1_x H
    clear H
    have H := H9
    clear H9
    rcases hX with ⟨hc, ty, fin, F⟩ | ⟨rfl, F⟩ | ⟨rfl, F⟩
    · match c, hc, H with
      | 0, _, H =>
        obtain ⟨a9, fs, x, rfl, ha, hx, H9⟩ := gI_x H
        clear H
        have H := H9
        clear H9
        exact ge_same (hκ _ _ _ _ _ H) (fun mc ms k => go_getfield hd F ha hx k)
      | 1, _, H =>
        obtain ⟨a9, fs, x, rfl, ha, hx, hr, H9⟩ := gV_x H
        clear H
        have H := H9
        clear H9
        exact ge_same (hκ _ _ _ _ _ H) (fun mc ms k => go_getfield hd F ha hx k)
    · obtain ⟨i, rfl, hi, H9⟩ := sCod_x H
      clear H
      have H := H9
      clear H9
      exact ge_same (hκ _ _ _ _ _ H) (fun mc ms k => go_strCoder hd hi F k)
    · obtain ⟨i, rfl, hi, H9⟩ := sVal_x H
      clear H
      have H := H9
      clear H9
      exact ge_same (hκ _ _ _ _ _ H) (fun mc ms k => go_strValue hd hi F k)
  case putfield i =>
    obtain ⟨hd, hn⟩ := hV
    have hn9 : nx = pc + 3 := hn
    subst hn9
    clear hn
    rcases hX with ⟨rfl, F⟩ | ⟨rfl, F, f1, f2⟩ | ⟨rfl, F⟩ | ⟨rfl, ty, f0, F⟩ | ⟨rfl, ⟨ty, f0, F⟩, f1, f2⟩
    · obtain ⟨x, s, rfl, H9⟩ := i1_x H
      clear H
      have H := H9
      clear H9
      obtain ⟨o, s, rfl, H9⟩ := a1_x H
      clear H
      have H := H9
      clear H9
      obtain ⟨a9, fs, rfl, ha, hk, H9⟩ := pF_x H
      clear H
      have H := H9
      clear H9
      exact ge_set ha szC_fs (hκ _ _ _ _ _ H) (fun mc ms k => go_putfield hd F ha hk (fun _ => rfl) (fun _ => rfl) k)
    · obtain ⟨x, s, rfl, H9⟩ := i1_x H
      clear H
      have H := H9
      clear H9
      obtain ⟨o, s, rfl, H9⟩ := a1_x H
      clear H
      have H := H9
      clear H9
      obtain ⟨a9, fs, rfl, ha, hk, H9⟩ := pF_x H
      clear H
      have H := H9
      clear H9
      exact ge_set ha szC_fs (hκ _ _ _ _ _ H) (fun mc ms k => go_putfinal hd F f1 f2 ha hk (fun _ => rfl) (fun _ => rfl) k)
    · obtain ⟨x, s, rfl, H9⟩ := i1_x H
      clear H
      have H := H9
      clear H9
      obtain ⟨hz, H9⟩ := zR_n H
      clear H
      have H := H9
      clear H9
      obtain ⟨o, s, rfl, H9⟩ := a1_x H
      clear H
      have H := H9
      clear H9
      obtain ⟨a9, fs, rfl, ha, hk, H9⟩ := pF_x H
      clear H
      have H := H9
      clear H9
      exact ge_set ha szC_fs (hκ _ _ _ _ _ H) (fun mc ms k => go_putfield hd F ha hk (fun ad => (zb_nar hz ad).1) (fun ad => (zb_nar hz ad).2) k)
    · obtain ⟨x, s, rfl, H9⟩ := a1_x H
      clear H
      have H := H9
      clear H9
      obtain ⟨hz, H9⟩ := iA_x H
      clear H
      have H := H9
      clear H9
      obtain ⟨o, s, rfl, H9⟩ := a1_x H
      clear H
      have H := H9
      clear H9
      obtain ⟨a9, fs, rfl, ha, hk, H9⟩ := pF_x H
      clear H
      have H := H9
      clear H9
      exact ge_set ha szC_fs (hκ _ _ _ _ _ H) (fun mc ms k => go_putfield hd F ha hk (fun ad => (rt_nar f0 hz ad).1) (fun ad => (rt_nar f0 hz ad).2) k)
    · obtain ⟨x, s, rfl, H9⟩ := a1_x H
      clear H
      have H := H9
      clear H9
      obtain ⟨hz, H9⟩ := iA_x H
      clear H
      have H := H9
      clear H9
      obtain ⟨o, s, rfl, H9⟩ := a1_x H
      clear H
      have H := H9
      clear H9
      obtain ⟨a9, fs, rfl, ha, hk, H9⟩ := pF_x H
      clear H
      have H := H9
      clear H9
      exact ge_set ha szC_fs (hκ _ _ _ _ _ H) (fun mc ms k => go_putfinal hd F f1 f2 ha hk (fun ad => (rt_nar f0 hz ad).1) (fun ad => (rt_nar f0 hz ad).2) k)
  case getstatic i =>
    obtain ⟨hd, hn⟩ := hV
    have hn9 : nx = pc + 3 := hn
    subst hn9
    clear hn
    rcases hX with ⟨rfl, rfl, q, hq, F⟩ | ⟨rfl, F⟩ | ⟨rfl, ha9, F, j, P, d3, d6, FS, FP⟩
    · exact ge_same (hκ _ _ _ _ _ H) (fun mc ms k => go_getstaticA hd hq F k)
    · exact ge_same (hκ _ _ _ _ _ H) (fun mc ms k => go_getstaticCS hd F k)
    · have ha8 : a = pc + 7 := ha9
      subst ha8
      obtain ⟨x, y, s, rfl, H9⟩ := i2_x H
      clear H
      have H := H9
      clear H9
      obtain ⟨h1, h2, H9⟩ := ckI_x H
      clear H
      have H := H9
      clear H9
      obtain ⟨hb8, H9⟩ := h8_x H
      clear H
      have H := H9
      clear H9
      exact ge_same (hκ _ _ _ _ _ H) (fun mc ms k => go_getstaticF hd F (fun v hv => by
        have := go_callS (av := [.int x, .int y, v]) d3 FS (FP G d h x y v hst hv h1 h2) rfl rfl hb8 (go_pop d6 rfl k)
        rwa [Nat.zero_add, Nat.zero_add] at this))
  case iaload =>
    obtain ⟨hd, hn⟩ := hV
    have hn9 : nx = pc + 1 := hn
    subst hn9
    clear hn
    obtain ⟨i, s, rfl, H9⟩ := i1_x H
    clear H
    have H := H9
    clear H9
    obtain ⟨o, s, rfl, H9⟩ := a1_x H
    clear H
    have H := H9
    clear H9
    match c, H with
    | 0, H =>
      obtain ⟨a9, n, f, rfl, ha, hi, H9⟩ := aI_x H
      clear H
      have H := H9
      clear H9
      exact ge_same (hκ _ _ _ _ _ H) (fun mc ms k => go_iaload hd ha hi k)
    | 1, H =>
      obtain ⟨j, q, rfl, hq, hi, H9⟩ := aO_x H
      clear H
      have H := H9
      clear H9
      exact ge_same (hκ _ _ _ _ _ H) (fun mc ms k => go_ialoadA hd hq hi k)
    | c + 2, H =>
      obtain ⟨rfl, hi, H9⟩ := xL_x H
      clear H
      have H := H9
      clear H9
      exact ge_same (hκ _ _ _ _ _ H) (fun mc ms k => go_scriptLoad hd hi k)
  case baload =>
    obtain ⟨hd, hn⟩ := hV
    have hn9 : nx = pc + 1 := hn
    subst hn9
    clear hn
    obtain ⟨i, s, rfl, H9⟩ := i1_x H
    clear H
    have H := H9
    clear H9
    obtain ⟨o, s, rfl, H9⟩ := a1_x H
    clear H
    have H := H9
    clear H9
    match c, H with
    | 0, H =>
      obtain ⟨a9, n, f, rfl, ha, hi, H9⟩ := aI_x H
      clear H
      have H := H9
      clear H9
      exact ge_same (hκ _ _ _ _ _ H) (fun mc ms k => go_baload hd ha hi k)
    | 1, H =>
      obtain ⟨a9, n, f, rfl, ha, hi, H9⟩ := aI_x H
      clear H
      have H := H9
      clear H9
      exact ge_same (hκ _ _ _ _ _ H) (fun mc ms k => go_zaload hd ha hi k)
    | c + 2, H =>
      obtain ⟨k9, rfl, hk, hi, H9⟩ := sByt_x H
      clear H
      have H := H9
      clear H9
      exact ge_same (hκ _ _ _ _ _ H) (fun mc ms k => go_strByte hd hk hi k)
  case laload =>
    obtain ⟨hd, hn⟩ := hV
    have hn9 : nx = pc + 1 := hn
    subst hn9
    clear hn
    obtain ⟨i, s, rfl, H9⟩ := i1_x H
    clear H
    have H := H9
    clear H9
    obtain ⟨o, s, rfl, H9⟩ := a1_x H
    clear H
    have H := H9
    clear H9
    obtain ⟨a9, n, f, rfl, ha, hi, H9⟩ := aJ_x H
    clear H
    have H := H9
    clear H9
    exact ge_same (hκ _ _ _ _ _ H) (fun mc ms k => go_laload hd ha hi k)
  case aaload =>
    obtain ⟨hd, hn⟩ := hV
    have hn9 : nx = pc + 1 := hn
    subst hn9
    clear hn
    obtain ⟨i, s, rfl, H9⟩ := i1_x H
    clear H
    have H := H9
    clear H9
    obtain ⟨o, s, rfl, H9⟩ := a1_x H
    clear H
    have H := H9
    clear H9
    obtain ⟨a9, n, f, rfl, ha, hi, H9⟩ := aT_x H
    clear H
    have H := H9
    clear H9
    exact ge_same (hκ _ _ _ _ _ H) (fun mc ms k => go_aaload hd ha hi k)
  case iastore =>
    obtain ⟨hd, hn⟩ := hV
    have hn9 : nx = pc + 1 := hn
    subst hn9
    clear hn
    obtain ⟨x, s, rfl, H9⟩ := i1_x H
    clear H
    have H := H9
    clear H9
    obtain ⟨i, s, rfl, H9⟩ := i1_x H
    clear H
    have H := H9
    clear H9
    obtain ⟨o, s, rfl, H9⟩ := a1_x H
    clear H
    have H := H9
    clear H9
    obtain ⟨a9, n, f, rfl, ha, hi, H9⟩ := sI_x H
    clear H
    have H := H9
    clear H9
    exact ge_set ha (by rfl) (hκ _ _ _ _ _ H) (fun mc ms k => go_iastore hd ha hi k)
  case bastore =>
    obtain ⟨hd, hn⟩ := hV
    have hn9 : nx = pc + 1 := hn
    subst hn9
    clear hn
    obtain ⟨x, s, rfl, H9⟩ := i1_x H
    clear H
    have H := H9
    clear H9
    obtain ⟨i, s, rfl, H9⟩ := i1_x H
    clear H
    have H := H9
    clear H9
    obtain ⟨o, s, rfl, H9⟩ := a1_x H
    clear H
    have H := H9
    clear H9
    match c, H with
    | 0, H =>
      obtain ⟨a9, n, f, rfl, ha, hi, H9⟩ := sI_x H
      clear H
      have H := H9
      clear H9
      exact ge_set ha (by rfl) (hκ _ _ _ _ _ H) (fun mc ms k => go_bastore hd ha hi k)
    | c + 1, H =>
      obtain ⟨a9, n, f, rfl, ha, hi, H9⟩ := sI_x H
      clear H
      have H := H9
      clear H9
      exact ge_set ha (by rfl) (hκ _ _ _ _ _ H) (fun mc ms k => go_zastore hd ha hi k)
  case lastore =>
    obtain ⟨hd, hn⟩ := hV
    have hn9 : nx = pc + 1 := hn
    subst hn9
    clear hn
    obtain ⟨x, s, rfl, H9⟩ := j1_x H
    clear H
    have H := H9
    clear H9
    obtain ⟨i, s, rfl, H9⟩ := i1_x H
    clear H
    have H := H9
    clear H9
    obtain ⟨o, s, rfl, H9⟩ := a1_x H
    clear H
    have H := H9
    clear H9
    obtain ⟨a9, n, f, rfl, ha, hi, H9⟩ := sJ_x H
    clear H
    have H := H9
    clear H9
    exact ge_set ha (by rfl) (hκ _ _ _ _ _ H) (fun mc ms k => go_lastore hd ha hi k)
  case aastore =>
    obtain ⟨hd, hn⟩ := hV
    have hn9 : nx = pc + 1 := hn
    subst hn9
    clear hn
    obtain ⟨x, s, rfl, H9⟩ := a1_x H
    clear H
    have H := H9
    clear H9
    obtain ⟨i, s, rfl, H9⟩ := i1_x H
    clear H
    have H := H9
    clear H9
    obtain ⟨o, s, rfl, H9⟩ := a1_x H
    clear H
    have H := H9
    clear H9
    obtain ⟨a9, n, f, rfl, ha, hi, hq⟩ := sTx_x H
    rcases hq with ⟨k9, fs, rfl, hk, H2⟩ | ⟨rfl, H2⟩
    · exact ge_set ha (by rfl) (hκ _ _ _ _ _ H2) (fun mc ms k => go_aastore hd ha hk hi k)
    · exact ge_set ha (by rfl) (hκ _ _ _ _ _ H2) (fun mc ms k => go_aastoreN hd ha hi k)
  case arraylength =>
    obtain ⟨hd, hn⟩ := hV
    have hn9 : nx = pc + 1 := hn
    subst hn9
    clear hn
    obtain ⟨o, s, rfl, H9⟩ := a1_x H
    clear H
    have H := H9
    clear H9
    match c, H with
    | 0, H =>
      obtain ⟨a9, u, x, rfl, ha, hu, H9⟩ := aLen_x H
      clear H
      have H := H9
      clear H9
      exact ge_same (hκ _ _ _ _ _ H) (fun mc ms k => go_alen hd ha hu k)
    | 1, H =>
      obtain ⟨k9, rfl, hk, H9⟩ := sLen_x H
      clear H
      have H := H9
      clear H9
      exact ge_same (hκ _ _ _ _ _ H) (fun mc ms k => go_strLen hd hk k)
    | c + 2, H =>
      obtain ⟨rfl, H9⟩ := xN_x H
      clear H
      have H := H9
      clear H9
      exact ge_same (hκ _ _ _ _ _ H) (fun mc ms k => go_scriptLen hd k)
  case newarray t =>
    obtain ⟨hd, hn⟩ := hV
    have hn9 : nx = pc + 2 := hn
    subst hn9
    clear hn
    obtain ⟨n, s, rfl, H9⟩ := i1_x H
    clear H
    have H := H9
    clear H9
    rcases hX with ⟨rfl, rfl, F⟩ | ⟨rfl, rfl, F⟩ | ⟨rfl, rfl, F⟩ | ⟨rfl, rfl, F⟩
    · obtain ⟨h0, hb, H9⟩ := mkI_x H
      clear H
      have H := H9
      clear H9
      exact ge_new (hκ _ _ _ _ _ H) (fun mc ms k => go_newI hd F h0 rfl hb k)
    · obtain ⟨h0, hb, H9⟩ := mkI_x H
      clear H
      have H := H9
      clear H9
      exact ge_new (hκ _ _ _ _ _ H) (fun mc ms k => go_newB hd F h0 rfl hb k)
    · obtain ⟨h0, hb, H9⟩ := mkI_x H
      clear H
      have H := H9
      clear H9
      exact ge_new (hκ _ _ _ _ _ H) (fun mc ms k => go_newZ hd F h0 rfl hb k)
    · obtain ⟨h0, hb, H9⟩ := mkJ_x H
      clear H
      have H := H9
      clear H9
      exact ge_new (hκ _ _ _ _ _ H) (fun mc ms k => go_newJ hd F h0 rfl hb k)
  case anewarray i =>
    obtain ⟨hd, hn⟩ := hV
    have hn9 : nx = pc + 3 := hn
    subst hn9
    clear hn
    obtain ⟨n, s, rfl, H9⟩ := i1_x H
    clear H
    have H := H9
    clear H9
    obtain ⟨h0, hb, H9⟩ := mkT_x H
    clear H
    have H := H9
    clear H9
    exact ge_new (hκ _ _ _ _ _ H) (fun mc ms k => go_newT hd hX h0 rfl hb k)
  case new i =>
    obtain ⟨hd, hn⟩ := hV
    have hn9 : nx = pc + 3 := hn
    subst hn9
    clear hn
    rcases hX with ⟨rfl, N, hN, F⟩ | ⟨rfl, hm0, F⟩
    · subst hN
      exact ge_new (hκ _ _ _ _ _ H) (fun mc ms k => go_new hd F k)
    · obtain ⟨hb8, H9⟩ := h8_x H
      clear H
      have H := H9
      clear H9
      cases H
      rcases hmd with ⟨_, g1, g2, rfl⟩ | ⟨q, _⟩ | q
      · exact ⟨Nat.le_refl _, Nat.le_refl _, go_mono (mc := 0 + 1) (ms := 0 + 6) (by simp [tcR]) (by simp [tcR]) (F G (d + 1) 0 0 loc st h hb8)⟩
      · omega
      · omega
  case goto o =>
    obtain ⟨hd, hn⟩ := hV
    have hn9 : nx = pc + 3 := hn
    subst hn9
    clear hn
    exact ge_same (hκ _ _ _ _ _ H) (fun mc ms k => go_goto hd hX k)
  case ifCond cd o =>
    obtain ⟨hd, hn⟩ := hV
    have hn9 : nx = pc + 3 := hn
    subst hn9
    clear hn
    obtain ⟨x, s, rfl, H9⟩ := i1_x H
    clear H
    have H := H9
    clear H9
    cases cd
    case eq =>
      unfold bI at H
      dsimp only at H
      split at H
      · exact ge_same (hκ _ _ _ _ _ H) (fun mc ms k => go_if_eq hd hX (fun _ => k) (fun q => absurd ‹_› q))
      · exact ge_same (hκ _ _ _ _ _ H) (fun mc ms k => go_if_eq hd hX (fun q => absurd q ‹_›) (fun _ => k))
    case ne =>
      unfold bI at H
      dsimp only at H
      split at H
      · exact ge_same (hκ _ _ _ _ _ H) (fun mc ms k => go_if_ne hd hX (fun q => absurd ‹_› q) (fun _ => k))
      · exact ge_same (hκ _ _ _ _ _ H) (fun mc ms k => go_if_ne hd hX (fun _ => k) (fun q => absurd q ‹_›))
    case lt =>
      unfold bI at H
      dsimp only at H
      split at H
      · exact ge_same (hκ _ _ _ _ _ H) (fun mc ms k => go_if_lt hd hX (fun _ => k) (fun q => absurd ‹_› q))
      · exact ge_same (hκ _ _ _ _ _ H) (fun mc ms k => go_if_lt hd hX (fun q => absurd q ‹_›) (fun _ => k))
    case ge =>
      unfold bI at H
      dsimp only at H
      split at H
      · exact ge_same (hκ _ _ _ _ _ H) (fun mc ms k => go_if_ge hd hX (fun _ => k) (fun q => absurd ‹_› q))
      · exact ge_same (hκ _ _ _ _ _ H) (fun mc ms k => go_if_ge hd hX (fun q => absurd q ‹_›) (fun _ => k))
    case gt =>
      unfold bI at H
      dsimp only at H
      split at H
      · exact ge_same (hκ _ _ _ _ _ H) (fun mc ms k => go_if_gt hd hX (fun _ => k) (fun q => absurd ‹_› q))
      · exact ge_same (hκ _ _ _ _ _ H) (fun mc ms k => go_if_gt hd hX (fun q => absurd q ‹_›) (fun _ => k))
    case le =>
      unfold bI at H
      dsimp only at H
      split at H
      · exact ge_same (hκ _ _ _ _ _ H) (fun mc ms k => go_if_le hd hX (fun _ => k) (fun q => absurd ‹_› q))
      · exact ge_same (hκ _ _ _ _ _ H) (fun mc ms k => go_if_le hd hX (fun q => absurd q ‹_›) (fun _ => k))
  case if_icmp cd o =>
    obtain ⟨hd, hn⟩ := hV
    have hn9 : nx = pc + 3 := hn
    subst hn9
    clear hn
    obtain ⟨x, y, s, rfl, H9⟩ := i2_x H
    clear H
    have H := H9
    clear H9
    cases cd
    case eq =>
      unfold bI at H
      dsimp only at H
      split at H
      · exact ge_same (hκ _ _ _ _ _ H) (fun mc ms k => go_icmp_eq hd hX (fun _ => k) (fun q => absurd ‹_› q))
      · exact ge_same (hκ _ _ _ _ _ H) (fun mc ms k => go_icmp_eq hd hX (fun q => absurd q ‹_›) (fun _ => k))
    case ne =>
      unfold bI at H
      dsimp only at H
      split at H
      · exact ge_same (hκ _ _ _ _ _ H) (fun mc ms k => go_icmp_ne hd hX (fun q => absurd ‹_› q) (fun _ => k))
      · exact ge_same (hκ _ _ _ _ _ H) (fun mc ms k => go_icmp_ne hd hX (fun _ => k) (fun q => absurd q ‹_›))
    case lt =>
      unfold bI at H
      dsimp only at H
      split at H
      · exact ge_same (hκ _ _ _ _ _ H) (fun mc ms k => go_icmp_lt hd hX (fun _ => k) (fun q => absurd ‹_› q))
      · exact ge_same (hκ _ _ _ _ _ H) (fun mc ms k => go_icmp_lt hd hX (fun q => absurd q ‹_›) (fun _ => k))
    case ge =>
      unfold bI at H
      dsimp only at H
      split at H
      · exact ge_same (hκ _ _ _ _ _ H) (fun mc ms k => go_icmp_ge hd hX (fun _ => k) (fun q => absurd ‹_› q))
      · exact ge_same (hκ _ _ _ _ _ H) (fun mc ms k => go_icmp_ge hd hX (fun q => absurd q ‹_›) (fun _ => k))
    case gt =>
      unfold bI at H
      dsimp only at H
      split at H
      · exact ge_same (hκ _ _ _ _ _ H) (fun mc ms k => go_icmp_gt hd hX (fun _ => k) (fun q => absurd ‹_› q))
      · exact ge_same (hκ _ _ _ _ _ H) (fun mc ms k => go_icmp_gt hd hX (fun q => absurd q ‹_›) (fun _ => k))
    case le =>
      unfold bI at H
      dsimp only at H
      split at H
      · exact ge_same (hκ _ _ _ _ _ H) (fun mc ms k => go_icmp_le hd hX (fun _ => k) (fun q => absurd ‹_› q))
      · exact ge_same (hκ _ _ _ _ _ H) (fun mc ms k => go_icmp_le hd hX (fun q => absurd q ‹_›) (fun _ => k))
  case ifnull o =>
    obtain ⟨hd, hn⟩ := hV
    have hn9 : nx = pc + 3 := hn
    subst hn9
    clear hn
    obtain ⟨x, s, rfl, H9⟩ := a1_x H
    clear H
    have H := H9
    clear H9
    obtain ⟨hr, H9⟩ := iA_x H
    clear H
    have H := H9
    clear H9
    unfold nz at H
    split at H
    · exact ge_same (hκ _ _ _ _ _ H) (fun mc ms k => go_ifnull_n hd hX k)
    · exact ge_same (hκ _ _ _ _ _ H) (fun mc ms k => go_ifnull_r hd hr (by assumption) k)
  case ifnonnull o =>
    obtain ⟨hd, hn⟩ := hV
    have hn9 : nx = pc + 3 := hn
    subst hn9
    clear hn
    obtain ⟨x, s, rfl, H9⟩ := a1_x H
    clear H
    have H := H9
    clear H9
    obtain ⟨hr, H9⟩ := iA_x H
    clear H
    have H := H9
    clear H9
    unfold nz at H
    split at H
    · exact ge_same (hκ _ _ _ _ _ H) (fun mc ms k => go_ifnonnull_n hd k)
    · exact ge_same (hκ _ _ _ _ _ H) (fun mc ms k => go_ifnonnull_r hd hX hr (by assumption) k)
  case tableswitch df lo hi offs =>
    obtain ⟨len, hd⟩ := hV
    obtain ⟨x, s, rfl, H9⟩ := i1_x H
    clear H
    have H := H9
    clear H9
    obtain ⟨h1, h2, h3⟩ := hX
    have hg : h.length ≤ h'.length ∧ sz h ≤ sz h' := by
      have key : ∀ l : List (Int32 × Nat), tsw x (κ true a loc s h) (fun t => κ true t loc s h) l = some (R, h') → h.length ≤ h'.length ∧ sz h ≤ sz h' := by
        intro l
        induction l with
        | nil => intro H; exact ⟨(hκ _ _ _ _ _ H).1, (hκ _ _ _ _ _ H).2.1⟩
        | cons q l ih =>
          intro H
          unfold tsw at H
          split at H
          · exact ⟨(hκ _ _ _ _ _ H).1, (hκ _ _ _ _ _ H).2.1⟩
          · exact ih H
      exact key _ H
    exact ⟨hg.1, hg.2, tab_go hd h1 h2 h3 H (fun q => (hκ _ _ _ _ _ q).2.2) (fun t q => (hκ _ _ _ _ _ q).2.2)⟩
  case ireturn =>
    obtain ⟨hd, hn⟩ := hV
    have hn9 : nx = pc + 1 := hn
    subst hn9
    clear hn
    obtain ⟨x, s, rfl, H9⟩ := i1_x H
    clear H
    have H := H9
    clear H9
    obtain ⟨rfl, H9⟩ := z0_x H
    clear H
    have H := H9
    clear H9
    rcases hX with ⟨rfl, F⟩ | ⟨rfl, F⟩ | ⟨rfl, F⟩ | ⟨rfl, F⟩
    · cases H
      exact ge_end (fun mc ms => go_ireturn hd F)
    · obtain ⟨hz, H9⟩ := zR_n H
      clear H
      have H := H9
      clear H9
      cases H
      exact ge_end (fun mc ms => go_zreturn hd F (by rcases hz with rfl | rfl <;> decide))
    · obtain ⟨hz, H9⟩ := nR_x H
      clear H
      have H := H9
      clear H9
      cases H
      exact ge_end (fun mc ms => go_zreturn hd F hz)
    · obtain ⟨hz, H9⟩ := nR_x H
      clear H
      have H := H9
      clear H9
      cases H
      exact ge_end (fun mc ms => go_zreturn hd F hz)
  case lreturn =>
    obtain ⟨hd, hn⟩ := hV
    have hn9 : nx = pc + 1 := hn
    subst hn9
    clear hn
    obtain ⟨x, s, rfl, H9⟩ := j1_x H
    clear H
    have H := H9
    clear H9
    obtain ⟨rfl, H9⟩ := z0_x H
    clear H
    have H := H9
    clear H9
    cases H
    exact ge_end (fun mc ms => go_lreturn hd hX)
  case areturn =>
    obtain ⟨hd, hn⟩ := hV
    have hn9 : nx = pc + 1 := hn
    subst hn9
    clear hn
    obtain ⟨x, s, rfl, H9⟩ := a1_x H
    clear H
    have H := H9
    clear H9
    obtain ⟨rfl, H9⟩ := z0_x H
    clear H
    have H := H9
    clear H9
    obtain ⟨hr, H9⟩ := iA_x H
    clear H
    have H := H9
    clear H9
    obtain ⟨n, hX⟩ := hX
    cases H
    exact ge_end (fun mc ms => go_areturn hr hd hX)
  case return_ =>
    obtain ⟨hd, hn⟩ := hV
    have hn9 : nx = pc + 1 := hn
    subst hn9
    clear hn
    obtain ⟨rfl, H9⟩ := z0_x H
    clear H
    have H := H9
    clear H9
    cases H
    exact ge_end (fun mc ms => go_vreturn hd hX)
  case invokevirtual i =>
    obtain ⟨hd, hn⟩ := hV
    have hn9 : nx = pc + 3 := hn
    subst hn9
    clear hn
    obtain ⟨av, s, hav, rfl, H9⟩ := popA_x H
    clear H
    have H := H9
    clear H9
    rw [List.append_nil] at H
    obtain ⟨o, s, rfl, H9⟩ := a1_x H
    clear H
    have H := H9
    clear H9
    obtain ⟨hb8, H9⟩ := h8_x H
    clear H
    have H := H9
    clear H9
    rcases hX with ⟨rfl, Z, hZ, F⟩ | ⟨he9, ⟨Z, hZ, F⟩, hHC⟩
    · obtain ⟨i9, rfl, hi9, H9⟩ := rS0_x H
      clear H
      have H := H9
      clear H9
      rcases cIx_x H with ⟨x, h1, hr, H⟩ | ⟨E, h1, hr, H⟩
      · obtain ⟨Z1, m1, hm1, hE⟩ := hcall _ _ _ _ _ hr
        cases hZ.symm.trans hm1
        exact ge_mono (by simp [ceE, tcR]) (ge_call hE (hκ _ _ _ _ _ H) (fun mc1 ms1 mc ms q k => go_callVS av hd F q hi9 rfl hav hb8 k))
      · cases H
    · have H2 : rC h o e9 (rtn md (thrH md (mYl Y) ct loc (κ true)) c (call a (o :: av) h) s (fun s1 h1 => κ fc (pc + 3) loc s1 h1)) = some (R, h') := by
        split at H
        · exact absurd rfl he9
        · exact H
      clear H
      have H := H2
      clear H2
      obtain ⟨a9, fs, rfl, ha, H9⟩ := rC_x H
      clear H
      have H := H9
      clear H9
      match md, hmd, hκt, hHC, H with
      | 0, hmd, _, _, H =>
        rcases hmd with ⟨_, g1, g2, g3⟩ | ⟨q, _⟩ | q
        · match c, H with
          | 0, H =>
            rcases cU_x H with ⟨h1, hr, H⟩ | ⟨E, h1, hr, hz⟩
            · obtain ⟨Z1, m1, hm1, hE⟩ := hcall _ _ _ _ _ hr
              cases hZ.symm.trans hm1
              exact ge_mono (by simp [ceE, tcR]) (ge_call hE (hκ _ _ _ _ _ H) (fun mc1 ms1 mc ms q k => go_callV av hd F q ha rfl hav hb8 k))
            · obtain ⟨Z1, m1, hm1, hE⟩ := hcall _ _ _ _ _ hr
              cases hZ.symm.trans hm1
              cases hz
              rw [g3]
              exact ge_thr hE (fun mc1 ms1 q => go_throwV av hd F q ha g1 g2 rfl hav hb8)
          | 1, H =>
            rcases cI_x H with ⟨x, h1, hr, H⟩ | ⟨E, h1, hr, hz⟩
            · obtain ⟨Z1, m1, hm1, hE⟩ := hcall _ _ _ _ _ hr
              cases hZ.symm.trans hm1
              exact ge_mono (by simp [ceE, tcR]) (ge_call hE (hκ _ _ _ _ _ H) (fun mc1 ms1 mc ms q k => go_callV av hd F q ha rfl hav hb8 k))
            · obtain ⟨Z1, m1, hm1, hE⟩ := hcall _ _ _ _ _ hr
              cases hZ.symm.trans hm1
              cases hz
              rw [g3]
              exact ge_thr hE (fun mc1 ms1 q => go_throwV av hd F q ha g1 g2 rfl hav hb8)
          | 2, H =>
            rcases cJ_x H with ⟨x, h1, hr, H⟩ | ⟨E, h1, hr, hz⟩
            · obtain ⟨Z1, m1, hm1, hE⟩ := hcall _ _ _ _ _ hr
              cases hZ.symm.trans hm1
              exact ge_mono (by simp [ceE, tcR]) (ge_call hE (hκ _ _ _ _ _ H) (fun mc1 ms1 mc ms q k => go_callV av hd F q ha rfl hav hb8 k))
            · obtain ⟨Z1, m1, hm1, hE⟩ := hcall _ _ _ _ _ hr
              cases hZ.symm.trans hm1
              cases hz
              rw [g3]
              exact ge_thr hE (fun mc1 ms1 q => go_throwV av hd F q ha g1 g2 rfl hav hb8)
          | c + 3, H =>
            rcases cA_x H with ⟨x, h1, hr, H⟩ | ⟨E, h1, hr, hz⟩
            · obtain ⟨Z1, m1, hm1, hE⟩ := hcall _ _ _ _ _ hr
              cases hZ.symm.trans hm1
              exact ge_mono (by simp [ceE, tcR]) (ge_call hE (hκ _ _ _ _ _ H) (fun mc1 ms1 mc ms q k => go_callV av hd F q ha rfl hav hb8 k))
            · obtain ⟨Z1, m1, hm1, hE⟩ := hcall _ _ _ _ _ hr
              cases hZ.symm.trans hm1
              cases hz
              rw [g3]
              exact ge_thr hE (fun mc1 ms1 q => go_throwV av hd F q ha g1 g2 rfl hav hb8)
        · cases q
        · cases q
      | 1, hmd, hκt, hHC, H =>
        rcases hmd with ⟨q, _⟩ | ⟨_, g1, g2⟩ | q
        · cases q
        · obtain ⟨e2, he2, hκt⟩ := hκt (by decide)
          have he3 : e2 + 1 ≤ e := he2
          clear he2
          have key : ∀ E h1, call a (.ref a9 :: av) h = some (.inr E, h1) → thrH 1 (mYl Y) ct loc (κ true) E h1 = some (R, h') → GoE G (d + 1) e Y pc loc (av.reverse ++ .ref a9 :: s) h R h' := by
            intro E h1 hr H
            obtain ⟨q, k, hq, H9⟩ := thrH_x H
            clear H
            have H := H9
            clear H9
            obtain ⟨Z1, m1, hm1, hE⟩ := hcall _ _ _ _ _ hr
            cases hZ.symm.trans hm1
            obtain ⟨k1, k2, k3, H9⟩ := sto_x H
            clear H
            have H := H9
            clear H9
            obtain ⟨pre, x, suf, len, w1, w2, w3, w4, w5, w6, w7, w8, rfl⟩ := hHC rfl E q k hq
            exact ge_mono (by simp [ceE, tcR]; omega) (ge_call hE (hκt _ _ _ _ H) (fun mc1 ms1 mc ms q k => go_catchV av pre x suf hd F q ha rfl hav hb8 g1 w1 w2 w3 w4 w5 w6 w7 w8 k1 k3 k2 k))
          match c, H with
          | 0, H =>
            rcases cUx_x H with ⟨h1, hr, H⟩ | ⟨E, h1, hr, H⟩
            · obtain ⟨Z1, m1, hm1, hE⟩ := hcall _ _ _ _ _ hr
              cases hZ.symm.trans hm1
              exact ge_mono (by simp [ceE, tcR]) (ge_call hE (hκ _ _ _ _ _ H) (fun mc1 ms1 mc ms q k => go_callV av hd F q ha rfl hav hb8 k))
            · exact key E h1 hr H
          | c + 1, H =>
            rcases cIx_x H with ⟨x, h1, hr, H⟩ | ⟨E, h1, hr, H⟩
            · obtain ⟨Z1, m1, hm1, hE⟩ := hcall _ _ _ _ _ hr
              cases hZ.symm.trans hm1
              exact ge_mono (by simp [ceE, tcR]) (ge_call hE (hκ _ _ _ _ _ H) (fun mc1 ms1 mc ms q k => go_callV av hd F q ha rfl hav hb8 k))
            · exact key E h1 hr H
        · cases q
      | md + 2, hmd, _, _, H =>
        match c, H with
        | 0, H =>
          rcases cUx_x H with ⟨h1, hr, H⟩ | ⟨E, h1, hr, H⟩
          · obtain ⟨Z1, m1, hm1, hE⟩ := hcall _ _ _ _ _ hr
            cases hZ.symm.trans hm1
            exact ge_mono (by simp [ceE, tcR]) (ge_call hE (hκ _ _ _ _ _ H) (fun mc1 ms1 mc ms q k => go_callV av hd F q ha rfl hav hb8 k))
          · cases H
        | c + 1, H =>
          rcases cIx_x H with ⟨x, h1, hr, H⟩ | ⟨E, h1, hr, H⟩
          · obtain ⟨Z1, m1, hm1, hE⟩ := hcall _ _ _ _ _ hr
            cases hZ.symm.trans hm1
            exact ge_mono (by simp [ceE, tcR]) (ge_call hE (hκ _ _ _ _ _ H) (fun mc1 ms1 mc ms q k => go_callV av hd F q ha rfl hav hb8 k))
          · cases H
  case invokestatic i =>
    obtain ⟨hd, hn⟩ := hV
    have hn9 : nx = pc + 3 := hn
    subst hn9
    clear hn
    rcases hX with ⟨rfl, Z, hZ, F⟩ | ⟨rfl, j, Z, hZ, F⟩ | ⟨rfl, w1, w2, w3, w4⟩ | ⟨rfl, rfl, hm2, Z, hZ, F⟩ | ⟨rfl, F⟩ | ⟨rfl, F⟩ | ⟨rfl, F⟩ | ⟨rfl, F⟩
    · obtain ⟨av, s, hav, rfl, H9⟩ := popA_x H
      clear H
      have H := H9
      clear H9
      rw [List.append_nil] at H
      obtain ⟨hb8, H9⟩ := h8_x H
      clear H
      have H := H9
      clear H9
      match md, hmd, hκt, H with
      | 0, hmd, _, H =>
        rcases hmd with ⟨_, g1, g2, g3⟩ | ⟨q, _⟩ | q
        · match c, H with
          | 0, H =>
            rcases cU_x H with ⟨h1, hr, H⟩ | ⟨E, h1, hr, hz⟩
            · obtain ⟨Z1, m1, hm1, hE⟩ := hcall _ _ _ _ _ hr
              cases hZ.symm.trans hm1
              exact ge_mono (by simp [ceE, tcR]) (ge_call hE (hκ _ _ _ _ _ H) (fun mc1 ms1 mc ms q k => go_callS av hd F q rfl hav hb8 k))
            · obtain ⟨Z1, m1, hm1, hE⟩ := hcall _ _ _ _ _ hr
              cases hZ.symm.trans hm1
              cases hz
              rw [g3]
              exact ge_thr hE (fun mc1 ms1 q => go_throwS av hd F q g1 g2 rfl hav hb8)
          | 1, H =>
            rcases cI_x H with ⟨x, h1, hr, H⟩ | ⟨E, h1, hr, hz⟩
            · obtain ⟨Z1, m1, hm1, hE⟩ := hcall _ _ _ _ _ hr
              cases hZ.symm.trans hm1
              exact ge_mono (by simp [ceE, tcR]) (ge_call hE (hκ _ _ _ _ _ H) (fun mc1 ms1 mc ms q k => go_callS av hd F q rfl hav hb8 k))
            · obtain ⟨Z1, m1, hm1, hE⟩ := hcall _ _ _ _ _ hr
              cases hZ.symm.trans hm1
              cases hz
              rw [g3]
              exact ge_thr hE (fun mc1 ms1 q => go_throwS av hd F q g1 g2 rfl hav hb8)
          | 2, H =>
            rcases cJ_x H with ⟨x, h1, hr, H⟩ | ⟨E, h1, hr, hz⟩
            · obtain ⟨Z1, m1, hm1, hE⟩ := hcall _ _ _ _ _ hr
              cases hZ.symm.trans hm1
              exact ge_mono (by simp [ceE, tcR]) (ge_call hE (hκ _ _ _ _ _ H) (fun mc1 ms1 mc ms q k => go_callS av hd F q rfl hav hb8 k))
            · obtain ⟨Z1, m1, hm1, hE⟩ := hcall _ _ _ _ _ hr
              cases hZ.symm.trans hm1
              cases hz
              rw [g3]
              exact ge_thr hE (fun mc1 ms1 q => go_throwS av hd F q g1 g2 rfl hav hb8)
          | c + 3, H =>
            rcases cA_x H with ⟨x, h1, hr, H⟩ | ⟨E, h1, hr, hz⟩
            · obtain ⟨Z1, m1, hm1, hE⟩ := hcall _ _ _ _ _ hr
              cases hZ.symm.trans hm1
              exact ge_mono (by simp [ceE, tcR]) (ge_call hE (hκ _ _ _ _ _ H) (fun mc1 ms1 mc ms q k => go_callS av hd F q rfl hav hb8 k))
            · obtain ⟨Z1, m1, hm1, hE⟩ := hcall _ _ _ _ _ hr
              cases hZ.symm.trans hm1
              cases hz
              rw [g3]
              exact ge_thr hE (fun mc1 ms1 q => go_throwS av hd F q g1 g2 rfl hav hb8)
        · cases q
        · cases q
      | md + 1, hmd, _, H =>
        match c, H with
        | 0, H =>
          rcases cUx_x H with ⟨h1, hr, H⟩ | ⟨E, h1, hr, H⟩
          · obtain ⟨Z1, m1, hm1, hE⟩ := hcall _ _ _ _ _ hr
            cases hZ.symm.trans hm1
            exact ge_mono (by simp [ceE, tcR]) (ge_call hE (hκ _ _ _ _ _ H) (fun mc1 ms1 mc ms q k => go_callS av hd F q rfl hav hb8 k))
          · cases H
        | c + 1, H =>
          rcases cIx_x H with ⟨x, h1, hr, H⟩ | ⟨E, h1, hr, H⟩
          · obtain ⟨Z1, m1, hm1, hE⟩ := hcall _ _ _ _ _ hr
            cases hZ.symm.trans hm1
            exact ge_mono (by simp [ceE, tcR]) (ge_call hE (hκ _ _ _ _ _ H) (fun mc1 ms1 mc ms q k => go_callS av hd F q rfl hav hb8 k))
          · cases H
    · obtain ⟨av, s, hav, rfl, H9⟩ := popA_x H
      clear H
      have H := H9
      clear H9
      rw [List.append_nil] at H
      obtain ⟨hb8, H9⟩ := h8_x H
      clear H
      have H := H9
      clear H9
      rcases cIx_x H with ⟨x, h1, hr, H⟩ | ⟨E, h1, hr, H⟩
      · obtain ⟨Z1, m1, hm1, hE⟩ := hcall _ _ _ _ _ hr
        cases hZ.symm.trans hm1
        exact ge_mono (by simp [ceE, tcR]) (ge_call hE (hκ _ _ _ _ _ H) (fun mc1 ms1 mc ms q k => go_callN av hd F q rfl hav hb8 k))
      · cases H
    · obtain ⟨dp, n, s, rfl, H9⟩ := i2_x H
      clear H
      have H := H9
      clear H9
      obtain ⟨o1, s, rfl, H9⟩ := a1_x H
      clear H
      have H := H9
      clear H9
      obtain ⟨sp, s, rfl, H9⟩ := i1_x H
      clear H
      have H := H9
      clear H9
      obtain ⟨o, s, rfl, H9⟩ := a1_x H
      clear H
      have H := H9
      clear H9
      obtain ⟨hb8, H9⟩ := h8_x H
      clear H
      have H := H9
      clear H9
      obtain ⟨a9, b9, n0, n1, f, g, rfl, rfl, ha, hb, ⟨q1, q2, q3, q4, q5⟩, H9⟩ := cpI_x H
      clear H
      have H := H9
      clear H9
      exact ge_set hb (by rfl) (hκ _ _ _ _ _ H) (fun mc ms k => go_copyI hd w1 w2 w3 w4 ha hb q1 q2 q3 q4 q5 hb8 k)
    · obtain ⟨av, s, hav, rfl, H9⟩ := popA_x H
      clear H
      have H := H9
      clear H9
      rw [List.append_nil] at H
      obtain ⟨hb8, H9⟩ := h8_x H
      clear H
      have H := H9
      clear H9
      subst hm2
      obtain ⟨e2, he2, hκt⟩ := hκt (by decide)
      match c, H with
      | 0, H =>
        rcases cUx_x H with ⟨h1, hr, H⟩ | ⟨E, h1, hr, H⟩
        · obtain ⟨Z1, m1, hm1, hE⟩ := hcall _ _ _ _ _ hr
          cases hZ.symm.trans hm1
          exact ge_mono (by simp [ceE, tcR] at he2 ⊢; omega) (ge_call hE (hκt _ _ _ _ H) (fun mc1 ms1 mc ms q k => go_callH av hd F q rfl hav hb8 k))
        · cases H
      | c + 1, H =>
        rcases cIx_x H with ⟨x, h1, hr, H⟩ | ⟨E, h1, hr, H⟩
        · obtain ⟨Z1, m1, hm1, hE⟩ := hcall _ _ _ _ _ hr
          cases hZ.symm.trans hm1
          exact ge_mono (by simp [ceE, tcR] at he2 ⊢; omega) (ge_call hE (hκt _ _ _ _ H) (fun mc1 ms1 mc ms q k => go_callH av hd F q rfl hav hb8 k))
        · cases H
    · obtain ⟨x, y, s, rfl, H9⟩ := i2_x H
      clear H
      have H := H9
      clear H9
      obtain ⟨hb8, H9⟩ := h8_x H
      clear H
      have H := H9
      clear H9
      exact ge_same (hκ _ _ _ _ _ H) (fun mc ms k => go_mmaxI hd F hb8 k)
    · obtain ⟨x, y, s, rfl, H9⟩ := i2_x H
      clear H
      have H := H9
      clear H9
      obtain ⟨hb8, H9⟩ := h8_x H
      clear H
      have H := H9
      clear H9
      exact ge_same (hκ _ _ _ _ _ H) (fun mc ms k => go_mminI hd F hb8 k)
    · obtain ⟨x, y, s, rfl, H9⟩ := j2_x H
      clear H
      have H := H9
      clear H9
      obtain ⟨hb8, H9⟩ := h8_x H
      clear H
      have H := H9
      clear H9
      exact ge_same (hκ _ _ _ _ _ H) (fun mc ms k => go_mmaxJ hd F hb8 k)
    · obtain ⟨x, y, s, rfl, H9⟩ := j2_x H
      clear H
      have H := H9
      clear H9
      obtain ⟨hb8, H9⟩ := h8_x H
      clear H
      have H := H9
      clear H9
      exact ge_same (hκ _ _ _ _ _ H) (fun mc ms k => go_mminJ hd F hb8 k)
  case invokespecial i =>
    obtain ⟨hd, hn⟩ := hV
    have hn9 : nx = pc + 3 := hn
    subst hn9
    clear hn
    rcases hX with ⟨rfl, Z, hZ, F⟩ | ⟨rfl, w1, w2, w3⟩
    · obtain ⟨av, s, hav, rfl, H9⟩ := popA_x H
      clear H
      have H := H9
      clear H9
      rw [List.append_nil] at H
      obtain ⟨o, s, rfl, H9⟩ := a1_x H
      clear H
      have H := H9
      clear H9
      split at H
      · obtain ⟨hb8, H9⟩ := h8_x H
        clear H
        have H := H9
        clear H9
        rcases cUx_x H with ⟨h1, hr, H⟩ | ⟨E, h1, hr, H⟩
        · obtain ⟨Z1, m1, hm1, hE⟩ := hcall _ _ _ _ _ hr
          cases hZ.symm.trans hm1
          exact ge_mono (by simp [ceE, tcR]) (ge_call hE (hκ _ _ _ _ _ H) (fun mc1 ms1 mc ms q k => go_callI av hd F q rfl hav hb8 k))
        · cases H
      · cases H
    · obtain ⟨o, s, rfl, H9⟩ := a1_x H
      clear H
      have H := H9
      clear H9
      split at H
      · obtain ⟨hb8, H9⟩ := h8_x H
        clear H
        have H := H9
        clear H9
        exact ge_same (hκ _ _ _ _ _ H) (fun mc ms k => go_objInit hd w1 w2 w3 hb8 k)
      · cases H
  all_goals (exfalso; revert H; intro q; cases q)
end SoundC
