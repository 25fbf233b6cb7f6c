/-! what the Statement gives of the start: classes, arrays, old objects -/
section Pre
variable {s : State} {b : Nat}
theorem pk_cls (hts : ∀ w ∈ lw_tbl, w.before #[Value.ref b] s = true) : ∃ D : va_G, ∀ (k : Nat) (q : vw_C), vwCl[k]? = some q → u_Kn s q.1 q.2.1 q.2.2 (D.1 k) (D.2 k) := by
  have h : ∀ k : Nat, ∃ z : ClassId × (Nat → Nat), ∀ q : vw_C, vwCl[k]? = some q → u_Kn s q.1 q.2.1 q.2.2 z.1 z.2 := by
    intro k
    match k with
    | 0 => obtain ⟨a, f, h⟩ := u_known (C := RJ0) (T := TJ0) (N := 2) (n := 4) hts (by decide +kernel) (hts (.instantiable RJ0 4) (by decide +kernel)); exact ⟨(a, f), fun q hq => by cases hq; exact h⟩
    | 1 => obtain ⟨a, f, h⟩ := u_known (C := RJx00060) (T := TJx00060) (N := 6) (n := 6) hts (by decide +kernel) (hts (.instantiable RJx00060 6) (by decide +kernel)); exact ⟨(a, f), fun q hq => by cases hq; exact h⟩
    | 2 => obtain ⟨a, f, h⟩ := u_known (C := RJx3273f) (T := TJx3273f) (N := 6) (n := 6) hts (by decide +kernel) (hts (.instantiable RJx3273f 6) (by decide +kernel)); exact ⟨(a, f), fun q hq => by cases hq; exact h⟩
    | 3 => obtain ⟨a, f, h⟩ := u_known (C := RX0) (T := TX0) (N := 10) (n := 10) hts (by decide +kernel) (hts (.instantiable RX0 10) (by decide +kernel)); exact ⟨(a, f), fun q hq => by cases hq; exact h⟩
    | 4 => obtain ⟨a, f, h⟩ := u_known (C := RX1) (T := TX1) (N := 4) (n := 4) hts (by decide +kernel) (hts (.instantiable RX1 4) (by decide +kernel)); exact ⟨(a, f), fun q hq => by cases hq; exact h⟩
    | 5 => obtain ⟨a, f, h⟩ := u_known (C := RX2) (T := TX2) (N := 1) (n := 1) hts (by decide +kernel) (hts (.instantiable RX2 1) (by decide +kernel)); exact ⟨(a, f), fun q hq => by cases hq; exact h⟩
    | 6 => obtain ⟨a, f, h⟩ := u_known (C := RX3) (T := TX3) (N := 12) (n := 12) hts (by decide +kernel) (hts (.instantiable RX3 12) (by decide +kernel)); exact ⟨(a, f), fun q hq => by cases hq; exact h⟩
    | 7 => obtain ⟨a, f, h⟩ := u_known (C := RX4) (T := TX4) (N := 6) (n := 6) hts (by decide +kernel) (hts (.instantiable RX4 6) (by decide +kernel)); exact ⟨(a, f), fun q hq => by cases hq; exact h⟩
    | 8 => obtain ⟨a, f, h⟩ := u_known (C := RX5) (T := TX5) (N := 7) (n := 7) hts (by decide +kernel) (hts (.instantiable RX5 7) (by decide +kernel)); exact ⟨(a, f), fun q hq => by cases hq; exact h⟩
    | 9 => obtain ⟨a, f, h⟩ := u_known (C := RX6) (T := TX6) (N := 12) (n := 12) hts (by decide +kernel) (hts (.instantiable RX6 12) (by decide +kernel)); exact ⟨(a, f), fun q hq => by cases hq; exact h⟩
    | 10 => obtain ⟨a, f, h⟩ := u_known (C := RX7) (T := TX7) (N := 3) (n := 3) hts (by decide +kernel) (hts (.instantiable RX7 3) (by decide +kernel)); exact ⟨(a, f), fun q hq => by cases hq; exact h⟩
    | 11 => obtain ⟨a, f, h⟩ := u_known (C := RX8) (T := TX8) (N := 2) (n := 2) hts (by decide +kernel) (hts (.instantiable RX8 2) (by decide +kernel)); exact ⟨(a, f), fun q hq => by cases hq; exact h⟩
    | 12 => obtain ⟨a, f, h⟩ := u_known (C := RX9) (T := TX9) (N := 4) (n := 4) hts (by decide +kernel) (hts (.instantiable RX9 4) (by decide +kernel)); exact ⟨(a, f), fun q hq => by cases hq; exact h⟩
    | 13 => obtain ⟨a, f, h⟩ := u_known (C := RX10) (T := TX10) (N := 4) (n := 4) hts (by decide +kernel) (hts (.instantiable RX10 4) (by decide +kernel)); exact ⟨(a, f), fun q hq => by cases hq; exact h⟩
    | 14 => obtain ⟨a, f, h⟩ := u_known (C := RX11) (T := TX11) (N := 4) (n := 4) hts (by decide +kernel) (hts (.instantiable RX11 4) (by decide +kernel)); exact ⟨(a, f), fun q hq => by cases hq; exact h⟩
    | 15 => obtain ⟨a, f, h⟩ := u_known (C := RX12) (T := TX12) (N := 18) (n := 18) hts (by decide +kernel) (hts (.instantiable RX12 18) (by decide +kernel)); exact ⟨(a, f), fun q hq => by cases hq; exact h⟩
    | n + 16 => exact ⟨(0, fun _ => 0), fun q hq => by cases hq⟩
  obtain ⟨f, hf⟩ := Classical.axiomOfChoice h
  exact ⟨(fun k => (f k).1, fun k => (f k).2), fun k q hq => hf k q hq⟩
theorem pk_arr (hts : ∀ w ∈ lw_tbl, w.before #[Value.ref b] s = true) : ∃ tc : Nat → ClassId, ∀ (k : Nat) (q : ClassId × FieldType), ([(tc 0, .int), (tc 1, .byte), (tc 2, .boolean), (tc 3, .long), (tc 4, .object "GreatEstate$Text")] : List (ClassId × FieldType))[k]? = some q → ArrOfT s q.1 q.2 ∧ va_RA s q.1 q.2 := by
  obtain ⟨c0, k0, m0, a0, d0, e0⟩ := Cond.arrayClass_spec (hts (.arrayClass .int) (by decide +kernel))
  obtain ⟨c1, k1, m1, a1, d1, e1⟩ := Cond.arrayClass_spec (hts (.arrayClass .byte) (by decide +kernel))
  obtain ⟨c2, k2, m2, a2, d2, e2⟩ := Cond.arrayClass_spec (hts (.arrayClass .boolean) (by decide +kernel))
  obtain ⟨c3, k3, m3, a3, d3, e3⟩ := Cond.arrayClass_spec (hts (.arrayClass .long) (by decide +kernel))
  obtain ⟨m4, c4, k4, f4, -, d4, e4, a4⟩ := Cond.arrayOver_spec (hts (.arrayOver (.object "GreatEstate$Text")) (by decide +kernel))
  refine ⟨fun k => match k with | 0 => c0 | 1 => c1 | 2 => c2 | 3 => c3 | _ => c4, fun k q hq => ?_⟩
  match k, hq with
  | 0, hq => cases hq; exact ⟨fun n z => ⟨fun k h => (by cases h), k0, d0, m0, e0⟩, a0⟩
  | 1, hq => cases hq; exact ⟨fun n z => ⟨fun k h => (by cases h), k1, d1, m1, e1⟩, a1⟩
  | 2, hq => cases hq; exact ⟨fun n z => ⟨fun k h => (by cases h), k2, d2, m2, e2⟩, a2⟩
  | 3, hq => cases hq; exact ⟨fun n z => ⟨fun k h => (by cases h), k3, d3, m3, e3⟩, a3⟩
  | 4, hq => cases hq; exact ⟨fun n z => ⟨fun k h => (by cases h), k4, d4, m4, e4⟩, k4, m4, d4, e4, f4, a4⟩
  | n + 5, hq => cases hq
theorem isRef_x {args : Array Value} {t : Term} (h : (Cond.isRef t).before args s = true) : t.eval args s none [] s = some .null ∨ ∃ a, t.eval args s none [] s = some (.ref a) := by
  cases hv : t.eval args s none [] s with
  | none => simp [Cond.before, Cond.holds, Cond.value, hv] at h
  | some w =>
    simp -implicitDefEqProofs only [Cond.before, Cond.holds, Cond.value, hv] at h
    cases w <;> simp_all
abbrev gvn : Cond := Jvm.Cond.and given_1 narrow_1
def tmS (i : Nat) : Term := .string (strT.getD i ("", 0, "")).1 (strT.getD i ("", 0, "")).2.1
def posS : List Nat := [118, 140, 173, 370, 391, 425, 441, 449, 457, 464, 471, 480, 487, 495, 504, 512, 522, 530, 538, 548, 558, 564, 573, 583, 594, 603, 613, 622, 630, 639, 647, 655, 663, 669, 676, 684, 691, 699, 706, 714, 722, 733, 740]
theorem m_ex : ∀ i, i < 43 → (flatC gvn)[posS.getD i 0]? = some (Cond.exactly (tmS i) "java/lang/String") := by decide +kernel
theorem m_co : ∀ i, i < 43 → (flatC gvn)[posS.getD i 0 + 1]? = some (Cond.eq (.field (tmS i) "java/lang/String" "coder" "B") (.int 0)) := by decide +kernel
theorem m_ar : ∀ i, i < 43 → (flatC gvn)[posS.getD i 0 + 2]? = some (Cond.arrayOf (.field (tmS i) "java/lang/String" "value" "[B") .byte) := by decide +kernel
theorem m_le : ∀ i, i < 43 → (flatC gvn)[posS.getD i 0 + 3]? = some (Cond.eq (.length (.field (tmS i) "java/lang/String" "value" "[B")) (.int (Int32.ofNat (strLen.getD i 0)))) := by decide +kernel
theorem m_el : ∀ i, i < 43 → ∀ j, j < strLen.getD i 0 → (flatC gvn)[posS.getD i 0 + 4 + j]? = some (Cond.eq (.elem (.field (tmS i) "java/lang/String" "value" "[B") (.int (Int32.ofNat j))) (.int ((strByt.getD i []).getD j 0))) := by decide +kernel
theorem m_sr : ∀ i, i < 43 → Cond.stringRef (strT.getD i ("", 0, "")).1 (strT.getD i ("", 0, "")).2.1 (strT.getD i ("", 0, "")).2.2 ∈ lw_tbl := by decide +kernel
theorem m_df : ∀ i, i < 43 → ∀ j, j < 43 → strLen.getD i 0 = strLen.getD j 0 → (∀ n, n < strLen.getD i 0 → (strByt.getD i []).getD n 0 = (strByt.getD j []).getD n 0) → i = j := by decide +kernel
theorem m_l3 : ∀ i, i < 43 → strLen.getD i 0 < 1000 := by decide +kernel
/-- a string at its place -/
def SA (s : State) (A : Nat → Prop) (i a v : Nat) : Prop := (tmS i).eval #[Value.ref b] s none [] s = some (.ref a) ∧ va_O "java/lang/String" a A s s.heap ∧ va_OF "java/lang/String" "coder" "B" (.int 0) a A s s.heap ∧ va_OF "java/lang/String" "value" "[B" (.ref v) a A s s.heap ∧ va_T .byte v (strLen.getD i 0) (fun j => .int ((strByt.getD i []).getD j 0)) A s s.heap
theorem SA_of {A : Nat → Prop} (hs : ∀ c ∈ flatC gvn, c.before #[Value.ref b] s = true) (hA : ∀ a : Nat, a < s.heap.size → ¬ A a) {i : Nat} (hi : i < 43) : ∃ a v, SA (b := b) s A i a v := by
  obtain ⟨K, V, h1, h2⟩ := vk_Sof (N := 1) (tm := fun _ => tmS i) (len := [strLen.getD i 0]) (byt := [strByt.getD i []]) (A := A) (args := #[Value.ref b]) (s := s)
    (fun j hj => by obtain rfl : j = 0 := by omega
                    have := m_l3 i hi; show strLen.getD i 0 < 2 ^ 31; omega)
    (fun _ _ => hs _ (List.mem_of_getElem? (m_ex i hi))) (fun _ _ => hs _ (List.mem_of_getElem? (m_co i hi))) (fun _ _ => hs _ (List.mem_of_getElem? (m_ar i hi)))
    (fun j hj => by obtain rfl : j = 0 := by omega
                    exact hs _ (List.mem_of_getElem? (m_le i hi)))
    (fun j hj n hn => by obtain rfl : j = 0 := by omega
                         exact hs _ (List.mem_of_getElem? (m_el i hi n hn)))
    (fun i j hi hj h => absurd h (by omega)) hA
  exact ⟨K 0, V 0, h2 0 (by decide), h1.1 0 (by decide)⟩
theorem OF_same {o n d : String} {v v' : Value} {t : Nat} {A : Nat → Prop} {U : State} {H : Heap} (h : va_OF o n d v t A U H) (h' : va_OF o n d v' t A U H) : v = v' := by
  obtain ⟨cf, k, i, f, cell, a1, a2, a3, a4, a5, a6⟩ := h
  obtain ⟨cf', k', i', f', cell', b1, b2, b3, b4, b5, b6⟩ := h'
  cases a1.symm.trans b1
  cases a3.symm.trans b3
  exact Option.some.inj (a5.symm.trans b5)
theorem T_same {ty : FieldType} {t N N' : Nat} {f f' : Nat → Value} {A : Nat → Prop} {U : State} {H : Heap} (hN : N < 1000) (hN' : N' < 1000) (h : va_T ty t N f A U H) (h' : va_T ty t N' f' A U H) : N = N' ∧ ∀ j, j < N → f j = f' j := by
  obtain ⟨cell, a1, a2, a3, a4, a5, a6, a7⟩ := h
  obtain ⟨cell', b1, b2, b3, b4, b5, b6, b7⟩ := h'
  cases a1.symm.trans b1
  have e : N = N' := by
    have q := a5.symm.trans b5
    have := congrArg Int32.toNatClampNeg q
    rw [show Int32.ofNat N = nI N from rfl, show Int32.ofNat N' = nI N' from rfl, nI_clamp (by omega), nI_clamp (by omega)] at this
    exact this
  subst e
  exact ⟨rfl, fun j hj => Option.some.inj ((a6 j hj).symm.trans (b6 j hj))⟩
theorem SA_inj {A : Nat → Prop} {i j a v v' : Nat} (hi : i < 43) (hj : j < 43) (h : SA (b := b) s A i a v) (h' : SA (b := b) s A j a v') : i = j := by
  obtain ⟨-, -, -, f, t⟩ := h
  obtain ⟨-, -, -, f', t'⟩ := h'
  cases OF_same f f'
  obtain ⟨e, q⟩ := T_same (m_l3 i hi) (m_l3 j hj) t t'
  exact m_df i hi j hj e (fun n hn => by have := q n hn; injection this)
def tmT (i : Nat) : Term := .static (statT.getD i ("", "", [])).1 (statT.getD i ("", "", [])).2.1 "[I"
theorem n_ar : ∀ i, i < 2 → Cond.arrayOf (tmT i) .int ∈ flatC gvn := by decide +kernel
theorem n_le : ∀ i, i < 2 → Cond.eq (.length (tmT i)) (.int (Int32.ofNat (statT.getD i ("", "", [])).2.2.length)) ∈ flatC gvn := by decide +kernel
theorem n_el : ∀ i, i < 2 → ∀ j, j < (statT.getD i ("", "", [])).2.2.length → Cond.eq (.elem (tmT i) (.int (Int32.ofNat j))) (.int ((statT.getD i ("", "", [])).2.2.getD j 0)) ∈ flatC gvn := by decide +kernel
theorem n_ls : ∀ i, i < 2 → Cond.laysStatic (statT.getD i ("", "", [])).1 (statT.getD i ("", "", [])).2.1 "[I" ∈ lw_tbl := by decide +kernel
theorem n_in : ∀ i, i < 2 → Cond.initialized (statT.getD i ("", "", [])).1 ∈ lw_tbl := by decide +kernel
theorem n_l3 : ∀ i, i < 2 → (statT.getD i ("", "", [])).2.2.length < 2 ^ 31 := by decide +kernel
def TA (s : State) (A : Nat → Prop) (i t : Nat) : Prop := va_Z (statT.getD i ("", "", [])).1 (statT.getD i ("", "", [])).2.1 "[I" (.ref t) A s s.heap ∧ va_T .int t (statT.getD i ("", "", [])).2.2.length (fun j => .int ((statT.getD i ("", "", [])).2.2.getD j 0)) A s s.heap
theorem TA_of {A : Nat → Prop} (hts : ∀ w ∈ lw_tbl, w.before #[Value.ref b] s = true) (hs : ∀ c ∈ flatC gvn, c.before #[Value.ref b] s = true) (hA : ∀ a : Nat, a < s.heap.size → ¬ A a) {i : Nat} (hi : i < 2) : ∃ t, TA s A i t := by
  obtain ⟨t, h1, h2⟩ := va_Tof (n_l3 i hi) (hs _ (n_ar i hi)) (va_eqt (hs _ (n_le i hi))) (fun j hj => va_eqt (hs _ (n_el i hi j hj))) hA
  exact ⟨t, va_Zof (hts _ (n_ls i hi)) (hts _ (n_in i hi)) h1 hA, h2⟩
theorem n_ne : ∀ q ∈ nestT, Cond.methodLinkNest q.1 q.2.1 q.2.2.1 q.2.2.2 ∈ lw_tbl := by decide +kernel
theorem n_ex : ∀ E ∈ excT, ∀ F ∈ excT, E ≠ F → Cond.not (.castable E F) ∈ flatC gvn := by decide +kernel
theorem pre_old (l : Launch) {L : Nat} {xs : Nat → Int32} (hL : L ≤ 3584) (hts : ∀ w ∈ lw_tbl, w.before #[Value.ref b] s = true) (hX : va_X b L xs s s.heap) (hbl : b < s.heap.size) (hgv : gvn.before #[Value.ref b] s = true) :
    ∃ G : gC, gl G = l ∧ gL G = L ∧ gxs G = xs ∧ gb G = s.heap.size ∧ god G 0 = b ∧ Old G s ∧ va_K (gD G) vwCl (gT G) s := by
  have hs := flat_of_before _ hgv
  obtain ⟨D, hD⟩ := pk_cls hts
  obtain ⟨tc, hT⟩ := pk_arr hts
  have hA : ∀ a : Nat, a < s.heap.size → ¬ (fun q => s.heap.size ≤ q) a := fun a h => Nat.not_le.mpr h
  have hS : ∀ i : Nat, ∃ z : Nat × Nat, i < 43 → SA (b := b) s (fun q => s.heap.size ≤ q) i z.1 z.2 := by
    intro i
    by_cases hi : i < 43
    · obtain ⟨a, v, h⟩ := SA_of hs hA hi; exact ⟨(a, v), fun _ => h⟩
    · exact ⟨(0, 0), fun h => absurd h hi⟩
  obtain ⟨fS, hS⟩ := Classical.axiomOfChoice hS
  have hC : ∀ i : Nat, ∃ z : Nat, i < 2 → TA s (fun q => s.heap.size ≤ q) i z := by
    intro i
    by_cases hi : i < 2
    · obtain ⟨a, h⟩ := TA_of hts hs hA hi; exact ⟨a, fun _ => h⟩
    · exact ⟨0, fun h => absurd h hi⟩
  obtain ⟨fC, hC⟩ := Classical.axiomOfChoice hC
  have hF : ∃ z : Nat, (Term.static "jdk/internal/util/Preconditions" "SIOOBE_FORMATTER" "Ljava/util/function/BiFunction;").eval #[Value.ref b] s none [] s = some .null ∨ (Term.static "jdk/internal/util/Preconditions" "SIOOBE_FORMATTER" "Ljava/util/function/BiFunction;").eval #[Value.ref b] s none [] s = some (.ref z) := by
    rcases isRef_x (hs (.isRef (.static "jdk/internal/util/Preconditions" "SIOOBE_FORMATTER" "Ljava/util/function/BiFunction;")) (by decide +kernel)) with h | ⟨a, h⟩
    · exact ⟨0, Or.inl h⟩
    · exact ⟨a, Or.inr h⟩
  obtain ⟨fm, hF⟩ := hF
  refine ⟨(l, D, tc, fun j => if j = 0 then b else if j < 50 then fC (j - 1) else if j = 50 then fm else if j < 10000 then (fS (j - 100)).1 else (fS (j - 10000)).2, s.heap.size, L, xs), rfl, rfl, rfl, rfl, rfl, ⟨hX, hbl, Nat.le_refl _, hL, va_AO.of (hts _ (by decide +kernel)), ⟨?_, ?_⟩, ?_, ?_, ?_, ?_, ?_, ?_, ?_, ?_⟩, hD, hT⟩
  · exact va_Zof (hts _ (by decide +kernel)) (hts _ (by decide +kernel)) (va_eqi (hs _ (by decide +kernel))) hA
  · rcases hF with h | h
    · exact Or.inl (va_Zof (hts _ (by decide +kernel)) (hts _ (by decide +kernel)) h hA)
    · exact Or.inr (va_Zof (hts _ (by decide +kernel)) (hts _ (by decide +kernel)) h hA)
  · exact vx_Zqof (hts _ (by decide +kernel)) (hts _ (by decide +kernel)) (hs _ (by decide +kernel)) hA
  · exact vx_Zqof (hts _ (by decide +kernel)) (hts _ (by decide +kernel)) (hs _ (by decide +kernel)) hA
  · intro i q hq
    have hi : i < 2 := (List.getElem?_eq_some_iff.mp hq).1
    have e : statT.getD i ("", "", []) = q := by rw [List.getD_eq_getElem?_getD, hq]; rfl
    have h := hC i hi
    unfold TA at h
    rw [e] at h
    show va_Z _ _ _ (.ref (if 1 + i = 0 then _ else if 1 + i < 50 then fC (1 + i - 1) else _)) _ _ _ ∧ va_T _ (if 1 + i = 0 then _ else if 1 + i < 50 then fC (1 + i - 1) else _) _ _ _ _ _
    rw [if_neg (by omega), if_pos (by omega), show 1 + i - 1 = i by omega]
    exact h
  · intro i q hq
    have hi : i < 43 := (List.getElem?_eq_some_iff.mp hq).1
    have e : strT.getD i ("", 0, "") = q := by rw [List.getD_eq_getElem?_getD, hq]; rfl
    have h := (hS i hi).1
    have h2 := hts _ (m_sr i hi)
    unfold tmS at h
    rw [e] at h h2
    show vk_R _ _ _ (if 100 + i = 0 then _ else if 100 + i < 50 then _ else if 100 + i = 50 then _ else if 100 + i < 10000 then (fS (100 + i - 100)).1 else _) _
    rw [if_neg (by omega), if_neg (by omega), if_neg (by omega), if_pos (by omega), show 100 + i - 100 = i by omega]
    exact vk_R.of h2 h
  · have g1 : ∀ i, i < 43 → (if 100 + i = 0 then b else if 100 + i < 50 then fC (100 + i - 1) else if 100 + i = 50 then fm else if 100 + i < 10000 then (fS (100 + i - 100)).1 else (fS (100 + i - 10000)).2) = (fS i).1 := by
      intro i hi
      rw [if_neg (by omega), if_neg (by omega), if_neg (by omega), if_pos (by omega), show 100 + i - 100 = i by omega]
    have g2 : ∀ i, i < 43 → (if 10000 + i = 0 then b else if 10000 + i < 50 then fC (10000 + i - 1) else if 10000 + i = 50 then fm else if 10000 + i < 10000 then (fS (10000 + i - 100)).1 else (fS (10000 + i - 10000)).2) = (fS i).2 := by
      intro i hi
      rw [if_neg (by omega), if_neg (by omega), if_neg (by omega), if_neg (by omega), show 10000 + i - 10000 = i by omega]
    refine ⟨fun i hi => ?_, fun i j hi hj h => ?_⟩
    · show va_O _ (if 100 + i = 0 then b else _) _ _ _ ∧ va_OF _ _ _ _ (if 100 + i = 0 then b else _) _ _ _ ∧ va_OF _ _ _ (.ref (if 10000 + i = 0 then b else _)) (if 100 + i = 0 then b else _) _ _ _ ∧ va_T _ (if 10000 + i = 0 then b else _) _ _ _ _ _
      rw [g1 i hi, g2 i hi]
      exact (hS i hi).2
    · have h : (if 100 + i = 0 then b else if 100 + i < 50 then fC (100 + i - 1) else if 100 + i = 50 then fm else if 100 + i < 10000 then (fS (100 + i - 100)).1 else (fS (100 + i - 10000)).2) = (if 100 + j = 0 then b else if 100 + j < 50 then fC (100 + j - 1) else if 100 + j = 50 then fm else if 100 + j < 10000 then (fS (100 + j - 100)).1 else (fS (100 + j - 10000)).2) := h
      rw [g1 i hi, g1 j hj] at h
      have q := hS i hi
      rw [h] at q
      exact SA_inj hi hj q (hS j hj)
  · exact fun i q hq => va_Nw.of rfl (hts _ (n_ne q (List.mem_of_getElem? hq)))
  · exact fun E hE F hF' hne => va_Nc.of (hs _ (n_ex E hE F hF' hne))
  · intro w hw
    obtain ⟨h1, h2⟩ := List.mem_filter.mp hw
    exact va_Nw.of (by simp -implicitDefEqProofs only [Bool.and_eq_true] at h2; exact h2.2) (hts w h1)
end Pre
