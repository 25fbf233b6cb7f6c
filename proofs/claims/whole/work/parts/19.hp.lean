/-! THE HEAP AS FUNCTIONS: what lies where (D), ints (A: address, place), longs (L), texts (T) -/
section HeapFun
abbrev dsc : Type := (Nat × Nat) ⊕ (Nat × List (Option Value))
abbrev fA : Type := Nat → Nat → Int32
abbrev fL : Type := Nat → Nat → Int64
abbrev fT : Type := Nat → Nat → Option Nat
def fldV (A : fA) (a k : Nat) (o : Option Value) : Value := match o with | none => .int (A a k) | some v => v
def mkC (A : fA) (L : fL) (T : fT) (a : Nat) (d : dsc) : pC := match d with
  | .inl (t, n) => (match t with
    | 3 => .inl (3, n, .inr (.inl (L a)))
    | 4 => .inl (4, n, .inr (.inr (.inr (.inr (T a)))))
    | t => .inl (t, n, .inl (A a)))
  | .inr (c, ks) => .inr (c, ks.mapIdx (fldV A a))
def HP (D : List dsc) (A : fA) (L : fL) (T : fT) : pH := D.mapIdx (mkC A L T)
def up (A : fA) (a i : Nat) (x : Int32) : fA := fun b j => if b = a ∧ j = i then x else A b j
def upR (A : fA) (a : Nat) (f : Nat → Int32) : fA := fun b => if b = a then f else A b
def upL (L : fL) (a i : Nat) (x : Int64) : fL := fun b j => if b = a ∧ j = i then x else L b j
def upLR (L : fL) (a : Nat) (f : Nat → Int64) : fL := fun b => if b = a then f else L b
def upT (T : fT) (a i : Nat) (x : Option Nat) : fT := fun b j => if b = a ∧ j = i then x else T b j
def upTR (T : fT) (a : Nat) (f : Nat → Option Nat) : fT := fun b => if b = a then f else T b
variable {D : List dsc} {A : fA} {L : fL} {T : fT}
theorem HP_at (a : Nat) : (HP D A L T)[a]? = (D[a]?).map (mkC A L T a) := by simp [HP]
theorem HP_len : (HP D A L T).length = D.length := by simp [HP]
theorem up_ne {a b i : Nat} {x : Int32} (h : b ≠ a) : up A a i x b = A b := by funext j; simp [up, h]
theorem up_eq {a i : Nat} {x : Int32} : up A a i x a = upd (A a) i x := by funext j; simp [up, upd]
theorem upL_ne {a b i : Nat} {x : Int64} (h : b ≠ a) : upL L a i x b = L b := by funext j; simp [upL, h]
theorem upL_eq {a i : Nat} {x : Int64} : upL L a i x a = vp_updL (L a) i x := by funext j; simp [upL, vp_updL]
theorem upT_ne {a b i : Nat} {x : Option Nat} (h : b ≠ a) : upT T a i x b = T b := by funext j; simp [upT, h]
theorem upT_eq {a i : Nat} {x : Option Nat} : upT T a i x a = va_up (T a) i x := by funext j; simp [upT, va_up]
theorem mkC_A {A A' : fA} {a : Nat} {d : dsc} (h : A' a = A a) : mkC A' L T a d = mkC A L T a d := by
  rcases d with ⟨t, n⟩ | ⟨c, ks⟩
  · simp only [mkC]; split <;> simp [h]
  · simp only [mkC]; congr 3; funext k o; cases o <;> simp [fldV, h]
theorem mkC_L {L' : fL} {a : Nat} {d : dsc} (h : L' a = L a) : mkC A L' T a d = mkC A L T a d := by
  rcases d with ⟨t, n⟩ | ⟨c, ks⟩
  · simp only [mkC]; split <;> simp [h]
  · rfl
theorem mkC_T {T' : fT} {a : Nat} {d : dsc} (h : T' a = T a) : mkC A L T' a d = mkC A L T a d := by
  rcases d with ⟨t, n⟩ | ⟨c, ks⟩
  · simp only [mkC]; split <;> simp [h]
  · rfl
/-- a cell is written: the heap is again of this kind -/
theorem HP_set {a : Nat} {c : pC} {d d' : dsc} {A' : fA} {L' : fL} {T' : fT} (ha : D[a]? = some d) (hc : c = mkC A' L' T' a d') (hA : ∀ b, b ≠ a → A' b = A b) (hL : ∀ b, b ≠ a → L' b = L b) (hT : ∀ b, b ≠ a → T' b = T b) : (HP D A L T).set a c = HP (D.set a d') A' L' T' := by
  have hl := (List.getElem?_eq_some_iff.mp ha).1
  apply List.ext_getElem?
  intro b
  rw [List.getElem?_set, HP_at, HP_at, List.getElem?_set, HP_len]
  by_cases hb : a = b
  · subst hb; simp [hl, hc]
  · simp only [hb, if_false]
    cases hd : D[b]? with
    | none => rfl
    | some e =>
      simp only [Option.map_some]
      rw [mkC_A (A := A) (hA b (fun q => hb q.symm)), mkC_L (L := L) (hL b (fun q => hb q.symm)), mkC_T (T := T) (hT b (fun q => hb q.symm))]
theorem set_same {a : Nat} {d : dsc} (ha : D[a]? = some d) : D.set a d = D := by
  apply List.ext_getElem?
  intro b
  rw [List.getElem?_set]
  by_cases hb : a = b
  · subst hb
    rw [if_pos rfl, if_pos (List.getElem?_eq_some_iff.mp ha).1, ha]
  · simp [hb]
theorem HP_put {a k ci : Nat} {ks : List (Option Value)} {x : Int32} (ha : D[a]? = some (.inr (ci, ks))) (hk : ks[k]? = some none) : (HP D A L T).set a (.inr (ci, (ks.mapIdx (fldV A a)).set k (.int x))) = HP D (up A a k x) L T := by
  rw [HP_set (d' := .inr (ci, ks)) (A' := up A a k x) (L' := L) (T' := T) ha ?_ (fun b hb => up_ne hb) (fun _ _ => rfl) (fun _ _ => rfl), set_same ha]
  simp only [mkC]
  congr 2
  apply List.ext_getElem?
  intro j
  rw [List.getElem?_set, List.getElem?_mapIdx, List.getElem?_mapIdx, List.length_mapIdx]
  by_cases hj : k = j
  · subst hj
    rw [if_pos rfl, if_pos (List.getElem?_eq_some_iff.mp hk).1, hk]
    simp [fldV, up]
  · simp only [hj, if_false]
    cases ks[j]? with
    | none => rfl
    | some o => cases o <;> simp [fldV, up]; intro q; exact absurd q.symm hj
theorem gI_H {a k ci : Nat} {ks : List (Option Value)} {κ : Int32 → rO} (ha : D[a]? = some (.inr (ci, ks))) (hk : ks[k]? = some none) : gI (HP D A L T) (.ref a) ci k κ = κ (A a k) := by
  simp [gI, HP_at, ha, mkC, hk, fldV]
theorem gV_H {a k ci : Nat} {ks : List (Option Value)} {v : Value} {κ : Value → rO} (ha : D[a]? = some (.inr (ci, ks))) (hk : ks[k]? = some (some v)) (hv : isRv v = true) : gV (HP D A L T) (.ref a) ci k κ = κ v := by
  simp [gV, HP_at, ha, mkC, hk, fldV, hv]
theorem pF_H {a k ci : Nat} {ks : List (Option Value)} {x : Int32} {κ : pH → rO} (ha : D[a]? = some (.inr (ci, ks))) (hk : ks[k]? = some none) : pF (HP D A L T) (.ref a) ci k (.int x) κ = κ (HP D (up A a k x) L T) := by
  have hl := (List.getElem?_eq_some_iff.mp hk).1
  simp only [pF, HP_at, ha, Option.map_some, mkC, List.length_mapIdx, hl, and_self, if_true]
  rw [HP_put ha hk]
theorem rC_H {a ci : Nat} {ks : List (Option Value)} {κ : rO} (ha : D[a]? = some (.inr (ci, ks))) : rC (HP D A L T) (.ref a) ci κ = κ := by
  simp [rC, HP_at, ha, mkC]
theorem inI_H {t n : Nat} (ht : t < 3) (a : Nat) : mkC A L T a (.inl (t, n)) = .inl (t, n, .inl (A a)) := by
  match t, ht with
  | 0, _ => rfl
  | 1, _ => rfl
  | 2, _ => rfl
theorem aI_H {a t n : Nat} {i : Int32} {κ : Int32 → rO} (ha : D[a]? = some (.inl (t, n))) (ht : t < 3) (h0 : ¬ i < 0) (h1 : i.toNatClampNeg < n) : aI (HP D A L T) (.ref a) t i κ = κ (A a i.toNatClampNeg) := by
  have h2 : ¬ (i < 0 ∨ n ≤ i.toNatClampNeg) := fun q => q.elim h0 (fun q => absurd h1 (Nat.not_lt.mpr q))
  simp only [aI, HP_at, ha, Option.map_some, inI_H ht, h2, not_false_eq_true, and_self, if_true]
theorem sI_H {a t n : Nat} {i x : Int32} {κ : pH → rO} (ha : D[a]? = some (.inl (t, n))) (ht : t < 3) (h0 : ¬ i < 0) (h1 : i.toNatClampNeg < n) : sI (HP D A L T) (.ref a) t i x κ = κ (HP D (up A a i.toNatClampNeg x) L T) := by
  have h2 : ¬ (i < 0 ∨ n ≤ i.toNatClampNeg) := fun q => q.elim h0 (fun q => absurd h1 (Nat.not_lt.mpr q))
  simp only [sI, HP_at, ha, Option.map_some, inI_H ht, h2, not_false_eq_true, and_self, if_true]
  rw [HP_set (d' := .inl (t, n)) (A' := up A a i.toNatClampNeg x) (L' := L) (T' := T) ha (by rw [inI_H ht, up_eq]) (fun b hb => up_ne hb) (fun _ _ => rfl) (fun _ _ => rfl), set_same ha]
theorem aJ_H {a n : Nat} {i : Int32} {κ : Int64 → rO} (ha : D[a]? = some (.inl (3, n))) (h0 : ¬ i < 0) (h1 : i.toNatClampNeg < n) : aJ (HP D A L T) (.ref a) i κ = κ (L a i.toNatClampNeg) := by
  have h2 : ¬ (i < 0 ∨ n ≤ i.toNatClampNeg) := fun q => q.elim h0 (fun q => absurd h1 (Nat.not_lt.mpr q))
  simp only [aJ, HP_at, ha, Option.map_some, mkC, h2, not_false_eq_true, and_self, if_true]
theorem sJ_H {a n : Nat} {i : Int32} {x : Int64} {κ : pH → rO} (ha : D[a]? = some (.inl (3, n))) (h0 : ¬ i < 0) (h1 : i.toNatClampNeg < n) : sJ (HP D A L T) (.ref a) i x κ = κ (HP D A (upL L a i.toNatClampNeg x) T) := by
  have h2 : ¬ (i < 0 ∨ n ≤ i.toNatClampNeg) := fun q => q.elim h0 (fun q => absurd h1 (Nat.not_lt.mpr q))
  simp only [sJ, HP_at, ha, Option.map_some, mkC, h2, not_false_eq_true, and_self, if_true]
  rw [HP_set (d' := .inl (3, n)) (A' := A) (L' := upL L a i.toNatClampNeg x) (T' := T) ha (by simp only [mkC]; rw [upL_eq]) (fun _ _ => rfl) (fun b hb => upL_ne hb) (fun _ _ => rfl), set_same ha]
theorem aT_H {a n : Nat} {i : Int32} {κ : Value → rO} (ha : D[a]? = some (.inl (4, n))) (h0 : ¬ i < 0) (h1 : i.toNatClampNeg < n) : aT (HP D A L T) (.ref a) i κ = κ (va_rf (T a i.toNatClampNeg)) := by
  have h2 : ¬ (i < 0 ∨ n ≤ i.toNatClampNeg) := fun q => q.elim h0 (fun q => absurd h1 (Nat.not_lt.mpr q))
  simp only [aT, HP_at, ha, Option.map_some, mkC, h2, not_false_eq_true, and_self, if_true]
theorem sTx_H {a n k : Nat} {i : Int32} {ks : List (Option Value)} {κ : pH → rO} (ha : D[a]? = some (.inl (4, n))) (hk : D[k]? = some (.inr (11, ks))) (h0 : ¬ i < 0) (h1 : i.toNatClampNeg < n) : sTx (HP D A L T) (.ref a) i (.ref k) κ = κ (HP D A L (upT T a i.toNatClampNeg (some k))) := by
  have h2 : ¬ (i < 0 ∨ n ≤ i.toNatClampNeg) := fun q => q.elim h0 (fun q => absurd h1 (Nat.not_lt.mpr q))
  simp only [sTx, HP_at, ha, hk, Option.map_some, mkC, h2, not_false_eq_true, and_self, if_true]
  rw [HP_set (d' := .inl (4, n)) (A' := A) (L' := L) (T' := upT T a i.toNatClampNeg (some k)) ha (by simp only [mkC]; rw [upT_eq]) (fun _ _ => rfl) (fun _ _ => rfl) (fun b hb => upT_ne hb), set_same ha]
theorem sTx_N {a n : Nat} {i : Int32} {κ : pH → rO} (ha : D[a]? = some (.inl (4, n))) (h0 : ¬ i < 0) (h1 : i.toNatClampNeg < n) : sTx (HP D A L T) (.ref a) i .null κ = κ (HP D A L (upT T a i.toNatClampNeg none)) := by
  have h2 : ¬ (i < 0 ∨ n ≤ i.toNatClampNeg) := fun q => q.elim h0 (fun q => absurd h1 (Nat.not_lt.mpr q))
  simp only [sTx, HP_at, ha, Option.map_some, mkC, h2, not_false_eq_true, and_self, if_true]
  rw [HP_set (d' := .inl (4, n)) (A' := A) (L' := L) (T' := upT T a i.toNatClampNeg none) ha (by simp only [mkC]; rw [upT_eq]) (fun _ _ => rfl) (fun _ _ => rfl) (fun b hb => upT_ne hb), set_same ha]
theorem aLen_H {a t n : Nat} {κ : Int32 → rO} (ha : D[a]? = some (.inl (t, n))) (ht : t < 5) : aLen (HP D A L T) (.ref a) κ = κ (nI n) := by
  match t, ht, ha with
  | 0, _, ha => simp [aLen, HP_at, ha, mkC]
  | 1, _, ha => simp [aLen, HP_at, ha, mkC]
  | 2, _, ha => simp [aLen, HP_at, ha, mkC]
  | 3, _, ha => simp [aLen, HP_at, ha, mkC]
  | 4, _, ha => simp [aLen, HP_at, ha, mkC]
theorem cpI_H {a b n0 n1 : Nat} {sp dp n : Int32} {κ : pH → rO} (ha : D[a]? = some (.inl (0, n0))) (hb : D[b]? = some (.inl (0, n1))) (h1 : ¬ sp < 0) (h2 : ¬ dp < 0) (h3 : ¬ n < 0) (h4 : sp.toNatClampNeg + n.toNatClampNeg ≤ n0) (h5 : dp.toNatClampNeg + n.toNatClampNeg ≤ n1) : cpI (HP D A L T) (.ref a) sp (.ref b) dp n κ = κ (HP D (upR A b (va_cpy (A a) (A b) sp.toNatClampNeg dp.toNatClampNeg n.toNatClampNeg)) L T) := by
  simp only [cpI, HP_at, ha, hb, Option.map_some, mkC, h1, h2, h3, h4, h5, not_false_eq_true, and_self, if_true]
  rw [HP_set (d' := .inl (0, n1)) (A' := upR A b (va_cpy (A a) (A b) sp.toNatClampNeg dp.toNatClampNeg n.toNatClampNeg)) (L' := L) (T' := T) hb (by simp [mkC, upR]) (fun c hc => by simp [upR, hc]) (fun _ _ => rfl) (fun _ _ => rfl), set_same hb]
theorem HP_push {d : dsc} {c : pC} {A' : fA} {L' : fL} {T' : fT} (hc : c = mkC A' L' T' D.length d) (hA : ∀ b, b ≠ D.length → A' b = A b) (hL : ∀ b, b ≠ D.length → L' b = L b) (hT : ∀ b, b ≠ D.length → T' b = T b) : HP D A L T ++ [c] = HP (D ++ [d]) A' L' T' := by
  apply List.ext_getElem?
  intro b
  rw [HP_at]
  by_cases hb : b < D.length
  · rw [List.getElem?_append_left (by rw [HP_len]; exact hb), List.getElem?_append_left hb, HP_at]
    cases hd : D[b]? with
    | none => rfl
    | some e =>
      simp only [Option.map_some]
      rw [mkC_A (A := A) (hA b (by omega)), mkC_L (L := L) (hL b (by omega)), mkC_T (T := T) (hT b (by omega))]
  · rw [List.getElem?_append_right (by rw [HP_len]; omega), List.getElem?_append_right (by omega), HP_len]
    by_cases h9 : b = D.length
    · subst h9; simp [hc]
    · have : b - D.length ≠ 0 := by omega
      simp [this]
theorem mkI_H {t : Nat} {n : Int32} {κ : pH → rO} (ht : t < 3) (h0 : ¬ n < 0) (h1 : n.toNatClampNeg ≤ 100000) : mkI (HP D A L T) t n κ = κ (HP (D ++ [.inl (t, n.toNatClampNeg)]) (upR A D.length (fun _ => 0)) L T) := by
  have h2 : ¬ (n < 0 ∨ 100000 < n.toNatClampNeg) := fun q => q.elim h0 (fun q => absurd h1 (Nat.not_le.mpr q))
  simp only [mkI, h2, if_false]
  rw [HP_push (d := .inl (t, n.toNatClampNeg)) (A' := upR A D.length (fun _ => 0)) (L' := L) (T' := T) (by rw [inI_H ht]; simp [upR]) (fun b hb => by simp [upR, hb]) (fun _ _ => rfl) (fun _ _ => rfl)]
theorem mkJ_H {n : Int32} {κ : pH → rO} (h0 : ¬ n < 0) (h1 : n.toNatClampNeg ≤ 100000) : mkJ (HP D A L T) n κ = κ (HP (D ++ [.inl (3, n.toNatClampNeg)]) A (upLR L D.length (fun _ => 0)) T) := by
  have h2 : ¬ (n < 0 ∨ 100000 < n.toNatClampNeg) := fun q => q.elim h0 (fun q => absurd h1 (Nat.not_le.mpr q))
  simp only [mkJ, h2, if_false]
  rw [HP_push (d := .inl (3, n.toNatClampNeg)) (A' := A) (L' := upLR L D.length (fun _ => 0)) (T' := T) (by simp [mkC, upLR]) (fun _ _ => rfl) (fun b hb => by simp [upLR, hb]) (fun _ _ => rfl)]
theorem mkT_H {n : Int32} {κ : pH → rO} (h0 : ¬ n < 0) (h1 : n.toNatClampNeg ≤ 100000) : mkT (HP D A L T) n κ = κ (HP (D ++ [.inl (4, n.toNatClampNeg)]) A L (upTR T D.length (fun _ => none))) := by
  have h2 : ¬ (n < 0 ∨ 100000 < n.toNatClampNeg) := fun q => q.elim h0 (fun q => absurd h1 (Nat.not_le.mpr q))
  simp only [mkT, h2, if_false]
  rw [HP_push (d := .inl (4, n.toNatClampNeg)) (A' := A) (L' := L) (T' := upTR T D.length (fun _ => none)) (by simp [mkC, upTR]) (fun _ _ => rfl) (fun _ _ => rfl) (fun b hb => by simp [upTR, hb])]
end HeapFun
