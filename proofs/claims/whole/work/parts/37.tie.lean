/-! the whole tie; what is to be shown of each call -/
section Tie
/-- the kept estate lies at K -/
def DK (K : Nat) (D : List dsc) : Prop := ∀ i, i < 34 → D[K + i]? = (match i with
  | 0 => some (.inr (3, [some (.ref (K + 1)), some (.ref (K + 5)), some (.ref (K + 7)), some (.ref (K + 12)), some (.ref (K + 18)), some (.ref (K + 23)), some (.ref (K + 29)), none, some (.ref (K + 32)), some (.ref (K + 33))]))
  | 1 => some (.inr (12, [none, some (.ref (K + 2)), some (.ref (K + 3)), some (.ref (K + 4))]))
  | 2 => some (.inl (4, 12)) | 3 => some (.inl (0, 12)) | 4 => some (.inl (0, 12))
  | 5 => some (.inr (5, [some (.ref (K + 6))])) | 6 => some (.inl (0, 672))
  | 7 => some (.inr (4, [none, some (.ref (K + 8)), some (.ref (K + 9)), some (.ref (K + 10))]))
  | 8 => some (.inl (0, 312)) | 9 => some (.inl (4, 24)) | 10 => some (.inr (11, [none, some (.ref (K + 11))])) | 11 => some (.inl (0, 0))
  | 12 => some (.inr (7, [none, some (.ref (K + 13)), some (.ref (K + 14)), some (.ref (K + 15)), some (.ref (K + 16)), some (.ref (K + 17))]))
  | 13 => some (.inl (0, 101)) | 14 => some (.inl (0, 200)) | 15 => some (.inl (0, 200)) | 16 => some (.inl (0, 200)) | 17 => some (.inl (0, 200))
  | 18 => some (.inr (6, [none, none, none, none, none, none, none, some (.ref (K + 19)), none, some (.ref (K + 20)), some (.ref (K + 21)), some (.ref (K + 22))]))
  | 19 => some (.inl (0, 240)) | 20 => some (.inl (0, 12)) | 21 => some (.inl (0, 12)) | 22 => some (.inl (0, 12))
  | 23 => some (.inr (8, [none, none, some (.ref (K + 24)), some (.ref (K + 25)), some (.ref (K + 26)), some (.ref (K + 27)), some (.ref (K + 28))]))
  | 24 => some (.inl (0, 6)) | 25 => some (.inl (0, 6)) | 26 => some (.inl (0, 6)) | 27 => some (.inl (0, 4)) | 28 => some (.inl (0, 4))
  | 29 => some (.inr (10, [none, some (.ref (K + 30)), some (.ref (K + 31))])) | 30 => some (.inl (0, 192)) | 31 => some (.inl (0, 192))
  | 32 => some (.inl (0, 6)) | 33 => some (.inl (3, 51)) | _ => none)
def KP (c : Nat) (k : Value) (E : List dsc) (A : fA) (T : fT) : Prop := k = .null ∧ A 39 3 = 0 ∨ ∃ K, k = .ref K ∧ A 39 3 = 1 ∧ 49 ≤ K ∧ DK K (D0 k ++ E) ∧ LkA K k E A T (A 41) ∧ Iv c (A 41)
/-- how many cells the later things have -/
def esz (E : List dsc) : Nat := (E.map (fun e => match e with | .inl (_, n) => n | .inr (_, ks) => ks.length)).sum
def Rel (c : Nat) (k : Value) (E : List dsc) (A : fA) (T : fT) : Prop :=
  Iv c (A 40) ∧ LkA 4 k E A T (A 40) ∧ (∃ n, n ≤ 400 ∧ A 1 1 = nI n ∧ A 39 5 = nI n) ∧ (∀ i, i < 400 → A 2 i = A 42 i) ∧ A 1 2 = A 39 10 ∧ (A 36 0 = 0 ∧ A 36 5 = 0) ∧ KP c k E A T ∧ E.length ≤ 34 * c ∧ esz E ≤ 4000 * c
/-- what a call answers: nothing, or a number -/
def okI (mc : Nat) (v : Option Value) : Bool := match v with
  | none => (Nat.beq mc 35 || Nat.beq mc 373)
  | some (.int _) => !(Nat.beq mc 35 || Nat.beq mc 373)
  | _ => false
/-- class and reference answer a call alike, and are tied again behind it -/
def PI (c : Nat) (S : sT) (d : Nat) (k : Value) (E : List dsc) (A : fA) (T : fT) (mc mr : Nat) (av : List Value) (cd : Nat → Int32) : Prop :=
  ∃ k' E' A1 T' A2, Rel (c + 1) k' E' A2 T' ∧
    ((∃ v, okI mc v = true ∧ (∀ L, ∃ L1, ex S d mc (.ref 0 :: av) (Hh k E A L T) = some (.inl v, Hh k' E' A1 L1 T')) ∧ (∀ L, ∃ L2, ex S d mr (.ref 39 :: av) (Hh k' E' A1 L T') = some (.inl v, Hh k' E' A2 L2 T') ∧ L2 48 = L 48) ∧ A2 39 0 = 0)
    ∨ ∃ e, cd e ≠ 0 ∧ (∀ L, ∃ L1, ex S d mc (.ref 0 :: av) (Hh k E A L T) = some (.inr (xnm e), Hh k' E' A1 L1 T')) ∧ (∀ L, ∃ L2 v, okI mc v = true ∧ ex S d mr (.ref 39 :: av) (Hh k' E' A1 L T') = some (.inl v, Hh k' E' A2 L2 T') ∧ L2 48 = L 48) ∧ A2 39 0 = cd e)
theorem Iv_c {c c' : Nat} {W : fW} (h : c ≤ c') (hI : Iv c W) : Iv c' W := by
  obtain ⟨h0, h1, h2, h3, h4, ⟨a1, a2, a3, a4, a5, m, hm, e⟩, h6⟩ := hI
  exact ⟨h0, h1, h2, h3, h4, ⟨a1, a2, a3, a4, a5, m, by omega, e⟩, h6⟩
theorem KP_c {c c' : Nat} {k : Value} {E : List dsc} {A : fA} {T : fT} (h : c ≤ c') (hK : KP c k E A T) : KP c' k E A T := by
  rcases hK with hK | ⟨K, a1, a2, a3, a4, a5, a6⟩
  · exact Or.inl hK
  · exact Or.inr ⟨K, a1, a2, a3, a4, a5, Iv_c h a6⟩
/-- a text doesn't depend on other cells -/
theorem TR_A {k : Value} {E : List dsc} {A A' : fA} {a B : Nat} {W : fW} (h : TR k E A a W B) (ha : ∀ r, outK k r → A' r = A r) : TR k E A' a W B := by
  obtain ⟨b, nl, nc, o1, o2, h1, h2, h3, h4, h5, h6⟩ := h
  exact ⟨b, nl, nc, o1, o2, h1, h2, by rw [ha a o1]; exact h3, h4, by rw [ha b o2]; exact h5, by rw [ha b o2]; exact h6⟩
theorem LkH_A {k : Value} {E : List dsc} {A A' : fA} {H C : Nat → Int32} {Tl : Nat → Option Nat} {W : fW} (h : LkH k E A H C Tl W) (ha : ∀ r, outK k r → A' r = A r) : LkH k E A' H C Tl W := by
  obtain ⟨h1, h2, h3, h4⟩ := h
  exact ⟨h1, h2, h3, fun g hg hk => by obtain ⟨a, e, t⟩ := h4 g hg hk; exact ⟨a, e, TR_A t ha⟩⟩
theorem LkX_A {k : Value} {E : List dsc} {A A' : fA} {X sn od : Nat → Int32} {Tx : Nat → Option Nat} {W : fW} (h : LkX k E A X Tx sn od W) (ha : ∀ r, outK k r → A' r = A r) : LkX k E A' X Tx sn od W := by
  obtain ⟨h1, h2, h3, h4⟩ := h
  exact ⟨h1, h2, fun t ht => by obtain ⟨e0, a, e, t⟩ := h3 t ht; exact ⟨e0, a, e, TR_A t ha⟩, h4⟩
/-- an estate's tie when only other rows change -/
theorem LkA_A {o : Nat} {k : Value} {E : List dsc} {A A' : fA} {T : fT} {W : fW} (h : LkA o k E A T W) (hr : ∀ i, i < 32 → A' (o + i) = A (o + i)) (ha : ∀ r, outK k r → A' r = A r) : LkA o k E A' T W := by
  obtain ⟨h1, h2, h3, h4, h5, h6, h7, h8⟩ := h
  unfold LkA
  rw [show A' o = A o from hr 0 (by decide), hr 6 (by decide), hr 12 (by decide), hr 13 (by decide), hr 14 (by decide), hr 15 (by decide), hr 16 (by decide), hr 17 (by decide), hr 18 (by decide), hr 19 (by decide), hr 20 (by decide), hr 21 (by decide), hr 22 (by decide), hr 23 (by decide), hr 24 (by decide), hr 25 (by decide), hr 26 (by decide), hr 27 (by decide), hr 28 (by decide), hr 29 (by decide), hr 30 (by decide), hr 31 (by decide), hr 7 (by decide), hr 8 (by decide), hr 1 (by decide), hr 3 (by decide), hr 4 (by decide)]
  exact ⟨h1, h2, h3, h4, h5, h6, LkH_A h7 ha, LkX_A h8 ha⟩
variable {c : Nat} {k : Value} {E : List dsc} {A A' : fA} {T : fT}
theorem Rel_w (hR : Rel c k E A T) : Iv c (A 40) := hR.1
theorem Rel_l (hR : Rel c k E A T) : LkL (A 10) (A 40) := hR.2.1.2.1
theorem Rel_s (hR : Rel c k E A T) : A 4 7 = A 40 0 := hR.2.1.1
theorem Rel_m (hR : Rel c k E A T) : LkM (A 16) (A 17) (A 18) (A 19) (A 20) (A 21) (A 40) := hR.2.1.2.2.1
theorem Rel_g (hR : Rel c k E A T) : LkG (A 22) (A 23) (A 24) (A 25) (A 26) (A 40) := hR.2.1.2.2.2.1
theorem Rel_p (hR : Rel c k E A T) : LkP (A 27) (A 28) (A 29) (A 30) (A 31) (A 32) (A 40) := hR.2.1.2.2.2.2.1
theorem Rel_r (hR : Rel c k E A T) : LkR (A 33) (A 34) (A 35) (A 40) := hR.2.1.2.2.2.2.2.1
theorem Rel_h (hR : Rel c k E A T) : LkH k E A (A 11) (A 12) (T 13) (A 40) := hR.2.1.2.2.2.2.2.2.1
theorem Rel_x (hR : Rel c k E A T) : LkX k E A (A 5) (T 6) (A 7) (A 8) (A 40) := hR.2.1.2.2.2.2.2.2.2
theorem KP_A (hK : KP c k E A T) (h1 : A' 39 3 = A 39 3) (h2 : A' 41 = A 41) (h3 : ∀ r, 49 ≤ r → A' r = A r) : KP c k E A' T := by
  rcases hK with ⟨e, hK⟩ | ⟨K, a1, a2, a3, a4, a5, a6⟩
  · exact Or.inl ⟨e, by rw [h1]; exact hK⟩
  · refine Or.inr ⟨K, a1, by rw [h1]; exact a2, a3, a4, ?_, ?_⟩
    · rw [h2]; exact LkA_A a5 (fun i _ => h3 (K + i) (Nat.le_trans a3 (Nat.le_add_right K i))) (fun r hr => h3 r hr.1)
    · rw [h2]; exact a6
/-- only what the reference has for its own use has changed -/
theorem Rel_fr (hR : Rel c k E A T) (h1 : ∀ r, r < 39 → A' r = A r) (h2 : ∀ r, 49 ≤ r → A' r = A r) (h3 : A' 40 = A 40) (h4 : A' 41 = A 41) (h5 : A' 42 = A 42) (h6 : A' 39 3 = A 39 3) (h7 : A' 39 5 = A 39 5) (h8 : A' 39 10 = A 39 10) : Rel (c + 1) k E A' T := by
  obtain ⟨a1, a2, a3, a4, a5, a6, a7, a8, a9⟩ := hR
  refine ⟨?_, ?_, ?_, ?_, ?_, ?_, KP_A (KP_c (Nat.le_succ c) a7) h6 h4 h2, by omega, by omega⟩
  · rw [h3]; exact Iv_c (Nat.le_succ c) a1
  · rw [h3]; exact LkA_A a2 (fun i hi => h1 _ (by omega)) (fun r hr => h2 r hr.1)
  · rw [h1 1 (by decide), h7]; exact a3
  · rw [h1 2 (by decide), h5]; exact a4
  · rw [h1 1 (by decide), h8]; exact a5
  · rw [h1 36 (by decide)]; exact a6
theorem Rel_thr (hR : Rel c k E A T) (x : Int32) : Rel (c + 1) k E (up A 39 0 x) T := Rel_fr hR (fun r hr => up_ne (by omega)) (fun r hr => up_ne (by omega)) rfl rfl rfl rfl rfl rfl
/-- the world has changed, and the class with it -/
theorem Rel_new (hR : Rel c k E A T) (hI : Iv (c + 1) (A' 40)) (hL : LkA 4 k E A' T (A' 40)) (h1 : A' 1 = A 1) (h2 : A' 2 = A 2) (h2' : A' 42 = A 42) (h3 : A' 39 3 = A 39 3) (h4 : A' 39 5 = A 39 5) (h5 : A' 39 10 = A 39 10) (h6 : A' 36 0 = A 36 0 ∧ A' 36 5 = A 36 5) (h7 : A' 41 = A 41) (h8 : ∀ r, 49 ≤ r → A' r = A r) : Rel (c + 1) k E A' T := by
  obtain ⟨a1, a2, a3, a4, a5, a6, a7, a8, a9⟩ := hR
  refine ⟨hI, hL, ?_, ?_, ?_, ?_, KP_A (KP_c (Nat.le_succ c) a7) h3 h7 h8, by omega, by omega⟩
  · rw [h1, h4]; exact a3
  · rw [h2, h2']; exact a4
  · rw [h1, h5]; exact a5
  · rw [h6.1, h6.2]; exact a6
end Tie
