/-! THE TIE (laid by gen_rel.py): the class's cells against the reference's world W; what W keeps -/
section Rel
/-- counts -/
def pn (W : fW) : Nat := (W 882).toNatClampNeg
def hn (W : fW) : Nat := (W 1683).toNatClampNeg
def ln (W : fW) : Nat := (W 1948).toNatClampNeg
def jn (W : fW) : Nat := (W 2237).toNatClampNeg
def tn (W : fW) : Nat := (W 2256).toNatClampNeg
def rn (W : fW) : Nat := (W 2265).toNatClampNeg
def xn (W : fW) : Nat := (W 2650).toNatClampNeg
def tx (t : Nat) : Nat := 2651 + 898 * t
/-- how many fields are of a holding -/
def fo (W : fW) (h : Nat) : Nat := cntF (fun f => W (8 + 14 * f + 10) = nI h) 48
/-- a step of a condition as the class writes it -/
def tr (s n : Int32) : Int32 := if s = 100 then n else if s < 100 then -1 - s else 89 - s
def vb (s : Int32) : Int32 := if s < 10 then s + 24 else s + 7
def fs (s x : Int32) : Int32 := if s = 1 then x else if s = 2 then x else if s = 3 then x + 12 else if s = 14 then x + 12 else if s = 16 then x + 7 else 0
def sc (s x : Int32) : Int32 := if s = 2 then x else 0
/-- the kinds of what lies on the room of a condition; true: 0 or 1 -/
def ck1 (s n : Int32) (st : List Bool) : Option (List Bool) :=
  if s = 100 then (if n < 0 then none else if st.length < 20 then some (false :: st) else none)
  else if s < 0 then none else if s < 11 then (if st.length < 20 then some (false :: st) else none)
  else if s = 101 then (match st with | false :: false :: r => some (false :: r) | _ => none)
  else if s = 102 then (match st with | false :: false :: r => some (true :: r) | _ => none)
  else if s = 103 then (match st with | false :: false :: r => some (true :: r) | _ => none)
  else if s = 104 then (match st with | true :: r => some (true :: r) | _ => none)
  else if s = 105 then (match st with | true :: true :: r => some (true :: r) | _ => none)
  else if s = 106 then (match st with | true :: true :: r => some (true :: r) | _ => none)
  else none
/-- m steps from step i on -/
def ckN (c : Nat → Int32 × Int32) (i : Nat) : Nat → List Bool → Option (List Bool)
  | 0, st => some st
  | m + 1, st => (ck1 (c i).1 (c i).2 st).bind (ckN c (i + 1) m)
/-- the steps of the text at B -/
def cds (W : fW) (B : Nat) (i : Nat) : Int32 × Int32 := (W (B + 98 + 2 * i), W (B + 98 + 2 * i + 1))
/-- a line is right -/
def WTl (W : fW) (B nc n : Nat) : Prop :=
  (rg (W (B + 2 + 6 * n)) 0 6 ∨ rg (W (B + 2 + 6 * n)) 10 16) ∧ rg (W (B + 2 + 6 * n + 1)) 0 999999
  ∧ ((W (B + 2 + 6 * n) = 5 ∨ W (B + 2 + 6 * n) = 6 ∨ W (B + 2 + 6 * n) = 14) → rg (W (B + 2 + 6 * n + 1)) 0 100)
  ∧ ((W (B + 2 + 6 * n) = 1 ∨ W (B + 2 + 6 * n) = 2) → rg (W (B + 2 + 6 * n + 2)) 1 5)
  ∧ (W (B + 2 + 6 * n) = 2 → rg (W (B + 2 + 6 * n + 3)) 1 5)
  ∧ (W (B + 2 + 6 * n) = 3 → rg (W (B + 2 + 6 * n + 2)) 0 1)
  ∧ (W (B + 2 + 6 * n) = 14 → rg (W (B + 2 + 6 * n + 2)) 0 4)
  ∧ (W (B + 2 + 6 * n) = 16 → rg (W (B + 2 + 6 * n + 2)) 10 15)
  ∧ ∃ i j, W (B + 2 + 6 * n + 4) = nI i ∧ W (B + 2 + 6 * n + 5) = nI j ∧ i ≤ j ∧ j ≤ nc ∧ (i = j ∨ ckN (cds W B) i (j - i) [] = some [true])
def WT (W : fW) (B nl nc : Nat) : Prop := W (B + 1) = nI nl ∧ nl ≤ 16 ∧ nc ≤ 400 ∧ ∀ n, n < nl → WTl W B nc n
/-- an address that is neither one of the first nor of the kept estate -/
def outK (k : Value) (r : Nat) : Prop := 49 ≤ r ∧ ∀ K, k = .ref K → r < K ∨ K + 34 ≤ r
/-- the text at address a of the class is that at B of the world -/
def TR (k : Value) (E : List dsc) (A : fA) (a : Nat) (W : fW) (B : Nat) : Prop := ∃ b nl nc, outK k a ∧ outK k b ∧ (D0 k ++ E)[a]? = some (.inr (11, [none, some (.ref b)])) ∧ (D0 k ++ E)[b]? = some (.inl (0, 6 * nl + nc)) ∧ A a 0 = nI nl ∧ WT W B nl nc
  ∧ (∀ n, n < nl → A b (6 * n) = vb (W (B + 2 + 6 * n)) ∧ A b (6 * n + 1) = W (B + 2 + 6 * n + 1) ∧ A b (6 * n + 2) = fs (W (B + 2 + 6 * n)) (W (B + 2 + 6 * n + 2)) ∧ A b (6 * n + 3) = sc (W (B + 2 + 6 * n)) (W (B + 2 + 6 * n + 3)) ∧ A b (6 * n + 4) = W (B + 2 + 6 * n + 4) ∧ A b (6 * n + 5) = W (B + 2 + 6 * n + 5))
  ∧ (∀ i, i < nc → A b (6 * nl + i) = tr (W (B + 98 + 2 * i)) (W (B + 98 + 2 * i + 1)))
/-- a place of texts has one, or none -/
def TS (k : Value) (E : List dsc) (o : Option Nat) : Prop := o = none ∨ ∃ a b, o = some a ∧ (D0 k ++ E)[a]? = some (.inr (11, [none, some (.ref b)]))
/-- the ties, group by group -/
def LkL (C : Nat → Int32) (W : fW) : Prop := ∀ w f, w < 14 → f < 48 → C (w * 48 + f) = W (8 + 14 * f + w)
def LkM (M r c y n s : Nat → Int32) (W : fW) : Prop := M 0 = W 882 ∧ (∀ i, i < 101 → r i = if W (680 + 2 * i + 1) = 1 then W (680 + 2 * i) else 99) ∧ ∀ k, k < pn W → c k = W (883 + 4 * k) ∧ y k = W (883 + 4 * k + 1) ∧ n k = W (883 + 4 * k + 2) ∧ s k = W (883 + 4 * k + 3)
def LkG (G nt rt pt lf : Nat → Int32) (W : fW) : Prop := (G 0 = W 1 ∧ G 1 = W 2 ∧ G 2 = W 3 ∧ G 3 = W 4 ∧ G 4 = W 7 ∧ G 5 = W 5 ∧ G 6 = W 6 ∧ G 8 = W 1948) ∧ (∀ i, i < 240 → nt i = W (1997 + i)) ∧ ∀ l, l < 12 → lf l = W (1949 + 4 * l) ∧ rt l = W (1949 + 4 * l + 1) ∧ pt l = W (1949 + 4 * l + 2)
def LkP (P c b y f g : Nat → Int32) (W : fW) : Prop := P 0 = W 2237 ∧ P 1 = W 2256 ∧ (∀ k, k < 6 → c k = W (2238 + 3 * k) ∧ b k = W (2238 + 3 * k + 1) ∧ y k = W (2238 + 3 * k + 2)) ∧ ∀ t, t < 4 → f t = W (2257 + 2 * t) ∧ g t = W (2257 + 2 * t + 1)
def LkR (R s b : Nat → Int32) (W : fW) : Prop := R 0 = W 2265 ∧ (∀ i, i < 192 → s i = W (2266 + i)) ∧ ∀ i, i < 192 → b i = W (2458 + i)
def LkC (C : Nat → Int32) (W : fW) (h : Nat) : Prop := C (0 + h) = W (1684 + 11 * h + 0) ∧ C (24 + h) = nI (fo W h) ∧ C (48 + h) = W (1684 + 11 * h + 1) ∧ C (72 + h) = W (1684 + 11 * h + 2) ∧ C (96 + h) = W (1684 + 11 * h + 3) ∧ C (120 + h) = W (1684 + 11 * h + 4) ∧ C (144 + h) = (if fo W h = 0 then 1 else 0) ∧ C (168 + h) = W (1684 + 11 * h + 5) ∧ C (192 + h) = W (1684 + 11 * h + 6) ∧ C (216 + h) = W (1684 + 11 * h + 7) ∧ C (240 + h) = W (1684 + 11 * h + 8) ∧ ((W (1684 + 11 * h + 0) = 4 ∨ W (1684 + 11 * h + 0) = 5) → C (264 + h) = W (1684 + 11 * h + 9)) ∧ (W (1684 + 11 * h + 0) = 4 → C (288 + h) = W (1684 + 11 * h + 10))
def LkH (k : Value) (E : List dsc) (A : fA) (H C : Nat → Int32) (Tl : Nat → Option Nat) (W : fW) : Prop := H 0 = W 1683 ∧ (∀ h, h < hn W → LkC C W h) ∧ (∀ h, h < 24 → TS k E (Tl h)) ∧ ∀ h, h < hn W → (W (1684 + 11 * h + 0) = 0 ∨ W (1684 + 11 * h + 0) = 1) → ∃ a, Tl h = some a ∧ TR k E A a W (tx (12 + h))
/-- in which order the texts count: by their seasons, and as they came -/
def ins (W : fW) (t : Nat) : List Nat → List Nat
  | [] => [t]
  | u :: r => if W (tx t) < W (tx u) then t :: u :: r else u :: ins W t r
def srt (W : fW) : Nat → List Nat
  | 0 => []
  | n + 1 => ins W n (srt W n)
def LkX (k : Value) (E : List dsc) (A : fA) (X : Nat → Int32) (Tx : Nat → Option Nat) (sn od : Nat → Int32) (W : fW) : Prop := X 0 = W 2650 ∧ (∀ t, t < 12 → TS k E (Tx t)) ∧ (∀ t, t < xn W → sn t = W (tx t) ∧ ∃ a, Tx t = some a ∧ TR k E A a W (tx t)) ∧ ∀ i, i < xn W → ∃ t, (srt W (xn W))[i]? = some t ∧ od i = nI t
/-- an estate whose object lies at address o -/
def LkA (o : Nat) (k : Value) (E : List dsc) (A : fA) (T : fT) (W : fW) : Prop := A o 7 = W 0 ∧ LkL (A (o + 6)) W ∧ LkM (A (o + 12)) (A (o + 13)) (A (o + 14)) (A (o + 15)) (A (o + 16)) (A (o + 17)) W ∧ LkG (A (o + 18)) (A (o + 19)) (A (o + 20)) (A (o + 21)) (A (o + 22)) W ∧ LkP (A (o + 23)) (A (o + 24)) (A (o + 25)) (A (o + 26)) (A (o + 27)) (A (o + 28)) W ∧ LkR (A (o + 29)) (A (o + 30)) (A (o + 31)) W ∧ LkH k E A (A (o + 7)) (A (o + 8)) (T (o + 9)) W ∧ LkX k E A (A (o + 1)) (T (o + 2)) (A (o + 3)) (A (o + 4)) W
/-- what the world keeps by itself -/
def IvF (W : fW) (f : Nat) : Prop := rg (W (8 + 14 * f + 0)) 0 9 ∧ rg (W (8 + 14 * f + 1)) 0 9 ∧ rg (W (8 + 14 * f + 2)) 0 20 ∧ rg (W (8 + 14 * f + 3)) 0 5 ∧ rg (W (8 + 14 * f + 4)) 0 20 ∧ rg (W (8 + 14 * f + 5)) 0 6 ∧ rg (W (8 + 14 * f + 6)) 0 99 ∧ rg (W (8 + 14 * f + 7)) (-2147483648) 2147483647 ∧ rg (W (8 + 14 * f + 8)) 0 9 ∧ (W (8 + 14 * f + 10) = -1 ∧ W (8 + 14 * f + 3) = 0 ∨ ∃ h, h < hn W ∧ W (8 + 14 * f + 10) = nI h ∧ ((W (1684 + 11 * h + 0) = 4 ∨ W (1684 + 11 * h + 0) = 5) → W (8 + 14 * f + 3) = 0)) ∧ (W (8 + 14 * f + 11) = 0 ∨ W (8 + 14 * f + 11) = 1 ∧ W (8 + 14 * f + 10) = -1) ∧ rg (W (8 + 14 * f + 12)) 0 24 ∧ rg (W (8 + 14 * f + 13)) 0 5
def IvH (W : fW) (h : Nat) : Prop := rg (W (1684 + 11 * h + 0)) 0 5 ∧ rg (W (1684 + 11 * h + 1)) 0 2000000000 ∧ rg (W (1684 + 11 * h + 2)) 0 2000000000 ∧ rg (W (1684 + 11 * h + 3)) 0 2000000000 ∧ rg (W (1684 + 11 * h + 5)) (-2000000000) 2000000000 ∧ rg (W (1684 + 11 * h + 6)) 0 2000000000 ∧ (W (1684 + 11 * h + 8) = 0 ∨ W (1684 + 11 * h + 8) = 1) ∧ (W (1684 + 11 * h + 0) = 1 → fo W h = 0 → W (1684 + 11 * h + 8) = 1) ∧ ((W (1684 + 11 * h + 0) = 4 ∨ W (1684 + 11 * h + 0) = 5) → rg (W (1684 + 11 * h + 9)) 0 2000) ∧ (W (1684 + 11 * h + 0) = 4 → rg (W (1684 + 11 * h + 10)) 0 100) ∧ ((W (1684 + 11 * h + 0) = 0 ∨ W (1684 + 11 * h + 0) = 1) → ∃ nl nc, WT W (tx (12 + h)) nl nc)
def IvRn (W : fW) : Prop := ∀ y, y < 101 → W (680 + 2 * y + 1) = 1 ∧ rg (W (680 + 2 * y)) (-5) 5 ∨ W (680 + 2 * y + 1) = 0 ∧ W (680 + 2 * y) = 0
def IvPr (W : fW) : Prop := W 882 = nI (pn W) ∧ pn W ≤ 200 ∧ ∀ k, k < pn W → rg (W (883 + 4 * k)) 1 4 ∧ rg (W (883 + 4 * k + 2)) 0 100 ∧ ¬ W 0 < W (883 + 4 * k + 3)
def IvHs (W : fW) : Prop := W 1683 = nI (hn W) ∧ hn W ≤ 24 ∧ ∀ h, h < hn W → IvH W h
def IvGs (c : Nat) (W : fW) : Prop := rg (W 1) (-2000000000) 2000000000 ∧ rg (W 2) (-2000000000) 2000000000 ∧ rg (W 3) (-2000000000) 2000000000 ∧ rg (W 4) (-2000000000) 2000000000 ∧ rg (W 7) (-2000000000) 2000000000 ∧ ∃ m, m ≤ c ∧ W 6 = nI m
def IvLn (W : fW) : Prop := W 1948 = nI (ln W) ∧ ln W ≤ 12 ∧ ∀ l, l < 12 → rg (W (1949 + 4 * l)) 0 100000 ∧ rg (W (1949 + 4 * l + 1)) 0 2000 ∧ rg (W (1949 + 4 * l + 2)) 0 100000
def IvJb (W : fW) : Prop := W 2237 = nI (jn W) ∧ jn W ≤ 6 ∧ ∀ k, k < 6 → rg (W (2238 + 3 * k)) 0 100000 ∧ rg (W (2238 + 3 * k + 1)) 0 10000
def IvTb (W : fW) : Prop := W 2256 = nI (tn W) ∧ tn W ≤ 4 ∧ ∀ t, t < 4 → rg (W (2257 + 2 * t)) (-100000) 100000 ∧ rg (W (2257 + 2 * t + 1)) (-1000) 1000
def IvRw (W : fW) : Prop := W 2265 = nI (rn W) ∧ rn W ≤ 4
def IvXs (W : fW) : Prop := W 2650 = nI (xn W) ∧ xn W ≤ 12 ∧ ∀ t, t < xn W → rg (W (tx t)) 0 400 ∧ ∃ nl nc, WT W (tx t) nl nc ∧ ∀ n, n < nl → rg (W (tx t + 2 + 6 * n)) 10 16
def Iv (c : Nat) (W : fW) : Prop := rg (W 0) 0 400 ∧ (∀ f, f < 48 → IvF W f) ∧ IvRn W ∧ IvPr W ∧ IvHs W ∧ IvGs c W ∧ IvLn W ∧ IvJb W ∧ IvTb W ∧ IvRw W ∧ IvXs W
variable {S : sT} {d : Nat} {k : Value} {E : List dsc} {A : fA} {L : fL} {T : fT} {W : fW}
theorem gL_0 {f : Nat} (hL : LkL (A 10) W) (hf : f < 48) : ex S (d + 2) 23 [.ref 9, .int 0, .int (nI f)] (Hh k E A L T) = some (.inl (some (.int (W (8 + 14 * f + 0)))), Hh k E A L T) := by rw [lg_0 hf, show A 10 (0 + f) = _ from hL 0 f (by decide) hf]
theorem vL_0 {C : Nat → Int32} {f : Nat} {x : Int32} (hL : LkL C W) (hf : f < 48) : LkL (upd C (0 + f) x) (upd W (8 + 14 * f + 0) x) := by intro w g hw hg; simp only [upd]; have := hL w g hw hg; split <;> split <;> first | rfl | omega | exact this
theorem gL_1 {f : Nat} (hL : LkL (A 10) W) (hf : f < 48) : ex S (d + 2) 23 [.ref 9, .int 1, .int (nI f)] (Hh k E A L T) = some (.inl (some (.int (W (8 + 14 * f + 1)))), Hh k E A L T) := by rw [lg_1 hf, show A 10 (48 + f) = _ from hL 1 f (by decide) hf]
theorem vL_1 {C : Nat → Int32} {f : Nat} {x : Int32} (hL : LkL C W) (hf : f < 48) : LkL (upd C (48 + f) x) (upd W (8 + 14 * f + 1) x) := by intro w g hw hg; simp only [upd]; have := hL w g hw hg; split <;> split <;> first | rfl | omega | exact this
theorem gL_2 {f : Nat} (hL : LkL (A 10) W) (hf : f < 48) : ex S (d + 2) 23 [.ref 9, .int 2, .int (nI f)] (Hh k E A L T) = some (.inl (some (.int (W (8 + 14 * f + 2)))), Hh k E A L T) := by rw [lg_2 hf, show A 10 (96 + f) = _ from hL 2 f (by decide) hf]
theorem vL_2 {C : Nat → Int32} {f : Nat} {x : Int32} (hL : LkL C W) (hf : f < 48) : LkL (upd C (96 + f) x) (upd W (8 + 14 * f + 2) x) := by intro w g hw hg; simp only [upd]; have := hL w g hw hg; split <;> split <;> first | rfl | omega | exact this
theorem gL_3 {f : Nat} (hL : LkL (A 10) W) (hf : f < 48) : ex S (d + 2) 23 [.ref 9, .int 3, .int (nI f)] (Hh k E A L T) = some (.inl (some (.int (W (8 + 14 * f + 3)))), Hh k E A L T) := by rw [lg_3 hf, show A 10 (144 + f) = _ from hL 3 f (by decide) hf]
theorem vL_3 {C : Nat → Int32} {f : Nat} {x : Int32} (hL : LkL C W) (hf : f < 48) : LkL (upd C (144 + f) x) (upd W (8 + 14 * f + 3) x) := by intro w g hw hg; simp only [upd]; have := hL w g hw hg; split <;> split <;> first | rfl | omega | exact this
theorem gL_4 {f : Nat} (hL : LkL (A 10) W) (hf : f < 48) : ex S (d + 2) 23 [.ref 9, .int 4, .int (nI f)] (Hh k E A L T) = some (.inl (some (.int (W (8 + 14 * f + 4)))), Hh k E A L T) := by rw [lg_4 hf, show A 10 (192 + f) = _ from hL 4 f (by decide) hf]
theorem vL_4 {C : Nat → Int32} {f : Nat} {x : Int32} (hL : LkL C W) (hf : f < 48) : LkL (upd C (192 + f) x) (upd W (8 + 14 * f + 4) x) := by intro w g hw hg; simp only [upd]; have := hL w g hw hg; split <;> split <;> first | rfl | omega | exact this
theorem gL_5 {f : Nat} (hL : LkL (A 10) W) (hf : f < 48) : ex S (d + 2) 23 [.ref 9, .int 5, .int (nI f)] (Hh k E A L T) = some (.inl (some (.int (W (8 + 14 * f + 5)))), Hh k E A L T) := by rw [lg_5 hf, show A 10 (240 + f) = _ from hL 5 f (by decide) hf]
theorem vL_5 {C : Nat → Int32} {f : Nat} {x : Int32} (hL : LkL C W) (hf : f < 48) : LkL (upd C (240 + f) x) (upd W (8 + 14 * f + 5) x) := by intro w g hw hg; simp only [upd]; have := hL w g hw hg; split <;> split <;> first | rfl | omega | exact this
theorem gL_6 {f : Nat} (hL : LkL (A 10) W) (hf : f < 48) : ex S (d + 2) 23 [.ref 9, .int 6, .int (nI f)] (Hh k E A L T) = some (.inl (some (.int (W (8 + 14 * f + 6)))), Hh k E A L T) := by rw [lg_6 hf, show A 10 (288 + f) = _ from hL 6 f (by decide) hf]
theorem vL_6 {C : Nat → Int32} {f : Nat} {x : Int32} (hL : LkL C W) (hf : f < 48) : LkL (upd C (288 + f) x) (upd W (8 + 14 * f + 6) x) := by intro w g hw hg; simp only [upd]; have := hL w g hw hg; split <;> split <;> first | rfl | omega | exact this
theorem gL_7 {f : Nat} (hL : LkL (A 10) W) (hf : f < 48) : ex S (d + 2) 23 [.ref 9, .int 7, .int (nI f)] (Hh k E A L T) = some (.inl (some (.int (W (8 + 14 * f + 7)))), Hh k E A L T) := by rw [lg_7 hf, show A 10 (336 + f) = _ from hL 7 f (by decide) hf]
theorem vL_7 {C : Nat → Int32} {f : Nat} {x : Int32} (hL : LkL C W) (hf : f < 48) : LkL (upd C (336 + f) x) (upd W (8 + 14 * f + 7) x) := by intro w g hw hg; simp only [upd]; have := hL w g hw hg; split <;> split <;> first | rfl | omega | exact this
theorem gL_8 {f : Nat} (hL : LkL (A 10) W) (hf : f < 48) : ex S (d + 2) 23 [.ref 9, .int 8, .int (nI f)] (Hh k E A L T) = some (.inl (some (.int (W (8 + 14 * f + 8)))), Hh k E A L T) := by rw [lg_8 hf, show A 10 (384 + f) = _ from hL 8 f (by decide) hf]
theorem vL_8 {C : Nat → Int32} {f : Nat} {x : Int32} (hL : LkL C W) (hf : f < 48) : LkL (upd C (384 + f) x) (upd W (8 + 14 * f + 8) x) := by intro w g hw hg; simp only [upd]; have := hL w g hw hg; split <;> split <;> first | rfl | omega | exact this
theorem gL_9 {f : Nat} (hL : LkL (A 10) W) (hf : f < 48) : ex S (d + 2) 23 [.ref 9, .int 9, .int (nI f)] (Hh k E A L T) = some (.inl (some (.int (W (8 + 14 * f + 9)))), Hh k E A L T) := by rw [lg_9 hf, show A 10 (432 + f) = _ from hL 9 f (by decide) hf]
theorem vL_9 {C : Nat → Int32} {f : Nat} {x : Int32} (hL : LkL C W) (hf : f < 48) : LkL (upd C (432 + f) x) (upd W (8 + 14 * f + 9) x) := by intro w g hw hg; simp only [upd]; have := hL w g hw hg; split <;> split <;> first | rfl | omega | exact this
theorem gL_10 {f : Nat} (hL : LkL (A 10) W) (hf : f < 48) : ex S (d + 2) 23 [.ref 9, .int 10, .int (nI f)] (Hh k E A L T) = some (.inl (some (.int (W (8 + 14 * f + 10)))), Hh k E A L T) := by rw [lg_10 hf, show A 10 (480 + f) = _ from hL 10 f (by decide) hf]
theorem vL_10 {C : Nat → Int32} {f : Nat} {x : Int32} (hL : LkL C W) (hf : f < 48) : LkL (upd C (480 + f) x) (upd W (8 + 14 * f + 10) x) := by intro w g hw hg; simp only [upd]; have := hL w g hw hg; split <;> split <;> first | rfl | omega | exact this
theorem gL_11 {f : Nat} (hL : LkL (A 10) W) (hf : f < 48) : ex S (d + 2) 23 [.ref 9, .int 11, .int (nI f)] (Hh k E A L T) = some (.inl (some (.int (W (8 + 14 * f + 11)))), Hh k E A L T) := by rw [lg_11 hf, show A 10 (528 + f) = _ from hL 11 f (by decide) hf]
theorem vL_11 {C : Nat → Int32} {f : Nat} {x : Int32} (hL : LkL C W) (hf : f < 48) : LkL (upd C (528 + f) x) (upd W (8 + 14 * f + 11) x) := by intro w g hw hg; simp only [upd]; have := hL w g hw hg; split <;> split <;> first | rfl | omega | exact this
theorem gL_12 {f : Nat} (hL : LkL (A 10) W) (hf : f < 48) : ex S (d + 2) 23 [.ref 9, .int 12, .int (nI f)] (Hh k E A L T) = some (.inl (some (.int (W (8 + 14 * f + 12)))), Hh k E A L T) := by rw [lg_12 hf, show A 10 (576 + f) = _ from hL 12 f (by decide) hf]
theorem vL_12 {C : Nat → Int32} {f : Nat} {x : Int32} (hL : LkL C W) (hf : f < 48) : LkL (upd C (576 + f) x) (upd W (8 + 14 * f + 12) x) := by intro w g hw hg; simp only [upd]; have := hL w g hw hg; split <;> split <;> first | rfl | omega | exact this
theorem gL_13 {f : Nat} (hL : LkL (A 10) W) (hf : f < 48) : ex S (d + 2) 23 [.ref 9, .int 13, .int (nI f)] (Hh k E A L T) = some (.inl (some (.int (W (8 + 14 * f + 13)))), Hh k E A L T) := by rw [lg_13 hf, show A 10 (624 + f) = _ from hL 13 f (by decide) hf]
theorem vL_13 {C : Nat → Int32} {f : Nat} {x : Int32} (hL : LkL C W) (hf : f < 48) : LkL (upd C (624 + f) x) (upd W (8 + 14 * f + 13) x) := by intro w g hw hg; simp only [upd]; have := hL w g hw hg; split <;> split <;> first | rfl | omega | exact this
theorem gH_0 {h : Nat} (hL : LkC (A 12) W h) (hf : h < 24) : ex S (d + 2) 102 [.ref 11, .int 0, .int (nI h)] (Hh k E A L T) = some (.inl (some (.int (W (1684 + 11 * h + 0)))), Hh k E A L T) := by rw [tg_0 hf, hL.1]
theorem gH_1 {h : Nat} (hL : LkC (A 12) W h) (hf : h < 24) : ex S (d + 2) 102 [.ref 11, .int 1, .int (nI h)] (Hh k E A L T) = some (.inl (some (.int (nI (fo W h)))), Hh k E A L T) := by rw [tg_1 hf, hL.2.1]
theorem gH_2 {h : Nat} (hL : LkC (A 12) W h) (hf : h < 24) : ex S (d + 2) 102 [.ref 11, .int 2, .int (nI h)] (Hh k E A L T) = some (.inl (some (.int (W (1684 + 11 * h + 1)))), Hh k E A L T) := by rw [tg_2 hf, hL.2.2.1]
theorem gH_3 {h : Nat} (hL : LkC (A 12) W h) (hf : h < 24) : ex S (d + 2) 102 [.ref 11, .int 3, .int (nI h)] (Hh k E A L T) = some (.inl (some (.int (W (1684 + 11 * h + 2)))), Hh k E A L T) := by rw [tg_3 hf, hL.2.2.2.1]
theorem gH_4 {h : Nat} (hL : LkC (A 12) W h) (hf : h < 24) : ex S (d + 2) 102 [.ref 11, .int 4, .int (nI h)] (Hh k E A L T) = some (.inl (some (.int (W (1684 + 11 * h + 3)))), Hh k E A L T) := by rw [tg_4 hf, hL.2.2.2.2.1]
theorem gH_5 {h : Nat} (hL : LkC (A 12) W h) (hf : h < 24) : ex S (d + 2) 102 [.ref 11, .int 5, .int (nI h)] (Hh k E A L T) = some (.inl (some (.int (W (1684 + 11 * h + 4)))), Hh k E A L T) := by rw [tg_5 hf, hL.2.2.2.2.2.1]
theorem gH_6 {h : Nat} (hL : LkC (A 12) W h) (hf : h < 24) : ex S (d + 2) 102 [.ref 11, .int 6, .int (nI h)] (Hh k E A L T) = some (.inl (some (.int (if fo W h = 0 then 1 else 0))), Hh k E A L T) := by rw [tg_6 hf, hL.2.2.2.2.2.2.1]
theorem gH_7 {h : Nat} (hL : LkC (A 12) W h) (hf : h < 24) : ex S (d + 2) 102 [.ref 11, .int 7, .int (nI h)] (Hh k E A L T) = some (.inl (some (.int (W (1684 + 11 * h + 5)))), Hh k E A L T) := by rw [tg_7 hf, hL.2.2.2.2.2.2.2.1]
theorem gH_8 {h : Nat} (hL : LkC (A 12) W h) (hf : h < 24) : ex S (d + 2) 102 [.ref 11, .int 8, .int (nI h)] (Hh k E A L T) = some (.inl (some (.int (W (1684 + 11 * h + 6)))), Hh k E A L T) := by rw [tg_8 hf, hL.2.2.2.2.2.2.2.2.1]
theorem gH_9 {h : Nat} (hL : LkC (A 12) W h) (hf : h < 24) : ex S (d + 2) 102 [.ref 11, .int 9, .int (nI h)] (Hh k E A L T) = some (.inl (some (.int (W (1684 + 11 * h + 7)))), Hh k E A L T) := by rw [tg_9 hf, hL.2.2.2.2.2.2.2.2.2.1]
theorem gH_10 {h : Nat} (hL : LkC (A 12) W h) (hf : h < 24) : ex S (d + 2) 102 [.ref 11, .int 10, .int (nI h)] (Hh k E A L T) = some (.inl (some (.int (W (1684 + 11 * h + 8)))), Hh k E A L T) := by rw [tg_10 hf, hL.2.2.2.2.2.2.2.2.2.2.1]
theorem gH_11 {h : Nat} (hL : LkC (A 12) W h) (hf : h < 24) (hk : W (1684 + 11 * h + 0) = 4 ∨ W (1684 + 11 * h + 0) = 5) : ex S (d + 2) 102 [.ref 11, .int 11, .int (nI h)] (Hh k E A L T) = some (.inl (some (.int (W (1684 + 11 * h + 9)))), Hh k E A L T) := by rw [tg_11 hf, (hL.2.2.2.2.2.2.2.2.2.2.2.1 hk)]
theorem gH_12 {h : Nat} (hL : LkC (A 12) W h) (hf : h < 24) (hk : W (1684 + 11 * h + 0) = 4) : ex S (d + 2) 102 [.ref 11, .int 12, .int (nI h)] (Hh k E A L T) = some (.inl (some (.int (W (1684 + 11 * h + 10)))), Hh k E A L T) := by rw [tg_12 hf, (hL.2.2.2.2.2.2.2.2.2.2.2.2 hk)]
theorem fo_congr {W W' : fW} (h : ∀ f, f < 48 → W' (8 + 14 * f + 10) = W (8 + 14 * f + 10)) (g : Nat) : fo W' g = fo W g := by
  unfold fo; exact cntF_congr (fun f hf => by rw [h f hf])
theorem vH_2 {C : Nat → Int32} {h : Nat} {x : Int32} (hL : ∀ g, g < 24 → g < hn W → LkC C W g) (hf : h < 24) : ∀ g, g < 24 → g < hn W → LkC (upd C (48 + h) x) (upd W (1684 + 11 * h + 1) x) g := by
  intro g hg hg2
  have e : fo (upd W (1684 + 11 * h + 1) x) g = fo W g := fo_congr (fun f hf => upd_o (by omega)) g
  obtain ⟨h0, h1, h2, h3, h4, h5, h6, h7, h8, h9, h10, h11, h12⟩ := hL g hg hg2
  unfold LkC
  rw [e]
  by_cases q : g = h
  · subst q
    refine ⟨?_, ?_, ?_, ?_, ?_, ?_, ?_, ?_, ?_, ?_, ?_, ?_, ?_⟩
    · rw [upd_o (by omega), upd_o (by omega)]; exact h0
    · rw [upd_o (by omega)]; exact h1
    · rw [upd_s, upd_s]
    · rw [upd_o (by omega), upd_o (by omega)]; exact h3
    · rw [upd_o (by omega), upd_o (by omega)]; exact h4
    · rw [upd_o (by omega), upd_o (by omega)]; exact h5
    · rw [upd_o (by omega)]; exact h6
    · rw [upd_o (by omega), upd_o (by omega)]; exact h7
    · rw [upd_o (by omega), upd_o (by omega)]; exact h8
    · rw [upd_o (by omega), upd_o (by omega)]; exact h9
    · rw [upd_o (by omega), upd_o (by omega)]; exact h10
    · rw [upd_o (by omega), upd_o (by omega), upd_o (by omega)]; exact h11
    · rw [upd_o (by omega), upd_o (by omega), upd_o (by omega)]; exact h12
  · refine ⟨?_, ?_, ?_, ?_, ?_, ?_, ?_, ?_, ?_, ?_, ?_, ?_, ?_⟩
    · rw [upd_o (by omega), upd_o (by omega)]; exact h0
    · rw [upd_o (by omega)]; exact h1
    · rw [upd_o (by omega), upd_o (by omega)]; exact h2
    · rw [upd_o (by omega), upd_o (by omega)]; exact h3
    · rw [upd_o (by omega), upd_o (by omega)]; exact h4
    · rw [upd_o (by omega), upd_o (by omega)]; exact h5
    · rw [upd_o (by omega)]; exact h6
    · rw [upd_o (by omega), upd_o (by omega)]; exact h7
    · rw [upd_o (by omega), upd_o (by omega)]; exact h8
    · rw [upd_o (by omega), upd_o (by omega)]; exact h9
    · rw [upd_o (by omega), upd_o (by omega)]; exact h10
    · rw [upd_o (by omega), upd_o (by omega), upd_o (by omega)]; exact h11
    · rw [upd_o (by omega), upd_o (by omega), upd_o (by omega)]; exact h12
theorem vH_3 {C : Nat → Int32} {h : Nat} {x : Int32} (hL : ∀ g, g < 24 → g < hn W → LkC C W g) (hf : h < 24) : ∀ g, g < 24 → g < hn W → LkC (upd C (72 + h) x) (upd W (1684 + 11 * h + 2) x) g := by
  intro g hg hg2
  have e : fo (upd W (1684 + 11 * h + 2) x) g = fo W g := fo_congr (fun f hf => upd_o (by omega)) g
  obtain ⟨h0, h1, h2, h3, h4, h5, h6, h7, h8, h9, h10, h11, h12⟩ := hL g hg hg2
  unfold LkC
  rw [e]
  by_cases q : g = h
  · subst q
    refine ⟨?_, ?_, ?_, ?_, ?_, ?_, ?_, ?_, ?_, ?_, ?_, ?_, ?_⟩
    · rw [upd_o (by omega), upd_o (by omega)]; exact h0
    · rw [upd_o (by omega)]; exact h1
    · rw [upd_o (by omega), upd_o (by omega)]; exact h2
    · rw [upd_s, upd_s]
    · rw [upd_o (by omega), upd_o (by omega)]; exact h4
    · rw [upd_o (by omega), upd_o (by omega)]; exact h5
    · rw [upd_o (by omega)]; exact h6
    · rw [upd_o (by omega), upd_o (by omega)]; exact h7
    · rw [upd_o (by omega), upd_o (by omega)]; exact h8
    · rw [upd_o (by omega), upd_o (by omega)]; exact h9
    · rw [upd_o (by omega), upd_o (by omega)]; exact h10
    · rw [upd_o (by omega), upd_o (by omega), upd_o (by omega)]; exact h11
    · rw [upd_o (by omega), upd_o (by omega), upd_o (by omega)]; exact h12
  · refine ⟨?_, ?_, ?_, ?_, ?_, ?_, ?_, ?_, ?_, ?_, ?_, ?_, ?_⟩
    · rw [upd_o (by omega), upd_o (by omega)]; exact h0
    · rw [upd_o (by omega)]; exact h1
    · rw [upd_o (by omega), upd_o (by omega)]; exact h2
    · rw [upd_o (by omega), upd_o (by omega)]; exact h3
    · rw [upd_o (by omega), upd_o (by omega)]; exact h4
    · rw [upd_o (by omega), upd_o (by omega)]; exact h5
    · rw [upd_o (by omega)]; exact h6
    · rw [upd_o (by omega), upd_o (by omega)]; exact h7
    · rw [upd_o (by omega), upd_o (by omega)]; exact h8
    · rw [upd_o (by omega), upd_o (by omega)]; exact h9
    · rw [upd_o (by omega), upd_o (by omega)]; exact h10
    · rw [upd_o (by omega), upd_o (by omega), upd_o (by omega)]; exact h11
    · rw [upd_o (by omega), upd_o (by omega), upd_o (by omega)]; exact h12
theorem vH_4 {C : Nat → Int32} {h : Nat} {x : Int32} (hL : ∀ g, g < 24 → g < hn W → LkC C W g) (hf : h < 24) : ∀ g, g < 24 → g < hn W → LkC (upd C (96 + h) x) (upd W (1684 + 11 * h + 3) x) g := by
  intro g hg hg2
  have e : fo (upd W (1684 + 11 * h + 3) x) g = fo W g := fo_congr (fun f hf => upd_o (by omega)) g
  obtain ⟨h0, h1, h2, h3, h4, h5, h6, h7, h8, h9, h10, h11, h12⟩ := hL g hg hg2
  unfold LkC
  rw [e]
  by_cases q : g = h
  · subst q
    refine ⟨?_, ?_, ?_, ?_, ?_, ?_, ?_, ?_, ?_, ?_, ?_, ?_, ?_⟩
    · rw [upd_o (by omega), upd_o (by omega)]; exact h0
    · rw [upd_o (by omega)]; exact h1
    · rw [upd_o (by omega), upd_o (by omega)]; exact h2
    · rw [upd_o (by omega), upd_o (by omega)]; exact h3
    · rw [upd_s, upd_s]
    · rw [upd_o (by omega), upd_o (by omega)]; exact h5
    · rw [upd_o (by omega)]; exact h6
    · rw [upd_o (by omega), upd_o (by omega)]; exact h7
    · rw [upd_o (by omega), upd_o (by omega)]; exact h8
    · rw [upd_o (by omega), upd_o (by omega)]; exact h9
    · rw [upd_o (by omega), upd_o (by omega)]; exact h10
    · rw [upd_o (by omega), upd_o (by omega), upd_o (by omega)]; exact h11
    · rw [upd_o (by omega), upd_o (by omega), upd_o (by omega)]; exact h12
  · refine ⟨?_, ?_, ?_, ?_, ?_, ?_, ?_, ?_, ?_, ?_, ?_, ?_, ?_⟩
    · rw [upd_o (by omega), upd_o (by omega)]; exact h0
    · rw [upd_o (by omega)]; exact h1
    · rw [upd_o (by omega), upd_o (by omega)]; exact h2
    · rw [upd_o (by omega), upd_o (by omega)]; exact h3
    · rw [upd_o (by omega), upd_o (by omega)]; exact h4
    · rw [upd_o (by omega), upd_o (by omega)]; exact h5
    · rw [upd_o (by omega)]; exact h6
    · rw [upd_o (by omega), upd_o (by omega)]; exact h7
    · rw [upd_o (by omega), upd_o (by omega)]; exact h8
    · rw [upd_o (by omega), upd_o (by omega)]; exact h9
    · rw [upd_o (by omega), upd_o (by omega)]; exact h10
    · rw [upd_o (by omega), upd_o (by omega), upd_o (by omega)]; exact h11
    · rw [upd_o (by omega), upd_o (by omega), upd_o (by omega)]; exact h12
theorem vH_5 {C : Nat → Int32} {h : Nat} {x : Int32} (hL : ∀ g, g < 24 → g < hn W → LkC C W g) (hf : h < 24) : ∀ g, g < 24 → g < hn W → LkC (upd C (120 + h) x) (upd W (1684 + 11 * h + 4) x) g := by
  intro g hg hg2
  have e : fo (upd W (1684 + 11 * h + 4) x) g = fo W g := fo_congr (fun f hf => upd_o (by omega)) g
  obtain ⟨h0, h1, h2, h3, h4, h5, h6, h7, h8, h9, h10, h11, h12⟩ := hL g hg hg2
  unfold LkC
  rw [e]
  by_cases q : g = h
  · subst q
    refine ⟨?_, ?_, ?_, ?_, ?_, ?_, ?_, ?_, ?_, ?_, ?_, ?_, ?_⟩
    · rw [upd_o (by omega), upd_o (by omega)]; exact h0
    · rw [upd_o (by omega)]; exact h1
    · rw [upd_o (by omega), upd_o (by omega)]; exact h2
    · rw [upd_o (by omega), upd_o (by omega)]; exact h3
    · rw [upd_o (by omega), upd_o (by omega)]; exact h4
    · rw [upd_s, upd_s]
    · rw [upd_o (by omega)]; exact h6
    · rw [upd_o (by omega), upd_o (by omega)]; exact h7
    · rw [upd_o (by omega), upd_o (by omega)]; exact h8
    · rw [upd_o (by omega), upd_o (by omega)]; exact h9
    · rw [upd_o (by omega), upd_o (by omega)]; exact h10
    · rw [upd_o (by omega), upd_o (by omega), upd_o (by omega)]; exact h11
    · rw [upd_o (by omega), upd_o (by omega), upd_o (by omega)]; exact h12
  · refine ⟨?_, ?_, ?_, ?_, ?_, ?_, ?_, ?_, ?_, ?_, ?_, ?_, ?_⟩
    · rw [upd_o (by omega), upd_o (by omega)]; exact h0
    · rw [upd_o (by omega)]; exact h1
    · rw [upd_o (by omega), upd_o (by omega)]; exact h2
    · rw [upd_o (by omega), upd_o (by omega)]; exact h3
    · rw [upd_o (by omega), upd_o (by omega)]; exact h4
    · rw [upd_o (by omega), upd_o (by omega)]; exact h5
    · rw [upd_o (by omega)]; exact h6
    · rw [upd_o (by omega), upd_o (by omega)]; exact h7
    · rw [upd_o (by omega), upd_o (by omega)]; exact h8
    · rw [upd_o (by omega), upd_o (by omega)]; exact h9
    · rw [upd_o (by omega), upd_o (by omega)]; exact h10
    · rw [upd_o (by omega), upd_o (by omega), upd_o (by omega)]; exact h11
    · rw [upd_o (by omega), upd_o (by omega), upd_o (by omega)]; exact h12
theorem vH_7 {C : Nat → Int32} {h : Nat} {x : Int32} (hL : ∀ g, g < 24 → g < hn W → LkC C W g) (hf : h < 24) : ∀ g, g < 24 → g < hn W → LkC (upd C (168 + h) x) (upd W (1684 + 11 * h + 5) x) g := by
  intro g hg hg2
  have e : fo (upd W (1684 + 11 * h + 5) x) g = fo W g := fo_congr (fun f hf => upd_o (by omega)) g
  obtain ⟨h0, h1, h2, h3, h4, h5, h6, h7, h8, h9, h10, h11, h12⟩ := hL g hg hg2
  unfold LkC
  rw [e]
  by_cases q : g = h
  · subst q
    refine ⟨?_, ?_, ?_, ?_, ?_, ?_, ?_, ?_, ?_, ?_, ?_, ?_, ?_⟩
    · rw [upd_o (by omega), upd_o (by omega)]; exact h0
    · rw [upd_o (by omega)]; exact h1
    · rw [upd_o (by omega), upd_o (by omega)]; exact h2
    · rw [upd_o (by omega), upd_o (by omega)]; exact h3
    · rw [upd_o (by omega), upd_o (by omega)]; exact h4
    · rw [upd_o (by omega), upd_o (by omega)]; exact h5
    · rw [upd_o (by omega)]; exact h6
    · rw [upd_s, upd_s]
    · rw [upd_o (by omega), upd_o (by omega)]; exact h8
    · rw [upd_o (by omega), upd_o (by omega)]; exact h9
    · rw [upd_o (by omega), upd_o (by omega)]; exact h10
    · rw [upd_o (by omega), upd_o (by omega), upd_o (by omega)]; exact h11
    · rw [upd_o (by omega), upd_o (by omega), upd_o (by omega)]; exact h12
  · refine ⟨?_, ?_, ?_, ?_, ?_, ?_, ?_, ?_, ?_, ?_, ?_, ?_, ?_⟩
    · rw [upd_o (by omega), upd_o (by omega)]; exact h0
    · rw [upd_o (by omega)]; exact h1
    · rw [upd_o (by omega), upd_o (by omega)]; exact h2
    · rw [upd_o (by omega), upd_o (by omega)]; exact h3
    · rw [upd_o (by omega), upd_o (by omega)]; exact h4
    · rw [upd_o (by omega), upd_o (by omega)]; exact h5
    · rw [upd_o (by omega)]; exact h6
    · rw [upd_o (by omega), upd_o (by omega)]; exact h7
    · rw [upd_o (by omega), upd_o (by omega)]; exact h8
    · rw [upd_o (by omega), upd_o (by omega)]; exact h9
    · rw [upd_o (by omega), upd_o (by omega)]; exact h10
    · rw [upd_o (by omega), upd_o (by omega), upd_o (by omega)]; exact h11
    · rw [upd_o (by omega), upd_o (by omega), upd_o (by omega)]; exact h12
theorem vH_8 {C : Nat → Int32} {h : Nat} {x : Int32} (hL : ∀ g, g < 24 → g < hn W → LkC C W g) (hf : h < 24) : ∀ g, g < 24 → g < hn W → LkC (upd C (192 + h) x) (upd W (1684 + 11 * h + 6) x) g := by
  intro g hg hg2
  have e : fo (upd W (1684 + 11 * h + 6) x) g = fo W g := fo_congr (fun f hf => upd_o (by omega)) g
  obtain ⟨h0, h1, h2, h3, h4, h5, h6, h7, h8, h9, h10, h11, h12⟩ := hL g hg hg2
  unfold LkC
  rw [e]
  by_cases q : g = h
  · subst q
    refine ⟨?_, ?_, ?_, ?_, ?_, ?_, ?_, ?_, ?_, ?_, ?_, ?_, ?_⟩
    · rw [upd_o (by omega), upd_o (by omega)]; exact h0
    · rw [upd_o (by omega)]; exact h1
    · rw [upd_o (by omega), upd_o (by omega)]; exact h2
    · rw [upd_o (by omega), upd_o (by omega)]; exact h3
    · rw [upd_o (by omega), upd_o (by omega)]; exact h4
    · rw [upd_o (by omega), upd_o (by omega)]; exact h5
    · rw [upd_o (by omega)]; exact h6
    · rw [upd_o (by omega), upd_o (by omega)]; exact h7
    · rw [upd_s, upd_s]
    · rw [upd_o (by omega), upd_o (by omega)]; exact h9
    · rw [upd_o (by omega), upd_o (by omega)]; exact h10
    · rw [upd_o (by omega), upd_o (by omega), upd_o (by omega)]; exact h11
    · rw [upd_o (by omega), upd_o (by omega), upd_o (by omega)]; exact h12
  · refine ⟨?_, ?_, ?_, ?_, ?_, ?_, ?_, ?_, ?_, ?_, ?_, ?_, ?_⟩
    · rw [upd_o (by omega), upd_o (by omega)]; exact h0
    · rw [upd_o (by omega)]; exact h1
    · rw [upd_o (by omega), upd_o (by omega)]; exact h2
    · rw [upd_o (by omega), upd_o (by omega)]; exact h3
    · rw [upd_o (by omega), upd_o (by omega)]; exact h4
    · rw [upd_o (by omega), upd_o (by omega)]; exact h5
    · rw [upd_o (by omega)]; exact h6
    · rw [upd_o (by omega), upd_o (by omega)]; exact h7
    · rw [upd_o (by omega), upd_o (by omega)]; exact h8
    · rw [upd_o (by omega), upd_o (by omega)]; exact h9
    · rw [upd_o (by omega), upd_o (by omega)]; exact h10
    · rw [upd_o (by omega), upd_o (by omega), upd_o (by omega)]; exact h11
    · rw [upd_o (by omega), upd_o (by omega), upd_o (by omega)]; exact h12
theorem vH_9 {C : Nat → Int32} {h : Nat} {x : Int32} (hL : ∀ g, g < 24 → g < hn W → LkC C W g) (hf : h < 24) : ∀ g, g < 24 → g < hn W → LkC (upd C (216 + h) x) (upd W (1684 + 11 * h + 7) x) g := by
  intro g hg hg2
  have e : fo (upd W (1684 + 11 * h + 7) x) g = fo W g := fo_congr (fun f hf => upd_o (by omega)) g
  obtain ⟨h0, h1, h2, h3, h4, h5, h6, h7, h8, h9, h10, h11, h12⟩ := hL g hg hg2
  unfold LkC
  rw [e]
  by_cases q : g = h
  · subst q
    refine ⟨?_, ?_, ?_, ?_, ?_, ?_, ?_, ?_, ?_, ?_, ?_, ?_, ?_⟩
    · rw [upd_o (by omega), upd_o (by omega)]; exact h0
    · rw [upd_o (by omega)]; exact h1
    · rw [upd_o (by omega), upd_o (by omega)]; exact h2
    · rw [upd_o (by omega), upd_o (by omega)]; exact h3
    · rw [upd_o (by omega), upd_o (by omega)]; exact h4
    · rw [upd_o (by omega), upd_o (by omega)]; exact h5
    · rw [upd_o (by omega)]; exact h6
    · rw [upd_o (by omega), upd_o (by omega)]; exact h7
    · rw [upd_o (by omega), upd_o (by omega)]; exact h8
    · rw [upd_s, upd_s]
    · rw [upd_o (by omega), upd_o (by omega)]; exact h10
    · rw [upd_o (by omega), upd_o (by omega), upd_o (by omega)]; exact h11
    · rw [upd_o (by omega), upd_o (by omega), upd_o (by omega)]; exact h12
  · refine ⟨?_, ?_, ?_, ?_, ?_, ?_, ?_, ?_, ?_, ?_, ?_, ?_, ?_⟩
    · rw [upd_o (by omega), upd_o (by omega)]; exact h0
    · rw [upd_o (by omega)]; exact h1
    · rw [upd_o (by omega), upd_o (by omega)]; exact h2
    · rw [upd_o (by omega), upd_o (by omega)]; exact h3
    · rw [upd_o (by omega), upd_o (by omega)]; exact h4
    · rw [upd_o (by omega), upd_o (by omega)]; exact h5
    · rw [upd_o (by omega)]; exact h6
    · rw [upd_o (by omega), upd_o (by omega)]; exact h7
    · rw [upd_o (by omega), upd_o (by omega)]; exact h8
    · rw [upd_o (by omega), upd_o (by omega)]; exact h9
    · rw [upd_o (by omega), upd_o (by omega)]; exact h10
    · rw [upd_o (by omega), upd_o (by omega), upd_o (by omega)]; exact h11
    · rw [upd_o (by omega), upd_o (by omega), upd_o (by omega)]; exact h12
theorem vH_10 {C : Nat → Int32} {h : Nat} {x : Int32} (hL : ∀ g, g < 24 → g < hn W → LkC C W g) (hf : h < 24) : ∀ g, g < 24 → g < hn W → LkC (upd C (240 + h) x) (upd W (1684 + 11 * h + 8) x) g := by
  intro g hg hg2
  have e : fo (upd W (1684 + 11 * h + 8) x) g = fo W g := fo_congr (fun f hf => upd_o (by omega)) g
  obtain ⟨h0, h1, h2, h3, h4, h5, h6, h7, h8, h9, h10, h11, h12⟩ := hL g hg hg2
  unfold LkC
  rw [e]
  by_cases q : g = h
  · subst q
    refine ⟨?_, ?_, ?_, ?_, ?_, ?_, ?_, ?_, ?_, ?_, ?_, ?_, ?_⟩
    · rw [upd_o (by omega), upd_o (by omega)]; exact h0
    · rw [upd_o (by omega)]; exact h1
    · rw [upd_o (by omega), upd_o (by omega)]; exact h2
    · rw [upd_o (by omega), upd_o (by omega)]; exact h3
    · rw [upd_o (by omega), upd_o (by omega)]; exact h4
    · rw [upd_o (by omega), upd_o (by omega)]; exact h5
    · rw [upd_o (by omega)]; exact h6
    · rw [upd_o (by omega), upd_o (by omega)]; exact h7
    · rw [upd_o (by omega), upd_o (by omega)]; exact h8
    · rw [upd_o (by omega), upd_o (by omega)]; exact h9
    · rw [upd_s, upd_s]
    · rw [upd_o (by omega), upd_o (by omega), upd_o (by omega)]; exact h11
    · rw [upd_o (by omega), upd_o (by omega), upd_o (by omega)]; exact h12
  · refine ⟨?_, ?_, ?_, ?_, ?_, ?_, ?_, ?_, ?_, ?_, ?_, ?_, ?_⟩
    · rw [upd_o (by omega), upd_o (by omega)]; exact h0
    · rw [upd_o (by omega)]; exact h1
    · rw [upd_o (by omega), upd_o (by omega)]; exact h2
    · rw [upd_o (by omega), upd_o (by omega)]; exact h3
    · rw [upd_o (by omega), upd_o (by omega)]; exact h4
    · rw [upd_o (by omega), upd_o (by omega)]; exact h5
    · rw [upd_o (by omega)]; exact h6
    · rw [upd_o (by omega), upd_o (by omega)]; exact h7
    · rw [upd_o (by omega), upd_o (by omega)]; exact h8
    · rw [upd_o (by omega), upd_o (by omega)]; exact h9
    · rw [upd_o (by omega), upd_o (by omega)]; exact h10
    · rw [upd_o (by omega), upd_o (by omega), upd_o (by omega)]; exact h11
    · rw [upd_o (by omega), upd_o (by omega), upd_o (by omega)]; exact h12
end Rel
