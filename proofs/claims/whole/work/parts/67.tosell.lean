/-! which fields are best sold: numbers -/
section ToSellP
/-- the field beside one: above, left, right, below -/
def besN (f w : Nat) : Option Nat := match w with
  | 0 => if f < 8 then none else some (f - 8)
  | 1 => if f % 8 = 0 then none else some (f - 1)
  | 2 => if f % 8 = 7 then none else some (f + 1)
  | _ => if 40 ≤ f then none else some (f + 8)
def oI (o : Option Nat) : Int32 := match o with | none => -1 | some g => nI g
def bsC (x0 x1 : Int32) : Int32 :=
  let x := (x0 - x0 / 8 * 8) + (if x1 = 2 then 1 else 0) - (if x1 = 3 then 1 else 0)
  let n := ((x0 - (x0 - x0 / 8 * 8)) + x) + (if x1 = 1 then 8 else 0) - (if x1 = 0 then 8 else 0)
  if x < 0 then -1 else if 8 ≤ x then -1 else if n < 0 then -1 else if n < 48 then n else -1
/-- the class's order of sides in the reference's -/
def pm (w : Nat) : Nat := match w with | 0 => 0 | 1 => 3 | 2 => 2 | _ => 1
theorem bes_lt {f w g : Nat} (hf : f < 48) (h : besN f w = some g) : g < 48 := by
  unfold besN at h
  split at h <;> (split at h <;> simp at h <;> omega)
set_option maxRecDepth 100000 in
theorem bsC_eq : ∀ f : Fin 48, ∀ w : Fin 4, bsC (nI f.1) (nI w.1) = oI (besN f.1 (pm w.1)) := by decide
set_option maxRecDepth 100000 in
theorem bit_eq : ∀ z : Fin 256, ∀ i : Fin 8, ((nI z.1) >>> ((nI i.1) &&& 31)) &&& 1 = if z.1.testBit i.1 then (1 : Int32) else 0 := by decide
theorem shl_eq : ∀ m : Fin 9, (1 : Int32) <<< ((nI m.1) &&& 31) = nI (2 ^ m.1) := by decide
end ToSellP
