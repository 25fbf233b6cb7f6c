/-! THE PURE MACHINE: a method's instructions as data, and what they do to a pure heap, as a function -/
section PureDefs
abbrev pL : Type := List (Option Value)
/-- an instruction with what stands behind its entries: next place, is that a cut, is the target a cut, four numbers, constants, a switch's table -/
abbrev rI : Type := Instr × Nat × Bool × Bool × Nat × Nat × Nat × Nat × Int32 × Int64 × List (Int32 × Nat)
abbrev kT : Type := Bool → Nat → pL → List Value → pH → rO
abbrev cT : Type := Nat → List Value → pH → rO
abbrev sT : Type := Nat × (Nat → Int32)
abbrev i1 (st : List Value) (κ : Int32 → List Value → rO) : rO := match st with | .int x :: s => κ x s | _ => none
abbrev i2 (st : List Value) (κ : Int32 → Int32 → List Value → rO) : rO := match st with | .int y :: .int x :: s => κ x y s | _ => none
abbrev j1 (st : List Value) (κ : Int64 → List Value → rO) : rO := match st with | .long x :: s => κ x s | _ => none
abbrev j2 (st : List Value) (κ : Int64 → Int64 → List Value → rO) : rO := match st with | .long y :: .long x :: s => κ x y s | _ => none
abbrev a1 (st : List Value) (κ : Value → List Value → rO) : rO := match st with | v :: s => κ v s | [] => none
abbrev z0 (st : List Value) (κ : rO) : rO := match st with | [] => κ | _ :: _ => none
/-- a reference -/
abbrev iA (v : Value) (κ : rO) : rO := match v with | .int _ => none | .long _ => none | .float _ => none | .double _ => none | _ => κ
/-- not a long, not a double -/
abbrev nl (v : Value) (κ : rO) : rO := match v with | .long _ => none | .double _ => none | _ => κ
abbrev nth : pL → Nat → Option Value
  | [], _ => none
  | x :: _, 0 => x
  | _ :: l, n + 1 => nth l n
abbrev ldI (l : pL) (i : Nat) (κ : Int32 → rO) : rO := match nth l i with | some (.int x) => κ x | _ => none
abbrev ldJ (l : pL) (i : Nat) (κ : Int64 → rO) : rO := match nth l i with | some (.long x) => κ x | _ => none
abbrev ldA (l : pL) (i : Nat) (κ : Value → rO) : rO := match nth l i with | some v => iA v (κ v) | none => none
abbrev undO (o : Option Value) (κ : rO) : rO := match o with | some v => nl v κ | none => κ
abbrev under (l : pL) (i : Nat) (κ : rO) : rO := match i with
  | 0 => κ
  | j + 1 => undO (nth l j) κ
/-- a place of the locals may be written -/
abbrev sto (n : Nat) (l : pL) (i : Nat) (κ : rO) : rO := match Nat.blt i n && Nat.blt i l.length with | true => under l i κ | false => none
abbrev stoJ (n : Nat) (l : pL) (i : Nat) (κ : rO) : rO := match Nat.blt (i + 1) n && Nat.blt (i + 1) l.length with | true => under l i κ | false => none
def h8f (rest : List Value) (κ : rO) : rO := if (rest.map (fun v => v.category)).sum ≤ 8 then κ else none
abbrev h8 (rest : List Value) (κ : rO) : rO := match Nat.ble rest.length 4 with | true => κ | false => h8f rest κ
abbrev popA : Nat → List Value → List Value → (List Value → List Value → rO) → rO
  | 0, st, av, κ => κ av st
  | _ + 1, [], _, _ => none
  | n + 1, v :: st, av, κ => popA n st (v :: av) κ
def nR (ty : FieldType) (x : Int32) (κ : rO) : rO := if narrow ty (.int x) = .int x then κ else none
-- old things: strings, their bytes, the script
def sIn (j : Nat) : Bool := Nat.ble 100 j && Nat.blt (j - 100) strT.length
def sCod (v : Value) (κ : Int32 → rO) : rO := match v with | .retAddr j => (bif sIn j then κ 0 else none) | _ => none
def sVal (v : Value) (κ : Value → rO) : rO := match v with | .retAddr j => (bif sIn j then κ (.retAddr (10000 + (j - 100))) else none) | _ => none
def sByt (v : Value) (i : Int32) (κ : Int32 → rO) : rO := match v with
  | .retAddr j => if (10000 ≤ j ∧ j - 10000 < strT.length) ∧ ¬ (i < 0 ∨ strLen.getD (j - 10000) 0 ≤ i.toNatClampNeg) then κ ((strByt.getD (j - 10000) []).getD i.toNatClampNeg 0) else none
  | _ => none
def sLen (v : Value) (κ : Int32 → rO) : rO := match v with | .retAddr j => if 10000 ≤ j ∧ j - 10000 < strT.length then κ (nI (strLen.getD (j - 10000) 0)) else none | _ => none
def rS0 (v : Value) (κ : rO) : rO := match v with | .retAddr j => (bif sIn j then κ else none) | _ => none
def xL (S : sT) (v : Value) (i : Int32) (κ : Int32 → rO) : rO := match v with
  | .retAddr 0 => if i < 0 ∨ S.1 ≤ i.toNatClampNeg then none else κ (S.2 i.toNatClampNeg)
  | _ => none
def xN (S : sT) (v : Value) (κ : Int32 → rO) : rO := match v with | .retAddr 0 => κ (nI S.1) | _ => none
-- makings
def mkI (h : pH) (t : Nat) (n : Int32) (κ : pH → rO) : rO := if n < 0 ∨ 100000 < n.toNatClampNeg then none else κ (h ++ [.inl (t, n.toNatClampNeg, .inl (fun _ => 0))])
def mkJ (h : pH) (n : Int32) (κ : pH → rO) : rO := if n < 0 ∨ 100000 < n.toNatClampNeg then none else κ (h ++ [.inl (3, n.toNatClampNeg, .inr (.inl (fun _ => 0)))])
def mkT (h : pH) (n : Int32) (κ : pH → rO) : rO := if n < 0 ∨ 100000 < n.toNatClampNeg then none else κ (h ++ [.inl (4, n.toNatClampNeg, .inr (.inr (.inr (.inr (fun _ => none)))))])
/-- a place of an array of texts is written -/
def sTx (h : pH) (o : Value) (i : Int32) (v : Value) (κ : pH → rO) : rO := match o with
  | .ref a => match h[a]? with
    | some (.inl (u, n, .inr (.inr (.inr (.inr f))))) => if u = 4 ∧ ¬ (i < 0 ∨ n ≤ i.toNatClampNeg) then
        (match v with
        | .ref k => match h[k]? with
          | some (.inr (c, _)) => if c = 11 then κ (h.set a (.inl (4, n, .inr (.inr (.inr (.inr (va_up f i.toNatClampNeg (some k)))))))) else none
          | _ => none
        | .null => κ (h.set a (.inl (4, n, .inr (.inr (.inr (.inr (va_up f i.toNatClampNeg none)))))))
        | _ => none) else none
    | _ => none
  | _ => none
/-- ints are copied -/
def cpI (h : pH) (o : Value) (sp : Int32) (o' : Value) (dp n : Int32) (κ : pH → rO) : rO := match o with
  | .ref a => match o' with
    | .ref b => match h[a]? with
      | some (.inl (t, n0, .inl f)) => match h[b]? with
        | some (.inl (t', n1, .inl g)) => if (t = 0 ∧ t' = 0) ∧ ¬ sp < 0 ∧ ¬ dp < 0 ∧ ¬ n < 0 ∧ sp.toNatClampNeg + n.toNatClampNeg ≤ n0 ∧ dp.toNatClampNeg + n.toNatClampNeg ≤ n1 then κ (h.set b (.inl (0, n1, .inl (va_cpy f g sp.toNatClampNeg dp.toNatClampNeg n.toNatClampNeg)))) else none
        | _ => none
      | _ => none
    | _ => none
  | _ => none
/-- an index is within its bounds -/
def ckI (i n : Int32) (κ : rO) : rO := if i < 0 ∨ n ≤ i then none else κ
def xnm (a : Nat) : String := excT.getD a ""
-- calls whose throw is taken
def cIx (thr : String → pH → rO) (r : rO) (κ : Int32 → pH → rO) : rO := match r with
  | some (.inl (some (.int x)), h1) => κ x h1
  | some (.inr E, h1) => thr E h1
  | _ => none
def cUx (thr : String → pH → rO) (r : rO) (κ : pH → rO) : rO := match r with
  | some (.inl none, h1) => κ h1
  | some (.inr E, h1) => thr E h1
  | _ => none
def tsw (x : Int32) (df : rO) (κ : Nat → rO) : List (Int32 × Nat) → rO
  | [] => df
  | (y, t) :: l => if x = y then κ t else tsw x df κ l
abbrev bI (cd : ClassFile.Cond) (x y : Int32) (A B : rO) : rO := match cd with
  | .eq => if x = y then A else B
  | .ne => if x = y then B else A
  | .lt => if x < y then A else B
  | .ge => if y ≤ x then A else B
  | .gt => if y < x then A else B
  | .le => if x ≤ y then A else B
/-- a throw that is taken nowhere -/
def tN : String → pH → rO := fun _ _ => none
abbrev cL : Type := List (String × Nat × Nat)
def clk : cL → String → Option (Nat × Nat)
  | [], _ => none
  | (e, q, k) :: l, E => if E = e then some (q, k) else clk l E
/-- behind a call: md 0 plain, 1 with handlers, else the law's own -/
abbrev rtn (md : Nat) (thr : String → pH → rO) (c : Nat) (r : rO) (s : List Value) (κ : List Value → pH → rO) : rO := match md with
  | 0 => (match c with
    | 0 => cU r (fun h1 => κ s h1)
    | 1 => cI r (fun x h1 => κ (.int x :: s) h1)
    | 2 => cJ r (fun x h1 => κ (.long x :: s) h1)
    | _ => cA r (fun x h1 => κ (x :: s) h1))
  | _ => (match c with
    | 0 => cUx thr r (fun h1 => κ s h1)
    | _ => cIx thr r (fun x h1 => κ (.int x :: s) h1))
/-- what a throw of the callee does -/
def thrH (md n : Nat) (ct : cL) (loc : pL) (κ : Nat → pL → List Value → pH → rO) : String → pH → rO := fun E h1 => match md with
  | 1 => (match clk ct E with
    | some (q, k) => sto n loc k (κ q (loc.set k none) [] h1)
    | none => none)
  | _ => none
abbrev stp0 (S : sT) (call : cT) (Y : mY) (md : Nat) (ct : cL) (dfl : Nat → List Value) (κ : kT) (ins : Instr) (nx : Nat) (fc tc : Bool) (a b c e : Nat) (v : Int32) (w : Int64) (tb : List (Int32 × Nat)) (loc : pL) (st : List Value) (h : pH) : rO := match ins with
  | .iload _ => ldI loc a (fun x => κ fc nx loc (.int x :: st) h)
  | .iload_n _ => ldI loc a (fun x => κ fc nx loc (.int x :: st) h)
  | .lload _ => ldJ loc a (fun x => κ fc nx loc (.long x :: st) h)
  | .lload_n _ => ldJ loc a (fun x => κ fc nx loc (.long x :: st) h)
  | .aload _ => ldA loc a (fun x => κ fc nx loc (x :: st) h)
  | .aload_n _ => ldA loc a (fun x => κ fc nx loc (x :: st) h)
  | _ => none
abbrev stp1 (S : sT) (call : cT) (Y : mY) (md : Nat) (ct : cL) (dfl : Nat → List Value) (κ : kT) (ins : Instr) (nx : Nat) (fc tc : Bool) (a b c e : Nat) (v : Int32) (w : Int64) (tb : List (Int32 × Nat)) (loc : pL) (st : List Value) (h : pH) : rO := match ins with
  | .iconst _ => κ fc nx loc (.int v :: st) h
  | .bipush _ => κ fc nx loc (.int v :: st) h
  | .sipush _ => κ fc nx loc (.int v :: st) h
  | .lconst _ => κ fc nx loc (.long w :: st) h
  | .ldc2_w _ => κ fc nx loc (.long w :: st) h
  | .aconst_null => κ fc nx loc (.null :: st) h
  | .ldc _ => (match c with | 0 => κ fc nx loc (.int v :: st) h | _ => κ fc nx loc (.retAddr a :: st) h)
  | .ldc_w _ => (match c with | 0 => κ fc nx loc (.int v :: st) h | _ => κ fc nx loc (.retAddr a :: st) h)
  | _ => none
abbrev stp2 (S : sT) (call : cT) (Y : mY) (md : Nat) (ct : cL) (dfl : Nat → List Value) (κ : kT) (ins : Instr) (nx : Nat) (fc tc : Bool) (a b c e : Nat) (v : Int32) (w : Int64) (tb : List (Int32 × Nat)) (loc : pL) (st : List Value) (h : pH) : rO := match ins with
  | .istore _ => i1 st (fun x s => sto (mYl Y) loc a (κ fc nx (loc.set a (some (.int x))) s h))
  | .istore_n _ => i1 st (fun x s => sto (mYl Y) loc a (κ fc nx (loc.set a (some (.int x))) s h))
  | .astore _ => a1 st (fun x s => iA x (sto (mYl Y) loc a (κ fc nx (loc.set a (some x)) s h)))
  | .astore_n _ => a1 st (fun x s => iA x (sto (mYl Y) loc a (κ fc nx (loc.set a (some x)) s h)))
  | .lstore _ => j1 st (fun x s => stoJ (mYl Y) loc a (κ fc nx ((loc.set a (some (.long x))).set b none) s h))
  | .lstore_n _ => j1 st (fun x s => stoJ (mYl Y) loc a (κ fc nx ((loc.set a (some (.long x))).set b none) s h))
  | .iinc _ _ => ldI loc a (fun x => sto (mYl Y) loc a (κ fc nx (loc.set a (some (.int (x + v)))) st h))
  | _ => none
abbrev stp3 (S : sT) (call : cT) (Y : mY) (md : Nat) (ct : cL) (dfl : Nat → List Value) (κ : kT) (ins : Instr) (nx : Nat) (fc tc : Bool) (a b c e : Nat) (v : Int32) (w : Int64) (tb : List (Int32 × Nat)) (loc : pL) (st : List Value) (h : pH) : rO := match ins with
  | .iadd => i2 st (fun x y s => κ fc nx loc (.int (x + y) :: s) h)
  | .isub => i2 st (fun x y s => κ fc nx loc (.int (x - y) :: s) h)
  | .imul => i2 st (fun x y s => κ fc nx loc (.int (x * y) :: s) h)
  | .iand => i2 st (fun x y s => κ fc nx loc (.int (x &&& y) :: s) h)
  | .ior => i2 st (fun x y s => κ fc nx loc (.int (x ||| y) :: s) h)
  | .ixor => i2 st (fun x y s => κ fc nx loc (.int (x ^^^ y) :: s) h)
  | .ishl => i2 st (fun x y s => κ fc nx loc (.int (x <<< (y &&& 31)) :: s) h)
  | .ishr => i2 st (fun x y s => κ fc nx loc (.int (x >>> (y &&& 31)) :: s) h)
  | .iushr => i2 st (fun x y s => κ fc nx loc (.int ((x.toUInt32 >>> (y.toUInt32 &&& Int32.toUInt32 31)).toInt32) :: s) h)
  | .idiv => i2 st (fun x y s => dv y (κ fc nx loc (.int (x / y) :: s) h))
  | .irem => i2 st (fun x y s => dv y (κ fc nx loc (.int (x - x / y * y) :: s) h))
  | .ineg => i1 st (fun x s => κ fc nx loc (.int (-x) :: s) h)
  | _ => none
abbrev stp4 (S : sT) (call : cT) (Y : mY) (md : Nat) (ct : cL) (dfl : Nat → List Value) (κ : kT) (ins : Instr) (nx : Nat) (fc tc : Bool) (a b c e : Nat) (v : Int32) (w : Int64) (tb : List (Int32 × Nat)) (loc : pL) (st : List Value) (h : pH) : rO := match ins with
  | .ladd => j2 st (fun x y s => κ fc nx loc (.long (x + y) :: s) h)
  | .lsub => j2 st (fun x y s => κ fc nx loc (.long (x - y) :: s) h)
  | .lmul => j2 st (fun x y s => κ fc nx loc (.long (x * y) :: s) h)
  | .land => j2 st (fun x y s => κ fc nx loc (.long (x &&& y) :: s) h)
  | .lor => j2 st (fun x y s => κ fc nx loc (.long (x ||| y) :: s) h)
  | .ldiv => j2 st (fun x y s => dvJ y (κ fc nx loc (.long (x / y) :: s) h))
  | .lneg => j1 st (fun x s => κ fc nx loc (.long (-x) :: s) h)
  | .lcmp => j2 st (fun x y s => κ fc nx loc (.int (lg_cmp x y) :: s) h)
  | .i2l => i1 st (fun x s => κ fc nx loc (.long x.toInt64 :: s) h)
  | .l2i => j1 st (fun x s => κ fc nx loc (.int x.toInt32 :: s) h)
  | .i2b => i1 st (fun x s => κ fc nx loc (.int x.toInt8.toInt32 :: s) h)
  | .i2c => i1 st (fun x s => κ fc nx loc (.int (x.toUInt32 % 65536).toInt32 :: s) h)
  | .dup => a1 st (fun x s => nl x (κ fc nx loc (x :: x :: s) h))
  | .pop => a1 st (fun x s => nl x (κ fc nx loc s h))
  | .dup2 => (match c with
    | 0 => a1 st (fun x s => a1 s (fun y s => nl x (nl y (κ fc nx loc (x :: y :: x :: y :: s) h))))
    | _ => j1 st (fun x s => κ fc nx loc (.long x :: .long x :: s) h))
  | _ => none
abbrev stp5 (S : sT) (call : cT) (Y : mY) (md : Nat) (ct : cL) (dfl : Nat → List Value) (κ : kT) (ins : Instr) (nx : Nat) (fc tc : Bool) (a b c e : Nat) (v : Int32) (w : Int64) (tb : List (Int32 × Nat)) (loc : pL) (st : List Value) (h : pH) : rO := match ins with
  | .getfield _ => a1 st (fun o s => match c with
    | 0 => gI h o a b (fun x => κ fc nx loc (.int x :: s) h)
    | 1 => gV h o a b (fun x => κ fc nx loc (x :: s) h)
    | 2 => sCod o (fun x => κ fc nx loc (.int x :: s) h)
    | _ => sVal o (fun x => κ fc nx loc (x :: s) h))
  | .putfield _ => (match c with
    | 0 => i1 st (fun x s => a1 s (fun o s => pF h o a b (.int x) (fun h1 => κ fc nx loc s h1)))
    | 1 => i1 st (fun x s => a1 s (fun o s => pF h o a b (.int x) (fun h1 => κ fc nx loc s h1)))
    | 2 => i1 st (fun x s => zR x (a1 s (fun o s => pF h o a b (.int x) (fun h1 => κ fc nx loc s h1))))
    | 3 => a1 st (fun x s => iA x (a1 s (fun o s => pF h o a b x (fun h1 => κ fc nx loc s h1))))
    | _ => a1 st (fun x s => iA x (a1 s (fun o s => pF h o a b x (fun h1 => κ fc nx loc s h1)))))
  | .getstatic _ => (match c with
    | 0 => κ fc nx loc (.retAddr a :: st) h
    | 1 => κ fc nx loc (.int 1 :: st) h
    | _ => i2 st (fun i n s => ckI i n (h8 s (κ fc a loc s h))))
  | _ => none
abbrev stp6 (S : sT) (call : cT) (Y : mY) (md : Nat) (ct : cL) (dfl : Nat → List Value) (κ : kT) (ins : Instr) (nx : Nat) (fc tc : Bool) (a b c e : Nat) (v : Int32) (w : Int64) (tb : List (Int32 × Nat)) (loc : pL) (st : List Value) (h : pH) : rO := match ins with
  | .iaload => i1 st (fun i s => a1 s (fun o s => match c with
    | 0 => aI h o 0 i (fun x => κ fc nx loc (.int x :: s) h)
    | 1 => aO o i (fun x => κ fc nx loc (.int x :: s) h)
    | _ => xL S o i (fun x => κ fc nx loc (.int x :: s) h)))
  | .baload => i1 st (fun i s => a1 s (fun o s => match c with
    | 0 => aI h o 1 i (fun x => κ fc nx loc (.int x :: s) h)
    | 1 => aI h o 2 i (fun x => κ fc nx loc (.int x :: s) h)
    | _ => sByt o i (fun x => κ fc nx loc (.int x :: s) h)))
  | .laload => i1 st (fun i s => a1 s (fun o s => aJ h o i (fun x => κ fc nx loc (.long x :: s) h)))
  | .aaload => i1 st (fun i s => a1 s (fun o s => aT h o i (fun x => κ fc nx loc (x :: s) h)))
  | .iastore => i1 st (fun x s => i1 s (fun i s => a1 s (fun o s => sI h o 0 i x (fun h1 => κ fc nx loc s h1))))
  | .bastore => i1 st (fun x s => i1 s (fun i s => a1 s (fun o s => match c with
    | 0 => sI h o 1 i x.toInt8.toInt32 (fun h1 => κ fc nx loc s h1)
    | _ => sI h o 2 i (vp_nar .boolean x) (fun h1 => κ fc nx loc s h1))))
  | .lastore => j1 st (fun x s => i1 s (fun i s => a1 s (fun o s => sJ h o i x (fun h1 => κ fc nx loc s h1))))
  | .aastore => a1 st (fun x s => i1 s (fun i s => a1 s (fun o s => sTx h o i x (fun h1 => κ fc nx loc s h1))))
  | .arraylength => a1 st (fun o s => match c with
    | 0 => aLen h o (fun x => κ fc nx loc (.int x :: s) h)
    | 1 => sLen o (fun x => κ fc nx loc (.int x :: s) h)
    | _ => xN S o (fun x => κ fc nx loc (.int x :: s) h))
  | _ => none
abbrev stp7 (S : sT) (call : cT) (Y : mY) (md : Nat) (ct : cL) (dfl : Nat → List Value) (κ : kT) (ins : Instr) (nx : Nat) (fc tc : Bool) (a b c e : Nat) (v : Int32) (w : Int64) (tb : List (Int32 × Nat)) (loc : pL) (st : List Value) (h : pH) : rO := match ins with
  | .goto _ => κ tc a loc st h
  | .ifCond cd _ => i1 st (fun x s => bI cd x 0 (κ tc a loc s h) (κ fc nx loc s h))
  | .if_icmp cd _ => i2 st (fun x y s => bI cd x y (κ tc a loc s h) (κ fc nx loc s h))
  | .ifnull _ => a1 st (fun x s => iA x (nz x (κ tc a loc s h) (κ fc nx loc s h)))
  | .ifnonnull _ => a1 st (fun x s => iA x (nz x (κ fc nx loc s h) (κ tc a loc s h)))
  | .tableswitch _ _ _ _ => i1 st (fun x s => tsw x (κ true a loc s h) (fun t => κ true t loc s h) tb)
  | _ => none
abbrev stp8 (S : sT) (call : cT) (Y : mY) (md : Nat) (ct : cL) (dfl : Nat → List Value) (κ : kT) (ins : Instr) (nx : Nat) (fc tc : Bool) (a b c e : Nat) (v : Int32) (w : Int64) (tb : List (Int32 × Nat)) (loc : pL) (st : List Value) (h : pH) : rO := match ins with
  | .ireturn => i1 st (fun x s => z0 s (match c with
    | 0 => some (.inl (some (.int x)), h)
    | 1 => zR x (some (.inl (some (.int x)), h))
    | 2 => nR .byte x (some (.inl (some (.int x)), h))
    | _ => nR .char x (some (.inl (some (.int x)), h))))
  | .lreturn => j1 st (fun x s => z0 s (some (.inl (some (.long x)), h)))
  | .areturn => a1 st (fun x s => z0 s (iA x (some (.inl (some x), h))))
  | .return_ => z0 st (some (.inl none, h))
  | _ => none
abbrev stp9 (S : sT) (call : cT) (Y : mY) (md : Nat) (ct : cL) (dfl : Nat → List Value) (κ : kT) (ins : Instr) (nx : Nat) (fc tc : Bool) (a b c e : Nat) (v : Int32) (w : Int64) (tb : List (Int32 × Nat)) (loc : pL) (st : List Value) (h : pH) : rO := match ins with
  | .newarray _ => i1 st (fun n s => match c with
    | 3 => mkJ h n (fun h1 => κ fc nx loc (.ref h.length :: s) h1)
    | _ => mkI h c n (fun h1 => κ fc nx loc (.ref h.length :: s) h1))
  | .anewarray _ => i1 st (fun n s => mkT h n (fun h1 => κ fc nx loc (.ref h.length :: s) h1))
  | .new _ => (match c with
    | 0 => κ fc nx loc (.ref h.length :: st) (h ++ [.inr (a, dfl a)])
    | _ => h8 st (some (.inr (xnm a), h)))
  | _ => none
abbrev stp10 (S : sT) (call : cT) (Y : mY) (md : Nat) (ct : cL) (dfl : Nat → List Value) (κ : kT) (ins : Instr) (nx : Nat) (fc tc : Bool) (a b c e : Nat) (v : Int32) (w : Int64) (tb : List (Int32 × Nat)) (loc : pL) (st : List Value) (h : pH) : rO := match ins with
  | .invokevirtual _ => popA b st [] (fun av s => a1 s (fun o s => h8 s (match c with
    | 9 => rS0 o (cIx tN (call a (o :: av) h) (fun x h1 => κ fc nx loc (.int x :: s) h1))
    | _ => rC h o e (rtn md (thrH md (mYl Y) ct loc (κ true)) c (call a (o :: av) h) s (fun s1 h1 => κ fc nx loc s1 h1)))))
  | .invokestatic _ => (match e with
    | 2 => i2 st (fun dp n s => a1 s (fun o' s => i1 s (fun sp s => a1 s (fun o s => h8 s (cpI h o sp o' dp n (fun h1 => κ fc nx loc s h1))))))
    | 5 => i2 st (fun x y s => h8 s (κ fc nx loc (.int (if x < y then y else x) :: s) h))
    | 6 => i2 st (fun x y s => h8 s (κ fc nx loc (.int (if y < x then y else x) :: s) h))
    | 7 => j2 st (fun x y s => h8 s (κ fc nx loc (.long (if y < x then x else y) :: s) h))
    | 8 => j2 st (fun x y s => h8 s (κ fc nx loc (.long (if y < x then y else x) :: s) h))
    | 1 => popA b st [] (fun av s => h8 s (cIx tN (call a av h) (fun x h1 => κ fc nx loc (.int x :: s) h1)))
    | _ => popA b st [] (fun av s => h8 s (rtn md tN c (call a av h) s (fun s1 h1 => κ fc nx loc s1 h1))))
  | .invokespecial _ => (match e with
    | 1 => a1 st (fun o s => match o with | .ref _ => h8 s (κ fc nx loc s h) | _ => none)
    | _ => popA b st [] (fun av s => a1 s (fun o s => match o with
      | .ref _ => h8 s (cUx tN (call a (o :: av) h) (fun h1 => κ fc nx loc s h1))
      | _ => none)))
  | _ => none
abbrev tagI (ins : Instr) : Nat := match ins with
  | .iload _ | .iload_n _ | .lload _ | .lload_n _ | .aload _ | .aload_n _ => 0
  | .iconst _ | .bipush _ | .sipush _ | .lconst _ | .ldc2_w _ | .aconst_null | .ldc _ | .ldc_w _ => 1
  | .istore _ | .istore_n _ | .astore _ | .astore_n _ | .lstore _ | .lstore_n _ | .iinc _ _ => 2
  | .iadd | .isub | .imul | .iand | .ior | .ixor | .ishl | .ishr | .iushr | .idiv | .irem | .ineg => 3
  | .ladd | .lsub | .lmul | .land | .lor | .ldiv | .lneg | .lcmp | .i2l | .l2i | .i2b | .i2c | .dup | .pop | .dup2 => 4
  | .getfield _ | .putfield _ | .getstatic _ => 5
  | .iaload | .baload | .laload | .aaload | .iastore | .bastore | .lastore | .aastore | .arraylength => 6
  | .goto _ | .ifCond _ _ | .if_icmp _ _ | .ifnull _ | .ifnonnull _ | .tableswitch _ _ _ _ => 7
  | .ireturn | .lreturn | .areturn | .return_ => 8
  | .newarray _ | .anewarray _ | .new _ => 9
  | .invokevirtual _ | .invokestatic _ | .invokespecial _ => 10
  | _ => 99
/-- one instruction -/
abbrev stp (S : sT) (call : cT) (Y : mY) (md : Nat) (ct : cL) (dfl : Nat → List Value) (κ : kT) (ri : rI) (loc : pL) (st : List Value) (h : pH) : rO :=
  match ri with
  | (ins, nx, fc, tc, a, b, c, e, v, w, tb) => match tagI ins with
    | 0 => stp0 S call Y md ct dfl κ ins nx fc tc a b c e v w tb loc st h
    | 1 => stp1 S call Y md ct dfl κ ins nx fc tc a b c e v w tb loc st h
    | 2 => stp2 S call Y md ct dfl κ ins nx fc tc a b c e v w tb loc st h
    | 3 => stp3 S call Y md ct dfl κ ins nx fc tc a b c e v w tb loc st h
    | 4 => stp4 S call Y md ct dfl κ ins nx fc tc a b c e v w tb loc st h
    | 5 => stp5 S call Y md ct dfl κ ins nx fc tc a b c e v w tb loc st h
    | 6 => stp6 S call Y md ct dfl κ ins nx fc tc a b c e v w tb loc st h
    | 7 => stp7 S call Y md ct dfl κ ins nx fc tc a b c e v w tb loc st h
    | 8 => stp8 S call Y md ct dfl κ ins nx fc tc a b c e v w tb loc st h
    | 9 => stp9 S call Y md ct dfl κ ins nx fc tc a b c e v w tb loc st h
    | 10 => stp10 S call Y md ct dfl κ ins nx fc tc a b c e v w tb loc st h
    | _ => none
-- code
abbrev lk2 : List (Nat × rI) → Nat → Option rI
  | [], _ => none
  | (q, r) :: l, pc => match Nat.beq q pc with | true => some r | false => lk2 l pc
abbrev lk1 : List (Nat × List (Nat × rI)) → Nat → Option rI
  | [], _ => none
  | (q, l) :: ls, pc => match Nat.ble pc q with | true => lk2 l pc | false => lk1 ls pc
/-- a method: its name and code, its instructions, 0 plain, 1 with handlers, 2 the law; its handlers -/
abbrev mE : Type := mY × List (Nat × List (Nat × rI)) × Nat × cL
def sgm (S : sT) (call : cT) (dfl : Nat → List Value) (E : mE) (jmp : Nat → pL → List Value → pH → rO) : Nat → Nat → pL → List Value → pH → rO
  | 0 => fun _ _ _ _ => none
  | K + 1 => fun pc loc st h => match lk1 E.2.1 pc with
    | none => none
    | some ri => stp S call E.1 E.2.2.1 E.2.2.2 dfl (fun b pc' l' s' h' => match b with | true => jmp pc' l' s' h' | false => sgm S call dfl E jmp K pc' l' s' h') ri loc st h
def bd (S : sT) (call : cT) (dfl : Nat → List Value) (E : mE) : Nat → Nat → pL → List Value → pH → rO
  | 0 => fun _ _ _ _ => none
  | n + 1 => sgm S call dfl E (bd S call dfl E n) 1000
/-- how many loops a body may do -/
def FUL (md : Nat) : Nat := match md with | 0 => 100000 | 1 => 10 | _ => 2000
/-- a body with handlers only returns -/
def onlyR (md : Nat) (r : rO) : rO := match md with
  | 0 => r
  | _ => (match r with | some (.inl v, h) => some (.inl v, h) | _ => none)
def exec (S : sT) (M : List mE) (dfl : Nat → List Value) : Nat → cT
  | 0 => fun _ _ _ => none
  | d + 1 => fun k av h => match M[k]? with
    | none => none
    | some E => bif Nat.ble (lent av).length (mYl E.1) then onlyR E.2.2.1 (bd S (exec S M dfl d) dfl E (FUL E.2.2.1) 0 (lent av ++ List.replicate (mYl E.1 - (lent av).length) none) [] h) else none
end PureDefs
