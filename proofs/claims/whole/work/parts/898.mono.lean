/-! a deeper machine tells no less -/
section Mono
def le (a b : rO) : Prop := ∀ r, a = some r → b = some r
theorem le_r {a : rO} : le a a := fun _ e => e
theorem le_n {a : rO} : le none a := fun _ e => by cases e
variable {h : pH} {v v' w : Value} {st : List Value} {ci k t n m : Nat} {i x y z q : Int32} {j : Int64} {l : pL} {S : sT} {a b a' b' : rO} {cd : ClassFile.Cond}
theorem le_i1 {f g : Int32 → List Value → rO} (hf : ∀ z0 z1, le (f z0 z1) (g z0 z1)) : le (i1 st f) (i1 st g) := by
  intro r e
  unfold i1 at e ⊢
  repeat' split at e
  all_goals first | (cases e; done) | exact hf _ _ _ e | (simp -implicitDefEqProofs only [*]; exact hf _ _ _ e) | (simp_all; done)
theorem le_i2 {f g : Int32 → Int32 → List Value → rO} (hf : ∀ z0 z1 z2, le (f z0 z1 z2) (g z0 z1 z2)) : le (i2 st f) (i2 st g) := by
  intro r e
  unfold i2 at e ⊢
  repeat' split at e
  all_goals first | (cases e; done) | exact hf _ _ _ _ e | (simp -implicitDefEqProofs only [*]; exact hf _ _ _ _ e) | (simp_all; done)
theorem le_j1 {f g : Int64 → List Value → rO} (hf : ∀ z0 z1, le (f z0 z1) (g z0 z1)) : le (j1 st f) (j1 st g) := by
  intro r e
  unfold j1 at e ⊢
  repeat' split at e
  all_goals first | (cases e; done) | exact hf _ _ _ e | (simp -implicitDefEqProofs only [*]; exact hf _ _ _ e) | (simp_all; done)
theorem le_j2 {f g : Int64 → Int64 → List Value → rO} (hf : ∀ z0 z1 z2, le (f z0 z1 z2) (g z0 z1 z2)) : le (j2 st f) (j2 st g) := by
  intro r e
  unfold j2 at e ⊢
  repeat' split at e
  all_goals first | (cases e; done) | exact hf _ _ _ _ e | (simp -implicitDefEqProofs only [*]; exact hf _ _ _ _ e) | (simp_all; done)
theorem le_a1 {f g : Value → List Value → rO} (hf : ∀ z0 z1, le (f z0 z1) (g z0 z1)) : le (a1 st f) (a1 st g) := by
  intro r e
  unfold a1 at e ⊢
  repeat' split at e
  all_goals first | (cases e; done) | exact hf _ _ _ e | (simp -implicitDefEqProofs only [*]; exact hf _ _ _ e) | (simp_all; done)
theorem le_z0 {f g : rO} (hf : le f g) : le (z0 st f) (z0 st g) := by
  intro r e
  unfold z0 at e ⊢
  repeat' split at e
  all_goals first | (cases e; done) | exact hf  _ e | (simp -implicitDefEqProofs only [*]; exact hf  _ e) | (simp_all; done)
theorem le_iA {f g : rO} (hf : le f g) : le (iA v f) (iA v g) := by
  intro r e
  unfold iA at e ⊢
  repeat' split at e
  all_goals first | (cases e; done) | exact hf  _ e | (simp -implicitDefEqProofs only [*]; exact hf  _ e) | (simp_all; done)
theorem le_nl {f g : rO} (hf : le f g) : le (nl v f) (nl v g) := by
  intro r e
  unfold nl at e ⊢
  repeat' split at e
  all_goals first | (cases e; done) | exact hf  _ e | (simp -implicitDefEqProofs only [*]; exact hf  _ e) | (simp_all; done)
theorem le_ldI {f g : Int32 → rO} (hf : ∀ z0, le (f z0) (g z0)) : le (ldI l n f) (ldI l n g) := by
  intro r e
  unfold ldI at e ⊢
  repeat' split at e
  all_goals first | (cases e; done) | exact hf _ _ e | (simp -implicitDefEqProofs only [*]; exact hf _ _ e) | (simp_all; done)
theorem le_ldJ {f g : Int64 → rO} (hf : ∀ z0, le (f z0) (g z0)) : le (ldJ l n f) (ldJ l n g) := by
  intro r e
  unfold ldJ at e ⊢
  repeat' split at e
  all_goals first | (cases e; done) | exact hf _ _ e | (simp -implicitDefEqProofs only [*]; exact hf _ _ e) | (simp_all; done)
theorem le_ldA {f g : Value → rO} (hf : ∀ z, le (f z) (g z)) : le (ldA l n f) (ldA l n g) := by
  unfold ldA
  cases nth l n with
  | none => exact le_n
  | some v => exact le_iA (hf v)
theorem le_undO {o : Option Value} {f g : rO} (hf : le f g) : le (undO o f) (undO o g) := by
  cases o with
  | none => exact hf
  | some v => exact le_nl hf
theorem le_under {f g : rO} (hf : le f g) : le (under l n f) (under l n g) := by
  cases n with
  | zero => exact hf
  | succ j => exact le_undO hf
theorem le_sto {f g : rO} (hf : le f g) : le (sto m l n f) (sto m l n g) := by
  unfold sto
  cases Nat.blt n m && Nat.blt n l.length with
  | true => exact le_under hf
  | false => exact le_n
theorem le_stoJ {f g : rO} (hf : le f g) : le (stoJ m l n f) (stoJ m l n g) := by
  unfold stoJ
  cases Nat.blt (n + 1) m && Nat.blt (n + 1) l.length with
  | true => exact le_under hf
  | false => exact le_n
theorem le_h8f {f g : rO} (hf : le f g) : le (h8f st f) (h8f st g) := by
  intro r e
  unfold h8f at e ⊢
  repeat' split at e
  all_goals first | (cases e; done) | exact hf  _ e | (simp -implicitDefEqProofs only [*]; exact hf  _ e) | (simp_all; done)
theorem le_h8 {f g : rO} (hf : le f g) : le (h8 st f) (h8 st g) := by
  unfold h8
  cases Nat.ble st.length 4 with
  | true => exact hf
  | false => exact le_h8f hf
theorem le_popA {f g : List Value → List Value → rO} (hf : ∀ z0 z1, le (f z0 z1) (g z0 z1)) : ∀ (n : Nat) (st av : List Value), le (popA n st av f) (popA n st av g)
  | 0, st, av => hf av st
  | n + 1, [], av => le_n
  | n + 1, v :: st, av => le_popA hf n st (v :: av)
theorem le_dv {f g : rO} (hf : le f g) : le (dv i f) (dv i g) := by
  intro r e
  unfold dv at e ⊢
  repeat' split at e
  all_goals first | (cases e; done) | exact hf  _ e | (simp -implicitDefEqProofs only [*]; exact hf  _ e) | (simp_all; done)
theorem le_dvJ {f g : rO} (hf : le f g) : le (dvJ j f) (dvJ j g) := by
  intro r e
  unfold dvJ at e ⊢
  repeat' split at e
  all_goals first | (cases e; done) | exact hf  _ e | (simp -implicitDefEqProofs only [*]; exact hf  _ e) | (simp_all; done)
theorem le_zR {f g : rO} (hf : le f g) : le (zR i f) (zR i g) := by
  intro r e
  unfold zR at e ⊢
  repeat' split at e
  all_goals first | (cases e; done) | exact hf  _ e | (simp -implicitDefEqProofs only [*]; exact hf  _ e) | (simp_all; done)
theorem le_ckI {f g : rO} (hf : le f g) : le (ckI i x f) (ckI i x g) := by
  intro r e
  unfold ckI at e ⊢
  repeat' split at e
  all_goals first | (cases e; done) | exact hf  _ e | (simp -implicitDefEqProofs only [*]; exact hf  _ e) | (simp_all; done)
theorem le_gI {f g : Int32 → rO} (hf : ∀ z0, le (f z0) (g z0)) : le (gI h v ci k f) (gI h v ci k g) := by
  intro r e
  unfold gI at e ⊢
  repeat' split at e
  all_goals first | (cases e; done) | exact hf _ _ e | (simp -implicitDefEqProofs only [*]; exact hf _ _ e) | (simp_all; done)
theorem le_gV {f g : Value → rO} (hf : ∀ z0, le (f z0) (g z0)) : le (gV h v ci k f) (gV h v ci k g) := by
  intro r e
  unfold gV at e ⊢
  repeat' split at e
  all_goals first | (cases e; done) | exact hf _ _ e | (simp -implicitDefEqProofs only [*]; exact hf _ _ e) | (simp_all; done)
theorem le_pF {f g : pH → rO} (hf : ∀ z0, le (f z0) (g z0)) : le (pF h v ci k w f) (pF h v ci k w g) := by
  intro r e
  unfold pF at e ⊢
  repeat' split at e
  all_goals first | (cases e; done) | exact hf _ _ e | (simp -implicitDefEqProofs only [*]; exact hf _ _ e) | (simp_all; done)
theorem le_sCod {f g : Int32 → rO} (hf : ∀ z0, le (f z0) (g z0)) : le (sCod v f) (sCod v g) := by
  unfold sCod
  cases v <;> try exact le_n
  rename_i j
  dsimp only
  cases sIn j
  · exact le_n
  · exact hf _
theorem le_sVal {f g : Value → rO} (hf : ∀ z0, le (f z0) (g z0)) : le (sVal v f) (sVal v g) := by
  unfold sVal
  cases v <;> try exact le_n
  rename_i j
  dsimp only
  cases sIn j
  · exact le_n
  · exact hf _
theorem le_sByt {f g : Int32 → rO} (hf : ∀ z0, le (f z0) (g z0)) : le (sByt v i f) (sByt v i g) := by
  intro r e
  unfold sByt at e ⊢
  repeat' split at e
  all_goals first | (cases e; done) | exact hf _ _ e | (simp -implicitDefEqProofs only [*]; exact hf _ _ e) | (simp_all; done)
theorem le_sLen {f g : Int32 → rO} (hf : ∀ z0, le (f z0) (g z0)) : le (sLen v f) (sLen v g) := by
  intro r e
  unfold sLen at e ⊢
  repeat' split at e
  all_goals first | (cases e; done) | exact hf _ _ e | (simp -implicitDefEqProofs only [*]; exact hf _ _ e) | (simp_all; done)
theorem le_rS0 {f g : rO} (hf : le f g) : le (rS0 v f) (rS0 v g) := by
  unfold rS0
  cases v <;> try exact le_n
  rename_i j
  dsimp only
  cases sIn j
  · exact le_n
  · exact hf
theorem le_aI {f g : Int32 → rO} (hf : ∀ z0, le (f z0) (g z0)) : le (aI h v t i f) (aI h v t i g) := by
  intro r e
  unfold aI at e ⊢
  repeat' split at e
  all_goals first | (cases e; done) | exact hf _ _ e | (simp -implicitDefEqProofs only [*]; exact hf _ _ e) | (simp_all; done)
theorem le_aJ {f g : Int64 → rO} (hf : ∀ z0, le (f z0) (g z0)) : le (aJ h v i f) (aJ h v i g) := by
  intro r e
  unfold aJ at e ⊢
  repeat' split at e
  all_goals first | (cases e; done) | exact hf _ _ e | (simp -implicitDefEqProofs only [*]; exact hf _ _ e) | (simp_all; done)
theorem le_aT {f g : Value → rO} (hf : ∀ z0, le (f z0) (g z0)) : le (aT h v i f) (aT h v i g) := by
  intro r e
  unfold aT at e ⊢
  repeat' split at e
  all_goals first | (cases e; done) | exact hf _ _ e | (simp -implicitDefEqProofs only [*]; exact hf _ _ e) | (simp_all; done)
theorem le_aO {f g : Int32 → rO} (hf : ∀ z0, le (f z0) (g z0)) : le (aO v i f) (aO v i g) := by
  intro r e
  unfold aO at e ⊢
  repeat' split at e
  all_goals first | (cases e; done) | exact hf _ _ e | (simp -implicitDefEqProofs only [*]; exact hf _ _ e) | (simp_all; done)
theorem le_xL {f g : Int32 → rO} (hf : ∀ z0, le (f z0) (g z0)) : le (xL S v i f) (xL S v i g) := by
  intro r e
  unfold xL at e ⊢
  repeat' split at e
  all_goals first | (cases e; done) | exact hf _ _ e | (simp -implicitDefEqProofs only [*]; exact hf _ _ e) | (simp_all; done)
theorem le_xN {f g : Int32 → rO} (hf : ∀ z0, le (f z0) (g z0)) : le (xN S v f) (xN S v g) := by
  intro r e
  unfold xN at e ⊢
  repeat' split at e
  all_goals first | (cases e; done) | exact hf _ _ e | (simp -implicitDefEqProofs only [*]; exact hf _ _ e) | (simp_all; done)
theorem le_aLen {f g : Int32 → rO} (hf : ∀ z0, le (f z0) (g z0)) : le (aLen h v f) (aLen h v g) := by
  intro r e
  unfold aLen at e ⊢
  repeat' split at e
  all_goals first | (cases e; done) | exact hf _ _ e | (simp -implicitDefEqProofs only [*]; exact hf _ _ e) | (simp_all; done)
theorem le_sI {f g : pH → rO} (hf : ∀ z0, le (f z0) (g z0)) : le (sI h v t i x f) (sI h v t i x g) := by
  intro r e
  unfold sI at e ⊢
  repeat' split at e
  all_goals first | (cases e; done) | exact hf _ _ e | (simp -implicitDefEqProofs only [*]; exact hf _ _ e) | (simp_all; done)
theorem le_sJ {f g : pH → rO} (hf : ∀ z0, le (f z0) (g z0)) : le (sJ h v i j f) (sJ h v i j g) := by
  intro r e
  unfold sJ at e ⊢
  repeat' split at e
  all_goals first | (cases e; done) | exact hf _ _ e | (simp -implicitDefEqProofs only [*]; exact hf _ _ e) | (simp_all; done)
theorem le_sTx {f g : pH → rO} (hf : ∀ z0, le (f z0) (g z0)) : le (sTx h v i w f) (sTx h v i w g) := by
  intro r e
  unfold sTx at e ⊢
  repeat' split at e
  all_goals first | (cases e; done) | exact hf _ _ e | (simp -implicitDefEqProofs only [*]; exact hf _ _ e) | (simp_all; done)
theorem le_cpI {f g : pH → rO} (hf : ∀ z0, le (f z0) (g z0)) : le (cpI h v i v' x y f) (cpI h v i v' x y g) := by
  intro r e
  unfold cpI at e ⊢
  repeat' split at e
  all_goals first | (cases e; done) | exact hf _ _ e | (simp -implicitDefEqProofs only [*]; exact hf _ _ e) | (simp_all; done)
theorem le_mkI {f g : pH → rO} (hf : ∀ z0, le (f z0) (g z0)) : le (mkI h t i f) (mkI h t i g) := by
  intro r e
  unfold mkI at e ⊢
  repeat' split at e
  all_goals first | (cases e; done) | exact hf _ _ e | (simp -implicitDefEqProofs only [*]; exact hf _ _ e) | (simp_all; done)
theorem le_mkJ {f g : pH → rO} (hf : ∀ z0, le (f z0) (g z0)) : le (mkJ h i f) (mkJ h i g) := by
  intro r e
  unfold mkJ at e ⊢
  repeat' split at e
  all_goals first | (cases e; done) | exact hf _ _ e | (simp -implicitDefEqProofs only [*]; exact hf _ _ e) | (simp_all; done)
theorem le_mkT {f g : pH → rO} (hf : ∀ z0, le (f z0) (g z0)) : le (mkT h i f) (mkT h i g) := by
  intro r e
  unfold mkT at e ⊢
  repeat' split at e
  all_goals first | (cases e; done) | exact hf _ _ e | (simp -implicitDefEqProofs only [*]; exact hf _ _ e) | (simp_all; done)
theorem le_rC {f g : rO} (hf : le f g) : le (rC h v ci f) (rC h v ci g) := by
  intro r e
  unfold rC at e ⊢
  repeat' split at e
  all_goals first | (cases e; done) | exact hf  _ e | (simp -implicitDefEqProofs only [*]; exact hf  _ e) | (simp_all; done)
theorem le_nz (ha : le a a') (hb : le b b') : le (nz v a b) (nz v a' b') := by
  unfold nz
  cases v <;> assumption
theorem le_bI (ha : le a a') (hb : le b b') : le (bI cd i x a b) (bI cd i x a' b') := by
  unfold bI
  cases cd <;> (dsimp only; split <;> assumption)
theorem le_tsw {f g : Nat → rO} (ha : le a a') (hf : ∀ z, le (f z) (g z)) : ∀ tb : List (Int32 × Nat), le (tsw i a f tb) (tsw i a' g tb)
  | [] => ha
  | (y, t) :: l => by
    unfold tsw
    split
    · exact hf t
    · exact le_tsw ha hf l
theorem le_cI {f g : Int32 → pH → rO} (ha : le a b) (hf : ∀ z0 z1, le (f z0 z1) (g z0 z1)) : le (cI a f) (cI b g) := by
  cases a with
  | none => exact le_n
  | some r =>
    rw [ha r rfl]
    intro r e
    unfold cI at e ⊢
    repeat' split at e
    all_goals first | (cases e; done) | exact hf _ _ _ e | exact e | (simp -implicitDefEqProofs only [*]; exact hf _ _ _ e) | (simp_all; done)
theorem le_cJ {f g : Int64 → pH → rO} (ha : le a b) (hf : ∀ z0 z1, le (f z0 z1) (g z0 z1)) : le (cJ a f) (cJ b g) := by
  cases a with
  | none => exact le_n
  | some r =>
    rw [ha r rfl]
    intro r e
    unfold cJ at e ⊢
    repeat' split at e
    all_goals first | (cases e; done) | exact hf _ _ _ e | exact e | (simp -implicitDefEqProofs only [*]; exact hf _ _ _ e) | (simp_all; done)
theorem le_cA {f g : Value → pH → rO} (ha : le a b) (hf : ∀ z0 z1, le (f z0 z1) (g z0 z1)) : le (cA a f) (cA b g) := by
  cases a with
  | none => exact le_n
  | some r =>
    rw [ha r rfl]
    intro r e
    unfold cA at e ⊢
    repeat' split at e
    all_goals first | (cases e; done) | exact hf _ _ _ e | exact e | (simp -implicitDefEqProofs only [*]; exact hf _ _ _ e) | (simp_all; done)
theorem le_cU {f g : pH → rO} (ha : le a b) (hf : ∀ z0, le (f z0) (g z0)) : le (cU a f) (cU b g) := by
  cases a with
  | none => exact le_n
  | some r =>
    rw [ha r rfl]
    intro r e
    unfold cU at e ⊢
    repeat' split at e
    all_goals first | (cases e; done) | exact hf _ _ e | exact e | (simp -implicitDefEqProofs only [*]; exact hf _ _ _ e) | (simp_all; done)
theorem le_cIx {p q : String → pH → rO} {f g : Int32 → pH → rO} (hp : ∀ z0 z1, le (p z0 z1) (q z0 z1)) (ha : le a b) (hf : ∀ z0 z1, le (f z0 z1) (g z0 z1)) : le (cIx p a f) (cIx q b g) := by
  cases a with
  | none => exact le_n
  | some r =>
    rw [ha r rfl]
    intro r e
    unfold cIx at e ⊢
    repeat' split at e
    all_goals first | (cases e; done) | exact hf _ _ _ e | exact hp _ _ _ e | (simp_all; done)
theorem le_cUx {p q : String → pH → rO} {f g : pH → rO} (hp : ∀ z0 z1, le (p z0 z1) (q z0 z1)) (ha : le a b) (hf : ∀ z0, le (f z0) (g z0)) : le (cUx p a f) (cUx q b g) := by
  cases a with
  | none => exact le_n
  | some r =>
    rw [ha r rfl]
    intro r e
    unfold cUx at e ⊢
    repeat' split at e
    all_goals first | (cases e; done) | exact hf _ _ e | exact hp _ _ _ e | (simp_all; done)
theorem le_rtn {p q : String → pH → rO} {f g : List Value → pH → rO} {md c : Nat} {s : List Value} (hp : ∀ z0 z1, le (p z0 z1) (q z0 z1)) (ha : le a b) (hf : ∀ z0 z1, le (f z0 z1) (g z0 z1)) : le (rtn md p c a s f) (rtn md q c b s g) := by
  unfold rtn
  split
  · split
    · exact le_cU ha (fun _ => hf _ _)
    · exact le_cI ha (fun _ _ => hf _ _)
    · exact le_cJ ha (fun _ _ => hf _ _)
    · exact le_cA ha (fun _ _ => hf _ _)
  · split
    · exact le_cUx hp ha (fun _ => hf _ _)
    · exact le_cIx hp ha (fun _ _ => hf _ _)
theorem le_thr {md : Nat} {ct : cL} {f g : Nat → pL → List Value → pH → rO} (hf : ∀ z0 z1 z2 z3, le (f z0 z1 z2 z3) (g z0 z1 z2 z3)) (E : String) (h1 : pH) : le (thrH md n ct l f E h1) (thrH md n ct l g E h1) := by
  unfold thrH
  split
  · split
    · exact le_sto (hf _ _ _ _)
    · exact le_n
  · exact le_n
variable {call call' : cT} {Y : mY} {md : Nat} {ct : cL} {dfl : Nat → List Value} {κ κ' : kT}
theorem le_s0 (hc : ∀ z0 z1 z2, le (call z0 z1 z2) (call' z0 z1 z2)) (hk : ∀ z0 z1 z2 z3 z4, le (κ z0 z1 z2 z3 z4) (κ' z0 z1 z2 z3 z4)) (ins : Instr) (nx : Nat) (fc tc : Bool) (a b c e : Nat) (v : Int32) (w : Int64) (tb : List (Int32 × Nat)) (loc : pL) (st : List Value) (h : pH) : le (stp0 S call Y md ct dfl κ ins nx fc tc a b c e v w tb loc st h) (stp0 S call' Y md ct dfl κ' ins nx fc tc a b c e v w tb loc st h) := by
  unfold stp0
  split
  all_goals first | exact le_n | skip
  all_goals try dsimp only
  all_goals (repeat' (first | exact le_r | exact le_n | exact hk _ _ _ _ _ | refine le_rtn (le_thr (fun _ _ _ _ => hk _ _ _ _ _)) (hc _ _ _) (fun _ _ => ?_) | refine le_rtn (fun _ _ => le_r) (hc _ _ _) (fun _ _ => ?_) | refine le_cIx (fun _ _ => le_r) (hc _ _ _) (fun _ _ => ?_) | refine le_cUx (fun _ _ => le_r) (hc _ _ _) (fun _ => ?_) | refine le_h8 ?_ | refine le_z0 ?_ | refine le_iA ?_ | refine le_nl ?_ | refine le_sto ?_ | refine le_stoJ ?_ | refine le_dv ?_ | refine le_dvJ ?_ | refine le_zR ?_ | refine le_ckI ?_ | refine le_rS0 ?_ | refine le_rC ?_ | refine le_ldI (fun _ => ?_) | refine le_ldJ (fun _ => ?_) | refine le_ldA (fun _ => ?_) | refine le_gI (fun _ => ?_) | refine le_gV (fun _ => ?_) | refine le_pF (fun _ => ?_) | refine le_sCod (fun _ => ?_) | refine le_sVal (fun _ => ?_) | refine le_sByt (fun _ => ?_) | refine le_sLen (fun _ => ?_) | refine le_aI (fun _ => ?_) | refine le_aJ (fun _ => ?_) | refine le_aT (fun _ => ?_) | refine le_aO (fun _ => ?_) | refine le_xL (fun _ => ?_) | refine le_xN (fun _ => ?_) | refine le_aLen (fun _ => ?_) | refine le_sI (fun _ => ?_) | refine le_sJ (fun _ => ?_) | refine le_sTx (fun _ => ?_) | refine le_cpI (fun _ => ?_) | refine le_mkI (fun _ => ?_) | refine le_mkJ (fun _ => ?_) | refine le_mkT (fun _ => ?_) | refine le_i1 (fun _ _ => ?_) | refine le_j1 (fun _ _ => ?_) | refine le_a1 (fun _ _ => ?_) | refine le_i2 (fun _ _ _ => ?_) | refine le_j2 (fun _ _ _ => ?_) | refine le_popA (fun _ _ => ?_) _ _ _ | refine le_nz ?_ ?_ | refine le_bI ?_ ?_ | refine le_tsw ?_ (fun _ => ?_) _ | split))
theorem le_s1 (hc : ∀ z0 z1 z2, le (call z0 z1 z2) (call' z0 z1 z2)) (hk : ∀ z0 z1 z2 z3 z4, le (κ z0 z1 z2 z3 z4) (κ' z0 z1 z2 z3 z4)) (ins : Instr) (nx : Nat) (fc tc : Bool) (a b c e : Nat) (v : Int32) (w : Int64) (tb : List (Int32 × Nat)) (loc : pL) (st : List Value) (h : pH) : le (stp1 S call Y md ct dfl κ ins nx fc tc a b c e v w tb loc st h) (stp1 S call' Y md ct dfl κ' ins nx fc tc a b c e v w tb loc st h) := by
  unfold stp1
  split
  all_goals first | exact le_n | skip
  all_goals try dsimp only
  all_goals (repeat' (first | exact le_r | exact le_n | exact hk _ _ _ _ _ | refine le_rtn (le_thr (fun _ _ _ _ => hk _ _ _ _ _)) (hc _ _ _) (fun _ _ => ?_) | refine le_rtn (fun _ _ => le_r) (hc _ _ _) (fun _ _ => ?_) | refine le_cIx (fun _ _ => le_r) (hc _ _ _) (fun _ _ => ?_) | refine le_cUx (fun _ _ => le_r) (hc _ _ _) (fun _ => ?_) | refine le_h8 ?_ | refine le_z0 ?_ | refine le_iA ?_ | refine le_nl ?_ | refine le_sto ?_ | refine le_stoJ ?_ | refine le_dv ?_ | refine le_dvJ ?_ | refine le_zR ?_ | refine le_ckI ?_ | refine le_rS0 ?_ | refine le_rC ?_ | refine le_ldI (fun _ => ?_) | refine le_ldJ (fun _ => ?_) | refine le_ldA (fun _ => ?_) | refine le_gI (fun _ => ?_) | refine le_gV (fun _ => ?_) | refine le_pF (fun _ => ?_) | refine le_sCod (fun _ => ?_) | refine le_sVal (fun _ => ?_) | refine le_sByt (fun _ => ?_) | refine le_sLen (fun _ => ?_) | refine le_aI (fun _ => ?_) | refine le_aJ (fun _ => ?_) | refine le_aT (fun _ => ?_) | refine le_aO (fun _ => ?_) | refine le_xL (fun _ => ?_) | refine le_xN (fun _ => ?_) | refine le_aLen (fun _ => ?_) | refine le_sI (fun _ => ?_) | refine le_sJ (fun _ => ?_) | refine le_sTx (fun _ => ?_) | refine le_cpI (fun _ => ?_) | refine le_mkI (fun _ => ?_) | refine le_mkJ (fun _ => ?_) | refine le_mkT (fun _ => ?_) | refine le_i1 (fun _ _ => ?_) | refine le_j1 (fun _ _ => ?_) | refine le_a1 (fun _ _ => ?_) | refine le_i2 (fun _ _ _ => ?_) | refine le_j2 (fun _ _ _ => ?_) | refine le_popA (fun _ _ => ?_) _ _ _ | refine le_nz ?_ ?_ | refine le_bI ?_ ?_ | refine le_tsw ?_ (fun _ => ?_) _ | split))
theorem le_s2 (hc : ∀ z0 z1 z2, le (call z0 z1 z2) (call' z0 z1 z2)) (hk : ∀ z0 z1 z2 z3 z4, le (κ z0 z1 z2 z3 z4) (κ' z0 z1 z2 z3 z4)) (ins : Instr) (nx : Nat) (fc tc : Bool) (a b c e : Nat) (v : Int32) (w : Int64) (tb : List (Int32 × Nat)) (loc : pL) (st : List Value) (h : pH) : le (stp2 S call Y md ct dfl κ ins nx fc tc a b c e v w tb loc st h) (stp2 S call' Y md ct dfl κ' ins nx fc tc a b c e v w tb loc st h) := by
  unfold stp2
  split
  all_goals first | exact le_n | skip
  all_goals try dsimp only
  all_goals (repeat' (first | exact le_r | exact le_n | exact hk _ _ _ _ _ | refine le_rtn (le_thr (fun _ _ _ _ => hk _ _ _ _ _)) (hc _ _ _) (fun _ _ => ?_) | refine le_rtn (fun _ _ => le_r) (hc _ _ _) (fun _ _ => ?_) | refine le_cIx (fun _ _ => le_r) (hc _ _ _) (fun _ _ => ?_) | refine le_cUx (fun _ _ => le_r) (hc _ _ _) (fun _ => ?_) | refine le_h8 ?_ | refine le_z0 ?_ | refine le_iA ?_ | refine le_nl ?_ | refine le_sto ?_ | refine le_stoJ ?_ | refine le_dv ?_ | refine le_dvJ ?_ | refine le_zR ?_ | refine le_ckI ?_ | refine le_rS0 ?_ | refine le_rC ?_ | refine le_ldI (fun _ => ?_) | refine le_ldJ (fun _ => ?_) | refine le_ldA (fun _ => ?_) | refine le_gI (fun _ => ?_) | refine le_gV (fun _ => ?_) | refine le_pF (fun _ => ?_) | refine le_sCod (fun _ => ?_) | refine le_sVal (fun _ => ?_) | refine le_sByt (fun _ => ?_) | refine le_sLen (fun _ => ?_) | refine le_aI (fun _ => ?_) | refine le_aJ (fun _ => ?_) | refine le_aT (fun _ => ?_) | refine le_aO (fun _ => ?_) | refine le_xL (fun _ => ?_) | refine le_xN (fun _ => ?_) | refine le_aLen (fun _ => ?_) | refine le_sI (fun _ => ?_) | refine le_sJ (fun _ => ?_) | refine le_sTx (fun _ => ?_) | refine le_cpI (fun _ => ?_) | refine le_mkI (fun _ => ?_) | refine le_mkJ (fun _ => ?_) | refine le_mkT (fun _ => ?_) | refine le_i1 (fun _ _ => ?_) | refine le_j1 (fun _ _ => ?_) | refine le_a1 (fun _ _ => ?_) | refine le_i2 (fun _ _ _ => ?_) | refine le_j2 (fun _ _ _ => ?_) | refine le_popA (fun _ _ => ?_) _ _ _ | refine le_nz ?_ ?_ | refine le_bI ?_ ?_ | refine le_tsw ?_ (fun _ => ?_) _ | split))
theorem le_s3 (hc : ∀ z0 z1 z2, le (call z0 z1 z2) (call' z0 z1 z2)) (hk : ∀ z0 z1 z2 z3 z4, le (κ z0 z1 z2 z3 z4) (κ' z0 z1 z2 z3 z4)) (ins : Instr) (nx : Nat) (fc tc : Bool) (a b c e : Nat) (v : Int32) (w : Int64) (tb : List (Int32 × Nat)) (loc : pL) (st : List Value) (h : pH) : le (stp3 S call Y md ct dfl κ ins nx fc tc a b c e v w tb loc st h) (stp3 S call' Y md ct dfl κ' ins nx fc tc a b c e v w tb loc st h) := by
  unfold stp3
  split
  all_goals first | exact le_n | skip
  all_goals try dsimp only
  all_goals (repeat' (first | exact le_r | exact le_n | exact hk _ _ _ _ _ | refine le_rtn (le_thr (fun _ _ _ _ => hk _ _ _ _ _)) (hc _ _ _) (fun _ _ => ?_) | refine le_rtn (fun _ _ => le_r) (hc _ _ _) (fun _ _ => ?_) | refine le_cIx (fun _ _ => le_r) (hc _ _ _) (fun _ _ => ?_) | refine le_cUx (fun _ _ => le_r) (hc _ _ _) (fun _ => ?_) | refine le_h8 ?_ | refine le_z0 ?_ | refine le_iA ?_ | refine le_nl ?_ | refine le_sto ?_ | refine le_stoJ ?_ | refine le_dv ?_ | refine le_dvJ ?_ | refine le_zR ?_ | refine le_ckI ?_ | refine le_rS0 ?_ | refine le_rC ?_ | refine le_ldI (fun _ => ?_) | refine le_ldJ (fun _ => ?_) | refine le_ldA (fun _ => ?_) | refine le_gI (fun _ => ?_) | refine le_gV (fun _ => ?_) | refine le_pF (fun _ => ?_) | refine le_sCod (fun _ => ?_) | refine le_sVal (fun _ => ?_) | refine le_sByt (fun _ => ?_) | refine le_sLen (fun _ => ?_) | refine le_aI (fun _ => ?_) | refine le_aJ (fun _ => ?_) | refine le_aT (fun _ => ?_) | refine le_aO (fun _ => ?_) | refine le_xL (fun _ => ?_) | refine le_xN (fun _ => ?_) | refine le_aLen (fun _ => ?_) | refine le_sI (fun _ => ?_) | refine le_sJ (fun _ => ?_) | refine le_sTx (fun _ => ?_) | refine le_cpI (fun _ => ?_) | refine le_mkI (fun _ => ?_) | refine le_mkJ (fun _ => ?_) | refine le_mkT (fun _ => ?_) | refine le_i1 (fun _ _ => ?_) | refine le_j1 (fun _ _ => ?_) | refine le_a1 (fun _ _ => ?_) | refine le_i2 (fun _ _ _ => ?_) | refine le_j2 (fun _ _ _ => ?_) | refine le_popA (fun _ _ => ?_) _ _ _ | refine le_nz ?_ ?_ | refine le_bI ?_ ?_ | refine le_tsw ?_ (fun _ => ?_) _ | split))
theorem le_s4 (hc : ∀ z0 z1 z2, le (call z0 z1 z2) (call' z0 z1 z2)) (hk : ∀ z0 z1 z2 z3 z4, le (κ z0 z1 z2 z3 z4) (κ' z0 z1 z2 z3 z4)) (ins : Instr) (nx : Nat) (fc tc : Bool) (a b c e : Nat) (v : Int32) (w : Int64) (tb : List (Int32 × Nat)) (loc : pL) (st : List Value) (h : pH) : le (stp4 S call Y md ct dfl κ ins nx fc tc a b c e v w tb loc st h) (stp4 S call' Y md ct dfl κ' ins nx fc tc a b c e v w tb loc st h) := by
  unfold stp4
  split
  all_goals first | exact le_n | skip
  all_goals try dsimp only
  all_goals (repeat' (first | exact le_r | exact le_n | exact hk _ _ _ _ _ | refine le_rtn (le_thr (fun _ _ _ _ => hk _ _ _ _ _)) (hc _ _ _) (fun _ _ => ?_) | refine le_rtn (fun _ _ => le_r) (hc _ _ _) (fun _ _ => ?_) | refine le_cIx (fun _ _ => le_r) (hc _ _ _) (fun _ _ => ?_) | refine le_cUx (fun _ _ => le_r) (hc _ _ _) (fun _ => ?_) | refine le_h8 ?_ | refine le_z0 ?_ | refine le_iA ?_ | refine le_nl ?_ | refine le_sto ?_ | refine le_stoJ ?_ | refine le_dv ?_ | refine le_dvJ ?_ | refine le_zR ?_ | refine le_ckI ?_ | refine le_rS0 ?_ | refine le_rC ?_ | refine le_ldI (fun _ => ?_) | refine le_ldJ (fun _ => ?_) | refine le_ldA (fun _ => ?_) | refine le_gI (fun _ => ?_) | refine le_gV (fun _ => ?_) | refine le_pF (fun _ => ?_) | refine le_sCod (fun _ => ?_) | refine le_sVal (fun _ => ?_) | refine le_sByt (fun _ => ?_) | refine le_sLen (fun _ => ?_) | refine le_aI (fun _ => ?_) | refine le_aJ (fun _ => ?_) | refine le_aT (fun _ => ?_) | refine le_aO (fun _ => ?_) | refine le_xL (fun _ => ?_) | refine le_xN (fun _ => ?_) | refine le_aLen (fun _ => ?_) | refine le_sI (fun _ => ?_) | refine le_sJ (fun _ => ?_) | refine le_sTx (fun _ => ?_) | refine le_cpI (fun _ => ?_) | refine le_mkI (fun _ => ?_) | refine le_mkJ (fun _ => ?_) | refine le_mkT (fun _ => ?_) | refine le_i1 (fun _ _ => ?_) | refine le_j1 (fun _ _ => ?_) | refine le_a1 (fun _ _ => ?_) | refine le_i2 (fun _ _ _ => ?_) | refine le_j2 (fun _ _ _ => ?_) | refine le_popA (fun _ _ => ?_) _ _ _ | refine le_nz ?_ ?_ | refine le_bI ?_ ?_ | refine le_tsw ?_ (fun _ => ?_) _ | split))
theorem le_s5 (hc : ∀ z0 z1 z2, le (call z0 z1 z2) (call' z0 z1 z2)) (hk : ∀ z0 z1 z2 z3 z4, le (κ z0 z1 z2 z3 z4) (κ' z0 z1 z2 z3 z4)) (ins : Instr) (nx : Nat) (fc tc : Bool) (a b c e : Nat) (v : Int32) (w : Int64) (tb : List (Int32 × Nat)) (loc : pL) (st : List Value) (h : pH) : le (stp5 S call Y md ct dfl κ ins nx fc tc a b c e v w tb loc st h) (stp5 S call' Y md ct dfl κ' ins nx fc tc a b c e v w tb loc st h) := by
  unfold stp5
  split
  all_goals first | exact le_n | skip
  all_goals try dsimp only
  all_goals (repeat' (first | exact le_r | exact le_n | exact hk _ _ _ _ _ | refine le_rtn (le_thr (fun _ _ _ _ => hk _ _ _ _ _)) (hc _ _ _) (fun _ _ => ?_) | refine le_rtn (fun _ _ => le_r) (hc _ _ _) (fun _ _ => ?_) | refine le_cIx (fun _ _ => le_r) (hc _ _ _) (fun _ _ => ?_) | refine le_cUx (fun _ _ => le_r) (hc _ _ _) (fun _ => ?_) | refine le_h8 ?_ | refine le_z0 ?_ | refine le_iA ?_ | refine le_nl ?_ | refine le_sto ?_ | refine le_stoJ ?_ | refine le_dv ?_ | refine le_dvJ ?_ | refine le_zR ?_ | refine le_ckI ?_ | refine le_rS0 ?_ | refine le_rC ?_ | refine le_ldI (fun _ => ?_) | refine le_ldJ (fun _ => ?_) | refine le_ldA (fun _ => ?_) | refine le_gI (fun _ => ?_) | refine le_gV (fun _ => ?_) | refine le_pF (fun _ => ?_) | refine le_sCod (fun _ => ?_) | refine le_sVal (fun _ => ?_) | refine le_sByt (fun _ => ?_) | refine le_sLen (fun _ => ?_) | refine le_aI (fun _ => ?_) | refine le_aJ (fun _ => ?_) | refine le_aT (fun _ => ?_) | refine le_aO (fun _ => ?_) | refine le_xL (fun _ => ?_) | refine le_xN (fun _ => ?_) | refine le_aLen (fun _ => ?_) | refine le_sI (fun _ => ?_) | refine le_sJ (fun _ => ?_) | refine le_sTx (fun _ => ?_) | refine le_cpI (fun _ => ?_) | refine le_mkI (fun _ => ?_) | refine le_mkJ (fun _ => ?_) | refine le_mkT (fun _ => ?_) | refine le_i1 (fun _ _ => ?_) | refine le_j1 (fun _ _ => ?_) | refine le_a1 (fun _ _ => ?_) | refine le_i2 (fun _ _ _ => ?_) | refine le_j2 (fun _ _ _ => ?_) | refine le_popA (fun _ _ => ?_) _ _ _ | refine le_nz ?_ ?_ | refine le_bI ?_ ?_ | refine le_tsw ?_ (fun _ => ?_) _ | split))
theorem le_s6 (hc : ∀ z0 z1 z2, le (call z0 z1 z2) (call' z0 z1 z2)) (hk : ∀ z0 z1 z2 z3 z4, le (κ z0 z1 z2 z3 z4) (κ' z0 z1 z2 z3 z4)) (ins : Instr) (nx : Nat) (fc tc : Bool) (a b c e : Nat) (v : Int32) (w : Int64) (tb : List (Int32 × Nat)) (loc : pL) (st : List Value) (h : pH) : le (stp6 S call Y md ct dfl κ ins nx fc tc a b c e v w tb loc st h) (stp6 S call' Y md ct dfl κ' ins nx fc tc a b c e v w tb loc st h) := by
  unfold stp6
  split
  all_goals first | exact le_n | skip
  all_goals try dsimp only
  all_goals (repeat' (first | exact le_r | exact le_n | exact hk _ _ _ _ _ | refine le_rtn (le_thr (fun _ _ _ _ => hk _ _ _ _ _)) (hc _ _ _) (fun _ _ => ?_) | refine le_rtn (fun _ _ => le_r) (hc _ _ _) (fun _ _ => ?_) | refine le_cIx (fun _ _ => le_r) (hc _ _ _) (fun _ _ => ?_) | refine le_cUx (fun _ _ => le_r) (hc _ _ _) (fun _ => ?_) | refine le_h8 ?_ | refine le_z0 ?_ | refine le_iA ?_ | refine le_nl ?_ | refine le_sto ?_ | refine le_stoJ ?_ | refine le_dv ?_ | refine le_dvJ ?_ | refine le_zR ?_ | refine le_ckI ?_ | refine le_rS0 ?_ | refine le_rC ?_ | refine le_ldI (fun _ => ?_) | refine le_ldJ (fun _ => ?_) | refine le_ldA (fun _ => ?_) | refine le_gI (fun _ => ?_) | refine le_gV (fun _ => ?_) | refine le_pF (fun _ => ?_) | refine le_sCod (fun _ => ?_) | refine le_sVal (fun _ => ?_) | refine le_sByt (fun _ => ?_) | refine le_sLen (fun _ => ?_) | refine le_aI (fun _ => ?_) | refine le_aJ (fun _ => ?_) | refine le_aT (fun _ => ?_) | refine le_aO (fun _ => ?_) | refine le_xL (fun _ => ?_) | refine le_xN (fun _ => ?_) | refine le_aLen (fun _ => ?_) | refine le_sI (fun _ => ?_) | refine le_sJ (fun _ => ?_) | refine le_sTx (fun _ => ?_) | refine le_cpI (fun _ => ?_) | refine le_mkI (fun _ => ?_) | refine le_mkJ (fun _ => ?_) | refine le_mkT (fun _ => ?_) | refine le_i1 (fun _ _ => ?_) | refine le_j1 (fun _ _ => ?_) | refine le_a1 (fun _ _ => ?_) | refine le_i2 (fun _ _ _ => ?_) | refine le_j2 (fun _ _ _ => ?_) | refine le_popA (fun _ _ => ?_) _ _ _ | refine le_nz ?_ ?_ | refine le_bI ?_ ?_ | refine le_tsw ?_ (fun _ => ?_) _ | split))
theorem le_s7 (hc : ∀ z0 z1 z2, le (call z0 z1 z2) (call' z0 z1 z2)) (hk : ∀ z0 z1 z2 z3 z4, le (κ z0 z1 z2 z3 z4) (κ' z0 z1 z2 z3 z4)) (ins : Instr) (nx : Nat) (fc tc : Bool) (a b c e : Nat) (v : Int32) (w : Int64) (tb : List (Int32 × Nat)) (loc : pL) (st : List Value) (h : pH) : le (stp7 S call Y md ct dfl κ ins nx fc tc a b c e v w tb loc st h) (stp7 S call' Y md ct dfl κ' ins nx fc tc a b c e v w tb loc st h) := by
  unfold stp7
  split
  all_goals first | exact le_n | skip
  all_goals try dsimp only
  all_goals (repeat' (first | exact le_r | exact le_n | exact hk _ _ _ _ _ | refine le_rtn (le_thr (fun _ _ _ _ => hk _ _ _ _ _)) (hc _ _ _) (fun _ _ => ?_) | refine le_rtn (fun _ _ => le_r) (hc _ _ _) (fun _ _ => ?_) | refine le_cIx (fun _ _ => le_r) (hc _ _ _) (fun _ _ => ?_) | refine le_cUx (fun _ _ => le_r) (hc _ _ _) (fun _ => ?_) | refine le_h8 ?_ | refine le_z0 ?_ | refine le_iA ?_ | refine le_nl ?_ | refine le_sto ?_ | refine le_stoJ ?_ | refine le_dv ?_ | refine le_dvJ ?_ | refine le_zR ?_ | refine le_ckI ?_ | refine le_rS0 ?_ | refine le_rC ?_ | refine le_ldI (fun _ => ?_) | refine le_ldJ (fun _ => ?_) | refine le_ldA (fun _ => ?_) | refine le_gI (fun _ => ?_) | refine le_gV (fun _ => ?_) | refine le_pF (fun _ => ?_) | refine le_sCod (fun _ => ?_) | refine le_sVal (fun _ => ?_) | refine le_sByt (fun _ => ?_) | refine le_sLen (fun _ => ?_) | refine le_aI (fun _ => ?_) | refine le_aJ (fun _ => ?_) | refine le_aT (fun _ => ?_) | refine le_aO (fun _ => ?_) | refine le_xL (fun _ => ?_) | refine le_xN (fun _ => ?_) | refine le_aLen (fun _ => ?_) | refine le_sI (fun _ => ?_) | refine le_sJ (fun _ => ?_) | refine le_sTx (fun _ => ?_) | refine le_cpI (fun _ => ?_) | refine le_mkI (fun _ => ?_) | refine le_mkJ (fun _ => ?_) | refine le_mkT (fun _ => ?_) | refine le_i1 (fun _ _ => ?_) | refine le_j1 (fun _ _ => ?_) | refine le_a1 (fun _ _ => ?_) | refine le_i2 (fun _ _ _ => ?_) | refine le_j2 (fun _ _ _ => ?_) | refine le_popA (fun _ _ => ?_) _ _ _ | refine le_nz ?_ ?_ | refine le_bI ?_ ?_ | refine le_tsw ?_ (fun _ => ?_) _ | split))
theorem le_s8 (hc : ∀ z0 z1 z2, le (call z0 z1 z2) (call' z0 z1 z2)) (hk : ∀ z0 z1 z2 z3 z4, le (κ z0 z1 z2 z3 z4) (κ' z0 z1 z2 z3 z4)) (ins : Instr) (nx : Nat) (fc tc : Bool) (a b c e : Nat) (v : Int32) (w : Int64) (tb : List (Int32 × Nat)) (loc : pL) (st : List Value) (h : pH) : le (stp8 S call Y md ct dfl κ ins nx fc tc a b c e v w tb loc st h) (stp8 S call' Y md ct dfl κ' ins nx fc tc a b c e v w tb loc st h) := by
  unfold stp8
  split
  all_goals first | exact le_n | skip
  all_goals try dsimp only
  all_goals (repeat' (first | exact le_r | exact le_n | exact hk _ _ _ _ _ | refine le_rtn (le_thr (fun _ _ _ _ => hk _ _ _ _ _)) (hc _ _ _) (fun _ _ => ?_) | refine le_rtn (fun _ _ => le_r) (hc _ _ _) (fun _ _ => ?_) | refine le_cIx (fun _ _ => le_r) (hc _ _ _) (fun _ _ => ?_) | refine le_cUx (fun _ _ => le_r) (hc _ _ _) (fun _ => ?_) | refine le_h8 ?_ | refine le_z0 ?_ | refine le_iA ?_ | refine le_nl ?_ | refine le_sto ?_ | refine le_stoJ ?_ | refine le_dv ?_ | refine le_dvJ ?_ | refine le_zR ?_ | refine le_ckI ?_ | refine le_rS0 ?_ | refine le_rC ?_ | refine le_ldI (fun _ => ?_) | refine le_ldJ (fun _ => ?_) | refine le_ldA (fun _ => ?_) | refine le_gI (fun _ => ?_) | refine le_gV (fun _ => ?_) | refine le_pF (fun _ => ?_) | refine le_sCod (fun _ => ?_) | refine le_sVal (fun _ => ?_) | refine le_sByt (fun _ => ?_) | refine le_sLen (fun _ => ?_) | refine le_aI (fun _ => ?_) | refine le_aJ (fun _ => ?_) | refine le_aT (fun _ => ?_) | refine le_aO (fun _ => ?_) | refine le_xL (fun _ => ?_) | refine le_xN (fun _ => ?_) | refine le_aLen (fun _ => ?_) | refine le_sI (fun _ => ?_) | refine le_sJ (fun _ => ?_) | refine le_sTx (fun _ => ?_) | refine le_cpI (fun _ => ?_) | refine le_mkI (fun _ => ?_) | refine le_mkJ (fun _ => ?_) | refine le_mkT (fun _ => ?_) | refine le_i1 (fun _ _ => ?_) | refine le_j1 (fun _ _ => ?_) | refine le_a1 (fun _ _ => ?_) | refine le_i2 (fun _ _ _ => ?_) | refine le_j2 (fun _ _ _ => ?_) | refine le_popA (fun _ _ => ?_) _ _ _ | refine le_nz ?_ ?_ | refine le_bI ?_ ?_ | refine le_tsw ?_ (fun _ => ?_) _ | split))
theorem le_s9 (hc : ∀ z0 z1 z2, le (call z0 z1 z2) (call' z0 z1 z2)) (hk : ∀ z0 z1 z2 z3 z4, le (κ z0 z1 z2 z3 z4) (κ' z0 z1 z2 z3 z4)) (ins : Instr) (nx : Nat) (fc tc : Bool) (a b c e : Nat) (v : Int32) (w : Int64) (tb : List (Int32 × Nat)) (loc : pL) (st : List Value) (h : pH) : le (stp9 S call Y md ct dfl κ ins nx fc tc a b c e v w tb loc st h) (stp9 S call' Y md ct dfl κ' ins nx fc tc a b c e v w tb loc st h) := by
  unfold stp9
  split
  all_goals first | exact le_n | skip
  all_goals try dsimp only
  all_goals (repeat' (first | exact le_r | exact le_n | exact hk _ _ _ _ _ | refine le_rtn (le_thr (fun _ _ _ _ => hk _ _ _ _ _)) (hc _ _ _) (fun _ _ => ?_) | refine le_rtn (fun _ _ => le_r) (hc _ _ _) (fun _ _ => ?_) | refine le_cIx (fun _ _ => le_r) (hc _ _ _) (fun _ _ => ?_) | refine le_cUx (fun _ _ => le_r) (hc _ _ _) (fun _ => ?_) | refine le_h8 ?_ | refine le_z0 ?_ | refine le_iA ?_ | refine le_nl ?_ | refine le_sto ?_ | refine le_stoJ ?_ | refine le_dv ?_ | refine le_dvJ ?_ | refine le_zR ?_ | refine le_ckI ?_ | refine le_rS0 ?_ | refine le_rC ?_ | refine le_ldI (fun _ => ?_) | refine le_ldJ (fun _ => ?_) | refine le_ldA (fun _ => ?_) | refine le_gI (fun _ => ?_) | refine le_gV (fun _ => ?_) | refine le_pF (fun _ => ?_) | refine le_sCod (fun _ => ?_) | refine le_sVal (fun _ => ?_) | refine le_sByt (fun _ => ?_) | refine le_sLen (fun _ => ?_) | refine le_aI (fun _ => ?_) | refine le_aJ (fun _ => ?_) | refine le_aT (fun _ => ?_) | refine le_aO (fun _ => ?_) | refine le_xL (fun _ => ?_) | refine le_xN (fun _ => ?_) | refine le_aLen (fun _ => ?_) | refine le_sI (fun _ => ?_) | refine le_sJ (fun _ => ?_) | refine le_sTx (fun _ => ?_) | refine le_cpI (fun _ => ?_) | refine le_mkI (fun _ => ?_) | refine le_mkJ (fun _ => ?_) | refine le_mkT (fun _ => ?_) | refine le_i1 (fun _ _ => ?_) | refine le_j1 (fun _ _ => ?_) | refine le_a1 (fun _ _ => ?_) | refine le_i2 (fun _ _ _ => ?_) | refine le_j2 (fun _ _ _ => ?_) | refine le_popA (fun _ _ => ?_) _ _ _ | refine le_nz ?_ ?_ | refine le_bI ?_ ?_ | refine le_tsw ?_ (fun _ => ?_) _ | split))
theorem le_s10 (hc : ∀ z0 z1 z2, le (call z0 z1 z2) (call' z0 z1 z2)) (hk : ∀ z0 z1 z2 z3 z4, le (κ z0 z1 z2 z3 z4) (κ' z0 z1 z2 z3 z4)) (ins : Instr) (nx : Nat) (fc tc : Bool) (a b c e : Nat) (v : Int32) (w : Int64) (tb : List (Int32 × Nat)) (loc : pL) (st : List Value) (h : pH) : le (stp10 S call Y md ct dfl κ ins nx fc tc a b c e v w tb loc st h) (stp10 S call' Y md ct dfl κ' ins nx fc tc a b c e v w tb loc st h) := by
  unfold stp10
  split
  all_goals first | exact le_n | skip
  all_goals try dsimp only
  all_goals (repeat' (first | exact le_r | exact le_n | exact hk _ _ _ _ _ | refine le_rtn (le_thr (fun _ _ _ _ => hk _ _ _ _ _)) (hc _ _ _) (fun _ _ => ?_) | refine le_rtn (fun _ _ => le_r) (hc _ _ _) (fun _ _ => ?_) | refine le_cIx (fun _ _ => le_r) (hc _ _ _) (fun _ _ => ?_) | refine le_cUx (fun _ _ => le_r) (hc _ _ _) (fun _ => ?_) | refine le_h8 ?_ | refine le_z0 ?_ | refine le_iA ?_ | refine le_nl ?_ | refine le_sto ?_ | refine le_stoJ ?_ | refine le_dv ?_ | refine le_dvJ ?_ | refine le_zR ?_ | refine le_ckI ?_ | refine le_rS0 ?_ | refine le_rC ?_ | refine le_ldI (fun _ => ?_) | refine le_ldJ (fun _ => ?_) | refine le_ldA (fun _ => ?_) | refine le_gI (fun _ => ?_) | refine le_gV (fun _ => ?_) | refine le_pF (fun _ => ?_) | refine le_sCod (fun _ => ?_) | refine le_sVal (fun _ => ?_) | refine le_sByt (fun _ => ?_) | refine le_sLen (fun _ => ?_) | refine le_aI (fun _ => ?_) | refine le_aJ (fun _ => ?_) | refine le_aT (fun _ => ?_) | refine le_aO (fun _ => ?_) | refine le_xL (fun _ => ?_) | refine le_xN (fun _ => ?_) | refine le_aLen (fun _ => ?_) | refine le_sI (fun _ => ?_) | refine le_sJ (fun _ => ?_) | refine le_sTx (fun _ => ?_) | refine le_cpI (fun _ => ?_) | refine le_mkI (fun _ => ?_) | refine le_mkJ (fun _ => ?_) | refine le_mkT (fun _ => ?_) | refine le_i1 (fun _ _ => ?_) | refine le_j1 (fun _ _ => ?_) | refine le_a1 (fun _ _ => ?_) | refine le_i2 (fun _ _ _ => ?_) | refine le_j2 (fun _ _ _ => ?_) | refine le_popA (fun _ _ => ?_) _ _ _ | refine le_nz ?_ ?_ | refine le_bI ?_ ?_ | refine le_tsw ?_ (fun _ => ?_) _ | split))
theorem le_stp (hc : ∀ z0 z1 z2, le (call z0 z1 z2) (call' z0 z1 z2)) (hk : ∀ z0 z1 z2 z3 z4, le (κ z0 z1 z2 z3 z4) (κ' z0 z1 z2 z3 z4)) (ri : rI) (loc : pL) (st : List Value) (h : pH) : le (stp S call Y md ct dfl κ ri loc st h) (stp S call' Y md ct dfl κ' ri loc st h) := by
  obtain ⟨ins, nx, fc, tc, a, b, c, e, v, w, tb⟩ := ri
  unfold stp
  dsimp only
  split
  · exact le_s0 hc hk _ _ _ _ _ _ _ _ _ _ _ _ _ _
  · exact le_s1 hc hk _ _ _ _ _ _ _ _ _ _ _ _ _ _
  · exact le_s2 hc hk _ _ _ _ _ _ _ _ _ _ _ _ _ _
  · exact le_s3 hc hk _ _ _ _ _ _ _ _ _ _ _ _ _ _
  · exact le_s4 hc hk _ _ _ _ _ _ _ _ _ _ _ _ _ _
  · exact le_s5 hc hk _ _ _ _ _ _ _ _ _ _ _ _ _ _
  · exact le_s6 hc hk _ _ _ _ _ _ _ _ _ _ _ _ _ _
  · exact le_s7 hc hk _ _ _ _ _ _ _ _ _ _ _ _ _ _
  · exact le_s8 hc hk _ _ _ _ _ _ _ _ _ _ _ _ _ _
  · exact le_s9 hc hk _ _ _ _ _ _ _ _ _ _ _ _ _ _
  · exact le_s10 hc hk _ _ _ _ _ _ _ _ _ _ _ _ _ _
  · exact le_n
theorem le_sgm {E : mE} {jmp jmp' : Nat → pL → List Value → pH → rO} (hc : ∀ z0 z1 z2, le (call z0 z1 z2) (call' z0 z1 z2)) (hj : ∀ z0 z1 z2 z3, le (jmp z0 z1 z2 z3) (jmp' z0 z1 z2 z3)) : ∀ (K pc : Nat) (loc : pL) (st : List Value) (h : pH), le (sgm S call dfl E jmp K pc loc st h) (sgm S call' dfl E jmp' K pc loc st h) := by
  intro K
  induction K with
  | zero => intro pc loc st h; exact le_n
  | succ K ih =>
    intro pc loc st h
    unfold sgm
    cases lk1 E.2.1 pc with
    | none => exact le_n
    | some ri =>
      refine le_stp hc (fun b pc' l' s' h' => ?_) ri loc st h
      cases b with
      | true => exact hj _ _ _ _
      | false => exact ih _ _ _ _
theorem le_bd {E : mE} (hc : ∀ z0 z1 z2, le (call z0 z1 z2) (call' z0 z1 z2)) : ∀ (n pc : Nat) (loc : pL) (st : List Value) (h : pH), le (bd S call dfl E n pc loc st h) (bd S call' dfl E n pc loc st h) := by
  intro n
  induction n with
  | zero => intro pc loc st h; exact le_n
  | succ n ih => intro pc loc st h; exact le_sgm hc (fun pc l s h => ih pc l s h) 1000 pc loc st h
theorem le_oR {r r' : rO} (hr : le r r') : le (onlyR md r) (onlyR md r') := by
  unfold onlyR
  split
  · exact hr
  · cases r with
    | none => exact le_n
    | some z => rw [hr z rfl]; exact le_r
theorem le_exec {M : List mE} : ∀ (d k : Nat) (av : List Value) (h : pH), le (exec S M dfl d k av h) (exec S M dfl (d + 1) k av h) := by
  intro d
  induction d with
  | zero => intro k av h; exact le_n
  | succ d ih =>
    intro k av h
    rw [exec, exec]
    dsimp only
    cases M[k]? with
    | none => exact le_n
    | some E =>
      dsimp only
      cases Nat.ble (lent av).length (mYl E.1) with
      | false => exact le_n
      | true => exact le_oR (le_bd ih _ _ _ _ _)
theorem ex_up {d k : Nat} {av : List Value} {h : pH} {r : rS × pH} (H : ex S d k av h = some r) : ex S (d + 1) k av h = some r := le_exec d k av h r H
end Mono
