/-! COMBINATORS: what a method does, as a function of the pure heap that may fail; each with the rule that holds it against the machine -/
section Comb
abbrev rO : Type := Option (rS × pH)
/-- a field that is an int -/
def gI (h : pH) (v : Value) (ci k : Nat) (κ : Int32 → rO) : rO := match v with
  | .ref a => match h[a]? with
    | some (.inr (c, fs)) => if c = ci then (match fs[k]? with | some (.int x) => κ x | _ => none) else none
    | _ => none
  | _ => none
/-- a field that is a reference -/
def gV (h : pH) (v : Value) (ci k : Nat) (κ : Value → rO) : rO := match v with
  | .ref a => match h[a]? with
    | some (.inr (c, fs)) => if c = ci then (match fs[k]? with | some w => if isRv w = true then κ w else none | _ => none) else none
    | _ => none
  | _ => none
/-- a field is written -/
def pF (h : pH) (v : Value) (ci k : Nat) (w : Value) (κ : pH → rO) : rO := match v with
  | .ref a => match h[a]? with
    | some (.inr (c, fs)) => if c = ci ∧ k < fs.length then κ (h.set a (.inr (ci, fs.set k w))) else none
    | _ => none
  | _ => none
/-- what an array of kind t holds -/
def aI (h : pH) (v : Value) (t : Nat) (i : Int32) (κ : Int32 → rO) : rO := match v with
  | .ref a => match h[a]? with
    | some (.inl (u, n, .inl f)) => if u = t ∧ ¬ (i < 0 ∨ n ≤ i.toNatClampNeg) then κ (f i.toNatClampNeg) else none
    | _ => none
  | _ => none
def aJ (h : pH) (v : Value) (i : Int32) (κ : Int64 → rO) : rO := match v with
  | .ref a => match h[a]? with
    | some (.inl (u, n, .inr (.inl f))) => if u = 3 ∧ ¬ (i < 0 ∨ n ≤ i.toNatClampNeg) then κ (f i.toNatClampNeg) else none
    | _ => none
  | _ => none
def aT (h : pH) (v : Value) (i : Int32) (κ : Value → rO) : rO := match v with
  | .ref a => match h[a]? with
    | some (.inl (u, n, .inr (.inr (.inr (.inr f))))) => if u = 4 ∧ ¬ (i < 0 ∨ n ≤ i.toNatClampNeg) then κ (va_rf (f i.toNatClampNeg)) else none
    | _ => none
  | _ => none
/-- a static array -/
def aO (v : Value) (i : Int32) (κ : Int32 → rO) : rO := match v with
  | .retAddr (j + 1) => match statT[j]? with
    | some q => if ¬ (i < 0 ∨ q.2.2.length ≤ i.toNatClampNeg) then κ (q.2.2.getD i.toNatClampNeg 0) else none
    | none => none
  | _ => none
/-- an array's place is written -/
def sI (h : pH) (v : Value) (t : Nat) (i x : Int32) (κ : pH → rO) : rO := match v with
  | .ref a => match h[a]? with
    | some (.inl (u, n, .inl f)) => if u = t ∧ ¬ (i < 0 ∨ n ≤ i.toNatClampNeg) then κ (h.set a (.inl (t, n, .inl (upd f i.toNatClampNeg x)))) else none
    | _ => none
  | _ => none
def sJ (h : pH) (v : Value) (i : Int32) (x : Int64) (κ : pH → rO) : rO := match v with
  | .ref a => match h[a]? with
    | some (.inl (u, n, .inr (.inl f))) => if u = 3 ∧ ¬ (i < 0 ∨ n ≤ i.toNatClampNeg) then κ (h.set a (.inl (3, n, .inr (.inl (vp_updL f i.toNatClampNeg x))))) else none
    | _ => none
  | _ => none
def aLen (h : pH) (v : Value) (κ : Int32 → rO) : rO := match v with
  | .ref a => match h[a]? with
    | some (.inl (u, x)) => if u < 5 then κ (nI x.1) else none
    | _ => none
  | _ => none
/-- behind a call: its answer, or what it threw -/
def cI (r : rO) (κ : Int32 → pH → rO) : rO := match r with
  | some (.inl (some (.int x)), h1) => κ x h1
  | some (.inr E, h1) => some (.inr E, h1)
  | _ => none
def cJ (r : rO) (κ : Int64 → pH → rO) : rO := match r with
  | some (.inl (some (.long x)), h1) => κ x h1
  | some (.inr E, h1) => some (.inr E, h1)
  | _ => none
def cA (r : rO) (κ : Value → pH → rO) : rO := match r with
  | some (.inl (some w), h1) => if isRv w = true then κ w h1 else none
  | some (.inr E, h1) => some (.inr E, h1)
  | _ => none
def cU (r : rO) (κ : pH → rO) : rO := match r with
  | some (.inl none, h1) => κ h1
  | some (.inr E, h1) => some (.inr E, h1)
  | _ => none
/-- the thing that a call goes to is of a class -/
def rC (h : pH) (v : Value) (ci : Nat) (κ : rO) : rO := match v with
  | .ref a => match h[a]? with
    | some (.inr (c, _)) => if c = ci then κ else none
    | _ => none
  | _ => none
variable {G : gC} {d mc ms : Nat} {Y : mY} {pc : Nat} {loc : List (Option Value)} {st : List Value} {h h' : pH} {R : rS}
theorem gI_x {v : Value} {ci k : Nat} {κ : Int32 → rO} {z : rS × pH} (H : gI h v ci k κ = some z) : ∃ a fs x, v = .ref a ∧ h[a]? = some (.inr (ci, fs)) ∧ fs[k]? = some (.int x) ∧ κ x = some z := by
  unfold gI at H
  split at H <;> try cases H
  split at H <;> try cases H
  split at H <;> try cases H
  split at H <;> try cases H
  rename_i a _ c fs ha hc _ x hx
  subst hc
  exact ⟨a, fs, x, rfl, ha, hx, H⟩
theorem gV_x {v : Value} {ci k : Nat} {κ : Value → rO} {z : rS × pH} (H : gV h v ci k κ = some z) : ∃ a fs x, v = .ref a ∧ h[a]? = some (.inr (ci, fs)) ∧ fs[k]? = some x ∧ isRv x = true ∧ κ x = some z := by
  unfold gV at H
  split at H <;> try cases H
  split at H <;> try cases H
  split at H <;> try cases H
  split at H <;> try cases H
  split at H <;> try cases H
  rename_i a _ c fs ha hc _ x hx hr
  subst hc
  exact ⟨a, fs, x, rfl, ha, hx, hr, H⟩
theorem pF_x {v w : Value} {ci k : Nat} {κ : pH → rO} {z : rS × pH} (H : pF h v ci k w κ = some z) : ∃ a fs, v = .ref a ∧ h[a]? = some (.inr (ci, fs)) ∧ k < fs.length ∧ κ (h.set a (.inr (ci, fs.set k w))) = some z := by
  unfold pF at H
  split at H <;> try cases H
  split at H <;> try cases H
  split at H <;> try cases H
  rename_i a _ c fs ha hc
  obtain ⟨hc, hk⟩ := hc
  subst hc
  exact ⟨a, fs, rfl, ha, hk, H⟩
theorem aI_x {v : Value} {t : Nat} {i : Int32} {κ : Int32 → rO} {z : rS × pH} (H : aI h v t i κ = some z) : ∃ a n f, v = .ref a ∧ h[a]? = some (.inl (t, n, .inl f)) ∧ vp_in i n ∧ κ (f i.toNatClampNeg) = some z := by
  unfold aI at H
  split at H <;> try cases H
  split at H <;> try cases H
  split at H <;> try cases H
  rename_i a _ u n f ha hc
  obtain ⟨hc, hi⟩ := hc
  subst hc
  exact ⟨a, n, f, rfl, ha, hi, H⟩
theorem aJ_x {v : Value} {i : Int32} {κ : Int64 → rO} {z : rS × pH} (H : aJ h v i κ = some z) : ∃ a n f, v = .ref a ∧ h[a]? = some (.inl (3, n, .inr (.inl f))) ∧ vp_in i n ∧ κ (f i.toNatClampNeg) = some z := by
  unfold aJ at H
  split at H <;> try cases H
  split at H <;> try cases H
  split at H <;> try cases H
  rename_i a _ u n f ha hc
  obtain ⟨hc, hi⟩ := hc
  subst hc
  exact ⟨a, n, f, rfl, ha, hi, H⟩
theorem aT_x {v : Value} {i : Int32} {κ : Value → rO} {z : rS × pH} (H : aT h v i κ = some z) : ∃ a n f, v = .ref a ∧ h[a]? = some (.inl (4, n, .inr (.inr (.inr (.inr f))))) ∧ vp_in i n ∧ κ (va_rf (f i.toNatClampNeg)) = some z := by
  unfold aT at H
  split at H <;> try cases H
  split at H <;> try cases H
  split at H <;> try cases H
  rename_i a _ u n f ha hc
  obtain ⟨hc, hi⟩ := hc
  subst hc
  exact ⟨a, n, f, rfl, ha, hi, H⟩
theorem aO_x {v : Value} {i : Int32} {κ : Int32 → rO} {z : rS × pH} (H : aO v i κ = some z) : ∃ j q, v = .retAddr (1 + j) ∧ statT[j]? = some q ∧ vp_in i q.2.2.length ∧ κ (q.2.2.getD i.toNatClampNeg 0) = some z := by
  unfold aO at H
  split at H <;> try cases H
  split at H <;> try cases H
  split at H <;> try cases H
  rename_i j _ q hq hi
  exact ⟨j, q, by rw [Nat.add_comm], hq, hi, H⟩
theorem sI_x {v : Value} {t : Nat} {i x : Int32} {κ : pH → rO} {z : rS × pH} (H : sI h v t i x κ = some z) : ∃ a n f, v = .ref a ∧ h[a]? = some (.inl (t, n, .inl f)) ∧ vp_in i n ∧ κ (h.set a (.inl (t, n, .inl (upd f i.toNatClampNeg x)))) = some z := by
  unfold sI at H
  split at H <;> try cases H
  split at H <;> try cases H
  split at H <;> try cases H
  rename_i a _ u n f ha hc
  obtain ⟨hc, hi⟩ := hc
  subst hc
  exact ⟨a, n, f, rfl, ha, hi, H⟩
theorem sJ_x {v : Value} {i : Int32} {x : Int64} {κ : pH → rO} {z : rS × pH} (H : sJ h v i x κ = some z) : ∃ a n f, v = .ref a ∧ h[a]? = some (.inl (3, n, .inr (.inl f))) ∧ vp_in i n ∧ κ (h.set a (.inl (3, n, .inr (.inl (vp_updL f i.toNatClampNeg x))))) = some z := by
  unfold sJ at H
  split at H <;> try cases H
  split at H <;> try cases H
  split at H <;> try cases H
  rename_i a _ u n f ha hc
  obtain ⟨hc, hi⟩ := hc
  subst hc
  exact ⟨a, n, f, rfl, ha, hi, H⟩
theorem rC_x {v : Value} {ci : Nat} {κ : rO} {z : rS × pH} (H : rC h v ci κ = some z) : ∃ a fs, v = .ref a ∧ h[a]? = some (.inr (ci, fs)) ∧ κ = some z := by
  unfold rC at H
  split at H
  · split at H
    · split at H
      · rename_i a _ c fs ha hc
        subst hc
        exact ⟨a, fs, rfl, ha, H⟩
      · cases H
    · cases H
  · cases H
-- rules
theorem d_gI {idx ci k : Nat} {v : Value} {ty : FieldType} {fin : Bool} {κ : Int32 → rO} (hd : decode (mYc Y) pc = .ok (.getfield idx, 3)) (F : FL (mYn Y).cls idx ci k ty fin) (H : gI h v ci k κ = some (R, h')) (kk : ∀ x, κ x = some (R, h') → Go G d mc ms Y (pc + 3) loc (.int x :: st) h R h') : Go G d mc ms Y pc loc (v :: st) h R h' := by
  obtain ⟨a, fs, x, rfl, ha, hx, H⟩ := gI_x H
  exact go_getfield hd F ha hx (kk x H)
theorem d_gV {idx ci k : Nat} {v : Value} {ty : FieldType} {fin : Bool} {κ : Value → rO} (hd : decode (mYc Y) pc = .ok (.getfield idx, 3)) (F : FL (mYn Y).cls idx ci k ty fin) (H : gV h v ci k κ = some (R, h')) (kk : ∀ x, isRv x = true → κ x = some (R, h') → Go G d mc ms Y (pc + 3) loc (x :: st) h R h') : Go G d mc ms Y pc loc (v :: st) h R h' := by
  obtain ⟨a, fs, x, rfl, ha, hx, hr, H⟩ := gV_x H
  exact go_getfield hd F ha hx (kk x hr H)
theorem d_pI {idx ci k : Nat} {v : Value} {x : Int32} {κ : pH → rO} (hd : decode (mYc Y) pc = .ok (.putfield idx, 3)) (F : FL (mYn Y).cls idx ci k .int false) (H : pF h v ci k (.int x) κ = some (R, h')) (kk : ∀ h1, κ h1 = some (R, h') → Go G d mc ms Y (pc + 3) loc st h1 R h') : Go G d mc ms Y pc loc (.int x :: v :: st) h R h' := by
  obtain ⟨a, fs, rfl, ha, hk, H⟩ := pF_x H
  exact go_putfield hd F ha hk (fun _ => rfl) (fun _ => rfl) (kk _ H)
theorem d_aI {v : Value} {i : Int32} {κ : Int32 → rO} (hd : decode (mYc Y) pc = .ok (.iaload, 1)) (H : aI h v 0 i κ = some (R, h')) (kk : ∀ x, κ x = some (R, h') → Go G d mc ms Y (pc + 1) loc (.int x :: st) h R h') : Go G d mc ms Y pc loc (.int i :: v :: st) h R h' := by
  obtain ⟨a, n, f, rfl, ha, hi, H⟩ := aI_x H
  exact go_iaload hd ha hi (kk _ H)
theorem d_aB {v : Value} {i : Int32} {κ : Int32 → rO} (hd : decode (mYc Y) pc = .ok (.baload, 1)) (H : aI h v 1 i κ = some (R, h')) (kk : ∀ x, κ x = some (R, h') → Go G d mc ms Y (pc + 1) loc (.int x :: st) h R h') : Go G d mc ms Y pc loc (.int i :: v :: st) h R h' := by
  obtain ⟨a, n, f, rfl, ha, hi, H⟩ := aI_x H
  exact go_baload hd ha hi (kk _ H)
theorem d_aZ {v : Value} {i : Int32} {κ : Int32 → rO} (hd : decode (mYc Y) pc = .ok (.baload, 1)) (H : aI h v 2 i κ = some (R, h')) (kk : ∀ x, κ x = some (R, h') → Go G d mc ms Y (pc + 1) loc (.int x :: st) h R h') : Go G d mc ms Y pc loc (.int i :: v :: st) h R h' := by
  obtain ⟨a, n, f, rfl, ha, hi, H⟩ := aI_x H
  exact go_zaload hd ha hi (kk _ H)
theorem d_aJ {v : Value} {i : Int32} {κ : Int64 → rO} (hd : decode (mYc Y) pc = .ok (.laload, 1)) (H : aJ h v i κ = some (R, h')) (kk : ∀ x, κ x = some (R, h') → Go G d mc ms Y (pc + 1) loc (.long x :: st) h R h') : Go G d mc ms Y pc loc (.int i :: v :: st) h R h' := by
  obtain ⟨a, n, f, rfl, ha, hi, H⟩ := aJ_x H
  exact go_laload hd ha hi (kk _ H)
theorem d_aT {v : Value} {i : Int32} {κ : Value → rO} (hd : decode (mYc Y) pc = .ok (.aaload, 1)) (H : aT h v i κ = some (R, h')) (kk : ∀ x, isRv x = true → κ x = some (R, h') → Go G d mc ms Y (pc + 1) loc (x :: st) h R h') : Go G d mc ms Y pc loc (.int i :: v :: st) h R h' := by
  obtain ⟨a, n, f, rfl, ha, hi, H⟩ := aT_x H
  exact go_aaload hd ha hi (kk _ (by cases f i.toNatClampNeg <;> rfl) H)
theorem d_aO {v : Value} {i : Int32} {κ : Int32 → rO} (hd : decode (mYc Y) pc = .ok (.iaload, 1)) (H : aO v i κ = some (R, h')) (kk : ∀ x, κ x = some (R, h') → Go G d mc ms Y (pc + 1) loc (.int x :: st) h R h') : Go G d mc ms Y pc loc (.int i :: v :: st) h R h' := by
  obtain ⟨j, q, rfl, hq, hi, H⟩ := aO_x H
  exact go_ialoadA hd hq hi (kk _ H)
theorem d_sI {v : Value} {i x : Int32} {κ : pH → rO} (hd : decode (mYc Y) pc = .ok (.iastore, 1)) (H : sI h v 0 i x κ = some (R, h')) (kk : ∀ h1, κ h1 = some (R, h') → Go G d mc ms Y (pc + 1) loc st h1 R h') : Go G d mc ms Y pc loc (.int x :: .int i :: v :: st) h R h' := by
  obtain ⟨a, n, f, rfl, ha, hi, H⟩ := sI_x H
  exact go_iastore hd ha hi (kk _ H)
theorem d_sB {v : Value} {i x : Int32} {κ : pH → rO} (hd : decode (mYc Y) pc = .ok (.bastore, 1)) (H : sI h v 1 i x.toInt8.toInt32 κ = some (R, h')) (kk : ∀ h1, κ h1 = some (R, h') → Go G d mc ms Y (pc + 1) loc st h1 R h') : Go G d mc ms Y pc loc (.int x :: .int i :: v :: st) h R h' := by
  obtain ⟨a, n, f, rfl, ha, hi, H⟩ := sI_x H
  exact go_bastore hd ha hi (kk _ H)
theorem d_sZ {v : Value} {i x : Int32} {κ : pH → rO} (hd : decode (mYc Y) pc = .ok (.bastore, 1)) (H : sI h v 2 i (vp_nar .boolean x) κ = some (R, h')) (kk : ∀ h1, κ h1 = some (R, h') → Go G d mc ms Y (pc + 1) loc st h1 R h') : Go G d mc ms Y pc loc (.int x :: .int i :: v :: st) h R h' := by
  obtain ⟨a, n, f, rfl, ha, hi, H⟩ := sI_x H
  exact go_zastore hd ha hi (kk _ H)
theorem d_sJ {v : Value} {i : Int32} {x : Int64} {κ : pH → rO} (hd : decode (mYc Y) pc = .ok (.lastore, 1)) (H : sJ h v i x κ = some (R, h')) (kk : ∀ h1, κ h1 = some (R, h') → Go G d mc ms Y (pc + 1) loc st h1 R h') : Go G d mc ms Y pc loc (.long x :: .int i :: v :: st) h R h' := by
  obtain ⟨a, n, f, rfl, ha, hi, H⟩ := sJ_x H
  exact go_lastore hd ha hi (kk _ H)
/-- a callee's function tells its contract -/
def Tells (G : gC) (d mc1 ms1 : Nat) (Z : mY) (av : List Value) (h : pH) (r : rO) : Prop := ∀ R1 h1, r = some (R1, h1) → Ev G d mc1 ms1 Z av h R1 h1
theorem d_cSI {idx n mc1 ms1 : Nat} {Z : mY} {r : rO} {κ : Int32 → pH → rO} (av : List Value) {rest : List Value} (hd : decode (mYc Y) pc = .ok (.invokestatic idx, 3)) (F : CS (mYn Y).cls idx Z n) (hnl : (mYn Y).name ≠ "law") (hh : mYh Y = []) (E : Tells G d mc1 ms1 Z av h r) (hst : st = av.reverse ++ rest) (hn : av.length = n) (h8 : (rest.map (fun v => v.category)).sum ≤ 8) (H : cI r κ = some (R, h'))
    (kk : ∀ x h1, κ x h1 = some (R, h') → Go G (d + 1) mc ms Y (pc + 3) loc (.int x :: rest) h1 R h') : Go G (d + 1) (mc + mc1) (ms + ms1) Y pc loc st h R h' := by
  rw [Nat.add_comm mc, Nat.add_comm ms]
  unfold cI at H
  split at H
  · exact go_callS av hd F (E _ _ rfl) hst hn h8 (kk _ _ H)
  · cases H
    exact go_throwS av hd F (E _ _ rfl) hnl hh hst hn h8
  · cases H
theorem d_cSJ {idx n mc1 ms1 : Nat} {Z : mY} {r : rO} {κ : Int64 → pH → rO} (av : List Value) {rest : List Value} (hd : decode (mYc Y) pc = .ok (.invokestatic idx, 3)) (F : CS (mYn Y).cls idx Z n) (hnl : (mYn Y).name ≠ "law") (hh : mYh Y = []) (E : Tells G d mc1 ms1 Z av h r) (hst : st = av.reverse ++ rest) (hn : av.length = n) (h8 : (rest.map (fun v => v.category)).sum ≤ 8) (H : cJ r κ = some (R, h'))
    (kk : ∀ x h1, κ x h1 = some (R, h') → Go G (d + 1) mc ms Y (pc + 3) loc (.long x :: rest) h1 R h') : Go G (d + 1) (mc + mc1) (ms + ms1) Y pc loc st h R h' := by
  rw [Nat.add_comm mc, Nat.add_comm ms]
  unfold cJ at H
  split at H
  · exact go_callS av hd F (E _ _ rfl) hst hn h8 (kk _ _ H)
  · cases H
    exact go_throwS av hd F (E _ _ rfl) hnl hh hst hn h8
  · cases H
theorem d_cSU {idx n mc1 ms1 : Nat} {Z : mY} {r : rO} {κ : pH → rO} (av : List Value) {rest : List Value} (hd : decode (mYc Y) pc = .ok (.invokestatic idx, 3)) (F : CS (mYn Y).cls idx Z n) (hnl : (mYn Y).name ≠ "law") (hh : mYh Y = []) (E : Tells G d mc1 ms1 Z av h r) (hst : st = av.reverse ++ rest) (hn : av.length = n) (h8 : (rest.map (fun v => v.category)).sum ≤ 8) (H : cU r κ = some (R, h'))
    (kk : ∀ h1, κ h1 = some (R, h') → Go G (d + 1) mc ms Y (pc + 3) loc rest h1 R h') : Go G (d + 1) (mc + mc1) (ms + ms1) Y pc loc st h R h' := by
  rw [Nat.add_comm mc, Nat.add_comm ms]
  unfold cU at H
  split at H
  · exact go_callS av hd F (E _ _ rfl) hst hn h8 (kk _ H)
  · cases H
    exact go_throwS av hd F (E _ _ rfl) hnl hh hst hn h8
  · cases H
theorem d_cVI {idx ci n mc1 ms1 : Nat} {Z : mY} {v : Value} {r : rO} {κ : Int32 → pH → rO} (av : List Value) {rest : List Value} (hd : decode (mYc Y) pc = .ok (.invokevirtual idx, 3)) (F : CV (mYn Y).cls idx ci Z n) (hnl : (mYn Y).name ≠ "law") (hh : mYh Y = []) (E : Tells G d mc1 ms1 Z (v :: av) h r) (hst : st = av.reverse ++ v :: rest) (hn : av.length = n) (h8 : (rest.map (fun v => v.category)).sum ≤ 8) (H : rC h v ci (cI r κ) = some (R, h'))
    (kk : ∀ x h1, κ x h1 = some (R, h') → Go G (d + 1) mc ms Y (pc + 3) loc (.int x :: rest) h1 R h') : Go G (d + 1) (mc + mc1) (ms + ms1) Y pc loc st h R h' := by
  rw [Nat.add_comm mc, Nat.add_comm ms]
  obtain ⟨a, fs, rfl, ha, H⟩ := rC_x H
  unfold cI at H
  split at H
  · exact go_callV av hd F (E _ _ rfl) ha hst hn h8 (kk _ _ H)
  · cases H
    exact go_throwV av hd F (E _ _ rfl) ha hnl hh hst hn h8
  · cases H
theorem d_cVJ {idx ci n mc1 ms1 : Nat} {Z : mY} {v : Value} {r : rO} {κ : Int64 → pH → rO} (av : List Value) {rest : List Value} (hd : decode (mYc Y) pc = .ok (.invokevirtual idx, 3)) (F : CV (mYn Y).cls idx ci Z n) (hnl : (mYn Y).name ≠ "law") (hh : mYh Y = []) (E : Tells G d mc1 ms1 Z (v :: av) h r) (hst : st = av.reverse ++ v :: rest) (hn : av.length = n) (h8 : (rest.map (fun v => v.category)).sum ≤ 8) (H : rC h v ci (cJ r κ) = some (R, h'))
    (kk : ∀ x h1, κ x h1 = some (R, h') → Go G (d + 1) mc ms Y (pc + 3) loc (.long x :: rest) h1 R h') : Go G (d + 1) (mc + mc1) (ms + ms1) Y pc loc st h R h' := by
  rw [Nat.add_comm mc, Nat.add_comm ms]
  obtain ⟨a, fs, rfl, ha, H⟩ := rC_x H
  unfold cJ at H
  split at H
  · exact go_callV av hd F (E _ _ rfl) ha hst hn h8 (kk _ _ H)
  · cases H
    exact go_throwV av hd F (E _ _ rfl) ha hnl hh hst hn h8
  · cases H
theorem d_cVA {idx ci n mc1 ms1 : Nat} {Z : mY} {v : Value} {r : rO} {κ : Value → pH → rO} (av : List Value) {rest : List Value} (hd : decode (mYc Y) pc = .ok (.invokevirtual idx, 3)) (F : CV (mYn Y).cls idx ci Z n) (hnl : (mYn Y).name ≠ "law") (hh : mYh Y = []) (E : Tells G d mc1 ms1 Z (v :: av) h r) (hst : st = av.reverse ++ v :: rest) (hn : av.length = n) (h8 : (rest.map (fun v => v.category)).sum ≤ 8) (H : rC h v ci (cA r κ) = some (R, h'))
    (kk : ∀ x h1, isRv x = true → κ x h1 = some (R, h') → Go G (d + 1) mc ms Y (pc + 3) loc (x :: rest) h1 R h') : Go G (d + 1) (mc + mc1) (ms + ms1) Y pc loc st h R h' := by
  rw [Nat.add_comm mc, Nat.add_comm ms]
  obtain ⟨a, fs, rfl, ha, H⟩ := rC_x H
  unfold cA at H
  split at H
  · split at H
    · rename_i hr
      exact go_callV av hd F (E _ _ rfl) ha hst hn h8 (kk _ _ hr H)
    · cases H
  · cases H
    exact go_throwV av hd F (E _ _ rfl) ha hnl hh hst hn h8
  · cases H
theorem d_cVU {idx ci n mc1 ms1 : Nat} {Z : mY} {v : Value} {r : rO} {κ : pH → rO} (av : List Value) {rest : List Value} (hd : decode (mYc Y) pc = .ok (.invokevirtual idx, 3)) (F : CV (mYn Y).cls idx ci Z n) (hnl : (mYn Y).name ≠ "law") (hh : mYh Y = []) (E : Tells G d mc1 ms1 Z (v :: av) h r) (hst : st = av.reverse ++ v :: rest) (hn : av.length = n) (h8 : (rest.map (fun v => v.category)).sum ≤ 8) (H : rC h v ci (cU r κ) = some (R, h'))
    (kk : ∀ h1, κ h1 = some (R, h') → Go G (d + 1) mc ms Y (pc + 3) loc rest h1 R h') : Go G (d + 1) (mc + mc1) (ms + ms1) Y pc loc st h R h' := by
  rw [Nat.add_comm mc, Nat.add_comm ms]
  obtain ⟨a, fs, rfl, ha, H⟩ := rC_x H
  unfold cU at H
  split at H
  · exact go_callV av hd F (E _ _ rfl) ha hst hn h8 (kk _ H)
  · cases H
    exact go_throwV av hd F (E _ _ rfl) ha hnl hh hst hn h8
  · cases H
theorem go_budget {mc' ms' : Nat} (h1 : mc ≤ mc') (h2 : ms ≤ ms') (k : Go G d mc ms Y pc loc st h R h') : Go G d mc' ms' Y pc loc st h R h' := by
  intro p e s m args below meth c H locs cells slots MC MS ad ls S X
  obtain ⟨x1, x2, x3, x4, x5, x6, x7, x8, x9⟩ := X
  exact k p e s m args below meth c H locs cells slots MC MS ad ls S ⟨x1, x2, x3, x4, x5, x6, x7, by omega, by omega⟩
end Comb
