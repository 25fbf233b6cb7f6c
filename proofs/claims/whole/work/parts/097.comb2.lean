/-! more combinators; forms of the rules that the program lays -/
section Comb2
def FU : Nat := 40000
def iR (v : Value) (κ : rO) : rO := if isRv v = true then κ else none
theorem iR_x {v : Value} {κ : rO} {z : rS × pH} (H : iR v κ = some z) : isRv v = true ∧ κ = some z := by
  unfold iR at H
  split at H
  · rename_i q; exact ⟨q, H⟩
  · cases H
def nz (v : Value) (a b : rO) : rO := match v with
  | .null => a
  | _ => b
def zR (v : Int32) (κ : rO) : rO := if v = 0 ∨ v = 1 then κ else none
def dv (y : Int32) (κ : rO) : rO := if y = 0 then none else κ
def dvJ (y : Int64) (κ : rO) : rO := if y = 0 then none else κ
variable {G : gC} {d mc ms : Nat} {Y : mY} {pc : Nat} {loc : List (Option Value)} {st : List Value} {h h' : pH} {R : rS}
theorem go_inc {i : Nat} {n : Int} {x k : Int32} (hd : decode (mYc Y) pc = .ok (.iinc i n, 3)) (hl : loc[i]? = some (some (.int x))) (hk : Int32.ofInt n = k) (hn : i < mYl Y) (hb : lvB loc i = true) (kk : Go G d mc ms Y (pc + 3) (loc.set i (some (.int (x + k)))) st h R h') : Go G d mc ms Y pc loc st h R h' := go_iinc hd hl (by rw [hk]) hn hb kk
theorem d_ifnull {v : Value} {off : Int} {tgt : Nat} {a b : rO} (hd : decode (mYc Y) pc = .ok (.ifnull off, 3)) (ht : (pc : Int) + off = (tgt : Int)) (hv : isRv v = true) (H : nz v a b = some (R, h')) (kt : v = .null → a = some (R, h') → Go G d mc ms Y tgt loc st h R h') (kf : v ≠ .null → b = some (R, h') → Go G d mc ms Y (pc + 3) loc st h R h') : Go G d mc ms Y pc loc (v :: st) h R h' := by
  cases v with
  | null => exact go_ifnull_n hd ht (kt rfl H)
  | ref a => exact go_ifnull_r hd rfl (by simp) (kf (by simp) H)
  | retAddr j => exact go_ifnull_r hd rfl (by simp) (kf (by simp) H)
  | _ => simp [isRv] at hv
theorem d_ifnonnull {v : Value} {off : Int} {tgt : Nat} {a b : rO} (hd : decode (mYc Y) pc = .ok (.ifnonnull off, 3)) (ht : (pc : Int) + off = (tgt : Int)) (hv : isRv v = true) (H : nz v a b = some (R, h')) (kt : v ≠ .null → b = some (R, h') → Go G d mc ms Y tgt loc st h R h') (kf : v = .null → a = some (R, h') → Go G d mc ms Y (pc + 3) loc st h R h') : Go G d mc ms Y pc loc (v :: st) h R h' := by
  cases v with
  | null => exact go_ifnonnull_n hd (kf rfl H)
  | ref a => exact go_ifnonnull_r hd ht rfl (by simp) (kt (by simp) H)
  | retAddr j => exact go_ifnonnull_r hd ht rfl (by simp) (kt (by simp) H)
  | _ => simp [isRv] at hv
theorem d_iret {v : Int32} (hd : decode (mYc Y) pc = .ok (.ireturn, 1)) (hr : mYr Y = some .int) (H : (some (.inl (some (.int v)), h) : rO) = some (R, h')) : Go G d mc ms Y pc loc [.int v] h R h' := by
  cases H; exact go_ireturn hd hr
theorem d_zret {v : Int32} (hd : decode (mYc Y) pc = .ok (.ireturn, 1)) (hr : mYr Y = some .boolean) (H : zR v (some (.inl (some (.int v)), h)) = some (R, h')) : Go G d mc ms Y pc loc [.int v] h R h' := by
  unfold zR at H
  split at H
  · rename_i q
    cases H
    rcases q with rfl | rfl
    · exact go_zreturn hd hr rfl
    · exact go_zreturn hd hr rfl
  · cases H
theorem d_lret {v : Int64} (hd : decode (mYc Y) pc = .ok (.lreturn, 1)) (hr : mYr Y = some .long) (H : (some (.inl (some (.long v)), h) : rO) = some (R, h')) : Go G d mc ms Y pc loc [.long v] h R h' := by
  cases H; exact go_lreturn hd hr
theorem d_vret (hd : decode (mYc Y) pc = .ok (.return_, 1)) (hr : mYr Y = none) (H : (some (.inl none, h) : rO) = some (R, h')) : Go G d mc ms Y pc loc [] h R h' := by
  cases H; exact go_vreturn hd hr
theorem d_aret {v : Value} {n : String} (hv : isRv v = true) (hd : decode (mYc Y) pc = .ok (.areturn, 1)) (hr : mYr Y = some (.object n)) (H : (some (.inl (some v), h) : rO) = some (R, h')) : Go G d mc ms Y pc loc [v] h R h' := by
  cases H; exact go_areturn hv hd hr
theorem d_idiv {x y : Int32} {κ : rO} (hd : decode (mYc Y) pc = .ok (.idiv, 1)) (H : dv y κ = some (R, h')) (kk : κ = some (R, h') → Go G d mc ms Y (pc + 1) loc (.int (x / y) :: st) h R h') : Go G d mc ms Y pc loc (.int y :: .int x :: st) h R h' := by
  unfold dv at H
  split at H
  · cases H
  · rename_i q; exact go_idiv hd q (kk H)
theorem d_irem {x y : Int32} {κ : rO} (hd : decode (mYc Y) pc = .ok (.irem, 1)) (H : dv y κ = some (R, h')) (kk : κ = some (R, h') → Go G d mc ms Y (pc + 1) loc (.int (x - x / y * y) :: st) h R h') : Go G d mc ms Y pc loc (.int y :: .int x :: st) h R h' := by
  unfold dv at H
  split at H
  · cases H
  · rename_i q; exact go_irem hd q (kk H)
theorem d_ldiv {x y : Int64} {κ : rO} (hd : decode (mYc Y) pc = .ok (.ldiv, 1)) (H : dvJ y κ = some (R, h')) (kk : κ = some (R, h') → Go G d mc ms Y (pc + 1) loc (.long (x / y) :: st) h R h') : Go G d mc ms Y pc loc (.long y :: .long x :: st) h R h' := by
  unfold dvJ at H
  split at H
  · cases H
  · rename_i q; exact go_ldiv hd q (kk H)
/-- fewer locals, place by place -/
def lsub : List (Option Value) → List (Option Value) → Prop
  | [], _ => True
  | none :: l', _ :: l => lsub l' l
  | none :: l', [] => lsub l' []
  | some v :: l', o :: l => o = some v ∧ lsub l' l
  | some _ :: _, [] => False
theorem lsub_at : ∀ {l' l : List (Option Value)}, lsub l' l → ∀ (i : Nat) (v : Value), l'[i]? = some (some v) → l[i]? = some (some v)
  | [], _, _, i, v, h => by simp at h
  | none :: l', [], hs, i, v, h => by
    cases i with
    | zero => simp at h
    | succ i =>
      have := lsub_at (l' := l') (l := []) hs i v (by simpa using h)
      simp at this
  | none :: l', o :: l, hs, i, v, h => by
    cases i with
    | zero => simp at h
    | succ i => exact lsub_at (l' := l') (l := l) hs i v (by simpa using h)
  | some w :: l', [], hs, i, v, h => hs.elim
  | some w :: l', o :: l, hs, i, v, h => by
    obtain ⟨h1, h2⟩ := hs
    cases i with
    | zero => simp at h ⊢; rw [h1, h]
    | succ i => exact lsub_at (l' := l') (l := l) h2 i v (by simpa using h)
theorem go_sub {loc' : List (Option Value)} (hs : lsub loc' loc) (k : Go G d mc ms Y pc loc' st h R h') : Go G d mc ms Y pc loc st h R h' := go_forget (lsub_at hs) k
theorem isRv_cat {v : Value} (h : isRv v = true) : v.category = 1 := by cases v <;> first | rfl | cases h
/-- the values at a cut, one by one -/
def hI (L : List Value) (κ : Int32 → List Value → rO) : rO := match L with
  | .int x :: L => κ x L
  | _ => none
def hJ (L : List Value) (κ : Int64 → List Value → rO) : rO := match L with
  | .long x :: L => κ x L
  | _ => none
def hA (L : List Value) (κ : Value → List Value → rO) : rO := match L with
  | v :: L => κ v L
  | _ => none
abbrev dT : Type := Nat → List Value → pH → rO
theorem lent_A {v : Value} {vs : List Value} (hv : isRv v = true) : lent (v :: vs) = some v :: lent vs := by simp only [lent, isRv_cat hv]; rfl
theorem lent_I {x : Int32} {vs : List Value} : lent (.int x :: vs) = some (.int x) :: lent vs := rfl
theorem lent_J {x : Int64} {vs : List Value} : lent (.long x :: vs) = some (.long x) :: none :: lent vs := rfl
theorem lent_0 : lent [] = [] := rfl
theorem lvB_r {loc : List (Option Value)} {i : Nat} {v : Value} (h : loc[i]? = some (some v)) (hv : isRv v = true) : lvB loc (i + 1) = true := by
  simp only [lvB, h]
  cases v <;> first | rfl | cases hv
theorem d_if_eq {x : Int32} {off : Int} {tgt : Nat} {A B : rO} (hd : decode (mYc Y) pc = .ok (.ifCond .eq off, 3)) (ht : (pc : Int) + off = (tgt : Int)) (H : (if (x = 0) then A else B) = some (R, h')) (kt : (x = 0) → A = some (R, h') → Go G d mc ms Y tgt loc st h R h') (kf : ¬ (x = 0) → B = some (R, h') → Go G d mc ms Y (pc + 3) loc st h R h') : Go G d mc ms Y pc loc (.int x :: st) h R h' :=
  go_if_eq hd ht (fun q => kt q (by rw [if_pos q] at H; exact H)) (fun q => kf q (by rw [if_neg q] at H; exact H))
theorem d_if_ne {x : Int32} {off : Int} {tgt : Nat} {A B : rO} (hd : decode (mYc Y) pc = .ok (.ifCond .ne off, 3)) (ht : (pc : Int) + off = (tgt : Int)) (H : (if (x = 0) then A else B) = some (R, h')) (kt : ¬ (x = 0) → B = some (R, h') → Go G d mc ms Y tgt loc st h R h') (kf : (x = 0) → A = some (R, h') → Go G d mc ms Y (pc + 3) loc st h R h') : Go G d mc ms Y pc loc (.int x :: st) h R h' :=
  go_if_ne hd ht (fun q => kt q (by rw [if_neg q] at H; exact H)) (fun q => kf q (by rw [if_pos q] at H; exact H))
theorem d_if_lt {x : Int32} {off : Int} {tgt : Nat} {A B : rO} (hd : decode (mYc Y) pc = .ok (.ifCond .lt off, 3)) (ht : (pc : Int) + off = (tgt : Int)) (H : (if (x < 0) then A else B) = some (R, h')) (kt : (x < 0) → A = some (R, h') → Go G d mc ms Y tgt loc st h R h') (kf : ¬ (x < 0) → B = some (R, h') → Go G d mc ms Y (pc + 3) loc st h R h') : Go G d mc ms Y pc loc (.int x :: st) h R h' :=
  go_if_lt hd ht (fun q => kt q (by rw [if_pos q] at H; exact H)) (fun q => kf q (by rw [if_neg q] at H; exact H))
theorem d_if_ge {x : Int32} {off : Int} {tgt : Nat} {A B : rO} (hd : decode (mYc Y) pc = .ok (.ifCond .ge off, 3)) (ht : (pc : Int) + off = (tgt : Int)) (H : (if (0 ≤ x) then A else B) = some (R, h')) (kt : (0 ≤ x) → A = some (R, h') → Go G d mc ms Y tgt loc st h R h') (kf : ¬ (0 ≤ x) → B = some (R, h') → Go G d mc ms Y (pc + 3) loc st h R h') : Go G d mc ms Y pc loc (.int x :: st) h R h' :=
  go_if_ge hd ht (fun q => kt q (by rw [if_pos q] at H; exact H)) (fun q => kf q (by rw [if_neg q] at H; exact H))
theorem d_if_gt {x : Int32} {off : Int} {tgt : Nat} {A B : rO} (hd : decode (mYc Y) pc = .ok (.ifCond .gt off, 3)) (ht : (pc : Int) + off = (tgt : Int)) (H : (if (0 < x) then A else B) = some (R, h')) (kt : (0 < x) → A = some (R, h') → Go G d mc ms Y tgt loc st h R h') (kf : ¬ (0 < x) → B = some (R, h') → Go G d mc ms Y (pc + 3) loc st h R h') : Go G d mc ms Y pc loc (.int x :: st) h R h' :=
  go_if_gt hd ht (fun q => kt q (by rw [if_pos q] at H; exact H)) (fun q => kf q (by rw [if_neg q] at H; exact H))
theorem d_if_le {x : Int32} {off : Int} {tgt : Nat} {A B : rO} (hd : decode (mYc Y) pc = .ok (.ifCond .le off, 3)) (ht : (pc : Int) + off = (tgt : Int)) (H : (if (x ≤ 0) then A else B) = some (R, h')) (kt : (x ≤ 0) → A = some (R, h') → Go G d mc ms Y tgt loc st h R h') (kf : ¬ (x ≤ 0) → B = some (R, h') → Go G d mc ms Y (pc + 3) loc st h R h') : Go G d mc ms Y pc loc (.int x :: st) h R h' :=
  go_if_le hd ht (fun q => kt q (by rw [if_pos q] at H; exact H)) (fun q => kf q (by rw [if_neg q] at H; exact H))
theorem d_icmp_eq {x y : Int32} {off : Int} {tgt : Nat} {A B : rO} (hd : decode (mYc Y) pc = .ok (.if_icmp .eq off, 3)) (ht : (pc : Int) + off = (tgt : Int)) (H : (if (x = y) then A else B) = some (R, h')) (kt : (x = y) → A = some (R, h') → Go G d mc ms Y tgt loc st h R h') (kf : ¬ (x = y) → B = some (R, h') → Go G d mc ms Y (pc + 3) loc st h R h') : Go G d mc ms Y pc loc (.int y :: .int x :: st) h R h' :=
  go_icmp_eq hd ht (fun q => kt q (by rw [if_pos q] at H; exact H)) (fun q => kf q (by rw [if_neg q] at H; exact H))
theorem d_icmp_ne {x y : Int32} {off : Int} {tgt : Nat} {A B : rO} (hd : decode (mYc Y) pc = .ok (.if_icmp .ne off, 3)) (ht : (pc : Int) + off = (tgt : Int)) (H : (if (x = y) then A else B) = some (R, h')) (kt : ¬ (x = y) → B = some (R, h') → Go G d mc ms Y tgt loc st h R h') (kf : (x = y) → A = some (R, h') → Go G d mc ms Y (pc + 3) loc st h R h') : Go G d mc ms Y pc loc (.int y :: .int x :: st) h R h' :=
  go_icmp_ne hd ht (fun q => kt q (by rw [if_neg q] at H; exact H)) (fun q => kf q (by rw [if_pos q] at H; exact H))
theorem d_icmp_lt {x y : Int32} {off : Int} {tgt : Nat} {A B : rO} (hd : decode (mYc Y) pc = .ok (.if_icmp .lt off, 3)) (ht : (pc : Int) + off = (tgt : Int)) (H : (if (x < y) then A else B) = some (R, h')) (kt : (x < y) → A = some (R, h') → Go G d mc ms Y tgt loc st h R h') (kf : ¬ (x < y) → B = some (R, h') → Go G d mc ms Y (pc + 3) loc st h R h') : Go G d mc ms Y pc loc (.int y :: .int x :: st) h R h' :=
  go_icmp_lt hd ht (fun q => kt q (by rw [if_pos q] at H; exact H)) (fun q => kf q (by rw [if_neg q] at H; exact H))
theorem d_icmp_ge {x y : Int32} {off : Int} {tgt : Nat} {A B : rO} (hd : decode (mYc Y) pc = .ok (.if_icmp .ge off, 3)) (ht : (pc : Int) + off = (tgt : Int)) (H : (if (y ≤ x) then A else B) = some (R, h')) (kt : (y ≤ x) → A = some (R, h') → Go G d mc ms Y tgt loc st h R h') (kf : ¬ (y ≤ x) → B = some (R, h') → Go G d mc ms Y (pc + 3) loc st h R h') : Go G d mc ms Y pc loc (.int y :: .int x :: st) h R h' :=
  go_icmp_ge hd ht (fun q => kt q (by rw [if_pos q] at H; exact H)) (fun q => kf q (by rw [if_neg q] at H; exact H))
theorem d_icmp_gt {x y : Int32} {off : Int} {tgt : Nat} {A B : rO} (hd : decode (mYc Y) pc = .ok (.if_icmp .gt off, 3)) (ht : (pc : Int) + off = (tgt : Int)) (H : (if (y < x) then A else B) = some (R, h')) (kt : (y < x) → A = some (R, h') → Go G d mc ms Y tgt loc st h R h') (kf : ¬ (y < x) → B = some (R, h') → Go G d mc ms Y (pc + 3) loc st h R h') : Go G d mc ms Y pc loc (.int y :: .int x :: st) h R h' :=
  go_icmp_gt hd ht (fun q => kt q (by rw [if_pos q] at H; exact H)) (fun q => kf q (by rw [if_neg q] at H; exact H))
theorem d_icmp_le {x y : Int32} {off : Int} {tgt : Nat} {A B : rO} (hd : decode (mYc Y) pc = .ok (.if_icmp .le off, 3)) (ht : (pc : Int) + off = (tgt : Int)) (H : (if (x ≤ y) then A else B) = some (R, h')) (kt : (x ≤ y) → A = some (R, h') → Go G d mc ms Y tgt loc st h R h') (kf : ¬ (x ≤ y) → B = some (R, h') → Go G d mc ms Y (pc + 3) loc st h R h') : Go G d mc ms Y pc loc (.int y :: .int x :: st) h R h' :=
  go_icmp_le hd ht (fun q => kt q (by rw [if_pos q] at H; exact H)) (fun q => kf q (by rw [if_neg q] at H; exact H))
end Comb2
