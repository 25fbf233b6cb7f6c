/-! an estate is copied onto another (laid by gen_copy.py) -/
section CopyB
variable {S : sT} {d c : Nat} {k : Value} {E F : List dsc} {A B : fA} {L : fL} {T : fT} {W : fW} {D : List dsc} {p q : Nat}
def cpR (A : fA) (p q i n : Nat) : fA := upR A (q + i) (va_cpy (A (p + i)) (A (q + i)) 0 0 n)
def cfR (A : fA) (p q i j : Nat) : fA := up A (q + i) j (A (p + i) j)
theorem cp_at {i n j : Nat} (h : j < n) : cpR A p q i n (q + i) j = A (p + i) j := by
  unfold cpR; rw [upR_s]; unfold va_cpy; rw [if_pos (by omega)]; congr 1; omega
theorem cp_o {i n r : Nat} (h : r ≠ q + i) : cpR A p q i n r = A r := upR_o h
theorem cf_at {i j : Nat} : cfR A p q i j (q + i) j = A (p + i) j := up_ii
theorem cf_o {i j r : Nat} (h : r ≠ q + i) : cfR A p q i j r = A r := up_ne h
theorem cf_j {i j j' : Nat} (h : j' ≠ j) : cfR A p q i j (q + i) j' = A (q + i) j' := up_rr h
theorem cpI_r {i n : Nat} {x : Int32} {κ : pH → rO} (hx : x = nI n) (hn : n < 2 ^ 31) (hp : D[p + i]? = some (.inl (0, n))) (hq : D[q + i]? = some (.inl (0, n))) : cpI (HP D A L T) (.ref (p + i)) 0 (.ref (q + i)) 0 x κ = κ (HP D (cpR A p q i n) L T) := by
  rw [hx, cpI_H hp hq (by decide) (by decide) (nI_pos hn) (by rw [nI_clamp hn]; show 0 + n ≤ n; omega) (by rw [nI_clamp hn]; show 0 + n ≤ n; omega), nI_clamp hn]
  rfl
theorem gpF_r {i j ci : Nat} {ks ks' : List (Option Value)} {κ : pH → rO} (hp : D[p + i]? = some (.inr (ci, ks))) (hq : D[q + i]? = some (.inr (ci, ks'))) (h1 : ks[j]? = some none) (h2 : ks'[j]? = some none) : gI (HP D A L T) (.ref (p + i)) ci j (fun y => pF (HP D A L T) (.ref (q + i)) ci j (.int y) κ) = κ (HP D (cfR A p q i j) L T) := by
  rw [gI_H hp h1, pF_H hq h2]; rfl
theorem sTx_c {r n j : Nat} {v : Option Nat} {κ : pH → rO} (hr : D[r]? = some (.inl (4, n))) (hj : j < n) (hn : n < 2 ^ 31) (hv : v = none ∨ ∃ a b, v = some a ∧ D[a]? = some (.inr (11, [none, some (.ref b)]))) : sTx (HP D A L T) (.ref r) (nI j) (va_rf v) κ = κ (HP D A L (upT T r j v)) := by
  rcases hv with rfl | ⟨a, b, rfl, hD⟩
  · show sTx (HP D A L T) (.ref r) (nI j) .null κ = _
    rw [sTx_N hr (nI_pos (by omega)) (by rw [nI_clamp (by omega)]; exact hj), nI_clamp (by omega)]
  · show sTx (HP D A L T) (.ref r) (nI j) (.ref a) κ = _
    rw [sTx_H hr hD (nI_pos (by omega)) (by rw [nI_clamp (by omega)]; exact hj), nI_clamp (by omega)]
theorem q_iV {v : Option Nat} {κ : rO} : iA (va_rf v) κ = κ := by cases v <;> rfl
theorem q_nV {v : Option Nat} {κ : rO} : nl (va_rf v) κ = κ := by cases v <;> rfl
theorem cpE_X2 (hp : DK p D) (hq : DK q D) (hd : p + 34 ≤ q ∨ q + 34 ≤ p) : ∃ A', ex S (d + 1) 366 [.ref (q + 5), .ref (p + 5)] (HP D A L T) = some (.inl none, HP D A' L T) ∧ (∀ j, j < 672 → A' (q + 6) j = A (p + 6) j) ∧ (∀ r, r < q + 5 ∨ q + 7 ≤ r → A' r = A r) := by
  rw [x_X2_copyFrom, g_X2_copyFrom_0]
  rw [q_iR, gV_H (a := p + 5) (k := 0) (hp 5 (by decide)) rfl rfl, gV_H (a := q + 5) (k := 0) (hq 5 (by decide)) rfl rfl, cpI_r (i := 6) (n := 672) (x := 672) rfl (by decide) (hp 6 (by decide)) (hq 6 (by decide))]
  refine ⟨_, rfl, fun j hj => ?_, fun r hr => ?_⟩
  · rw [cp_at hj]
  · rw [cp_o (by omega)]
theorem cpE_X4 (hp : DK p D) (hq : DK q D) (hd : p + 34 ≤ q ∨ q + 34 ≤ p) : ∃ A', ex S (d + 1) 368 [.ref (q + 12), .ref (p + 12)] (HP D A L T) = some (.inl none, HP D A' L T) ∧ A' (q + 12) 0 = A (p + 12) 0 ∧ (∀ j, j < 101 → A' (q + 13) j = A (p + 13) j) ∧ (∀ j, j < 200 → A' (q + 14) j = A (p + 14) j) ∧ (∀ j, j < 200 → A' (q + 15) j = A (p + 15) j) ∧ (∀ j, j < 200 → A' (q + 16) j = A (p + 16) j) ∧ (∀ j, j < 200 → A' (q + 17) j = A (p + 17) j) ∧ (∀ r, r < q + 12 ∨ q + 18 ≤ r → A' r = A r) := by
  rw [x_X4_copyFrom, g_X4_copyFrom_0]
  rw [q_iR, gpF_r (i := 12) (j := 0) (hp 12 (by decide)) (hq 12 (by decide)) rfl rfl]
  rw [q_iR, gV_H (a := p + 12) (k := 1) (hp 12 (by decide)) rfl rfl, gV_H (a := q + 12) (k := 1) (hq 12 (by decide)) rfl rfl, cpI_r (i := 13) (n := 101) (x := 101) rfl (by decide) (hp 13 (by decide)) (hq 13 (by decide))]
  rw [q_iR, gV_H (a := p + 12) (k := 2) (hp 12 (by decide)) rfl rfl, gV_H (a := q + 12) (k := 2) (hq 12 (by decide)) rfl rfl, cpI_r (i := 14) (n := 200) (x := 200) rfl (by decide) (hp 14 (by decide)) (hq 14 (by decide))]
  rw [q_iR, gV_H (a := p + 12) (k := 3) (hp 12 (by decide)) rfl rfl, gV_H (a := q + 12) (k := 3) (hq 12 (by decide)) rfl rfl, cpI_r (i := 15) (n := 200) (x := 200) rfl (by decide) (hp 15 (by decide)) (hq 15 (by decide))]
  rw [q_iR, gV_H (a := p + 12) (k := 4) (hp 12 (by decide)) rfl rfl, gV_H (a := q + 12) (k := 4) (hq 12 (by decide)) rfl rfl, cpI_r (i := 16) (n := 200) (x := 200) rfl (by decide) (hp 16 (by decide)) (hq 16 (by decide))]
  rw [q_iR, gV_H (a := p + 12) (k := 5) (hp 12 (by decide)) rfl rfl, gV_H (a := q + 12) (k := 5) (hq 12 (by decide)) rfl rfl, cpI_r (i := 17) (n := 200) (x := 200) rfl (by decide) (hp 17 (by decide)) (hq 17 (by decide))]
  refine ⟨_, rfl, ?_, fun j hj => ?_, fun j hj => ?_, fun j hj => ?_, fun j hj => ?_, fun j hj => ?_, fun r hr => ?_⟩
  · rw [cp_o (by omega), cp_o (by omega), cp_o (by omega), cp_o (by omega), cp_o (by omega), cf_at]
  · rw [cp_o (by omega), cp_o (by omega), cp_o (by omega), cp_o (by omega), cp_at hj, cf_o (by omega)]
  · rw [cp_o (by omega), cp_o (by omega), cp_o (by omega), cp_at hj, cp_o (by omega), cf_o (by omega)]
  · rw [cp_o (by omega), cp_o (by omega), cp_at hj, cp_o (by omega), cp_o (by omega), cf_o (by omega)]
  · rw [cp_o (by omega), cp_at hj, cp_o (by omega), cp_o (by omega), cp_o (by omega), cf_o (by omega)]
  · rw [cp_at hj, cp_o (by omega), cp_o (by omega), cp_o (by omega), cp_o (by omega), cf_o (by omega)]
  · rw [cp_o (by omega), cp_o (by omega), cp_o (by omega), cp_o (by omega), cp_o (by omega), cf_o (by omega)]
theorem cpE_X3 (hp : DK p D) (hq : DK q D) (hd : p + 34 ≤ q ∨ q + 34 ≤ p) : ∃ A', ex S (d + 1) 369 [.ref (q + 18), .ref (p + 18)] (HP D A L T) = some (.inl none, HP D A' L T) ∧ A' (q + 18) 0 = A (p + 18) 0 ∧ A' (q + 18) 1 = A (p + 18) 1 ∧ A' (q + 18) 2 = A (p + 18) 2 ∧ A' (q + 18) 3 = A (p + 18) 3 ∧ A' (q + 18) 4 = A (p + 18) 4 ∧ A' (q + 18) 5 = A (p + 18) 5 ∧ A' (q + 18) 6 = A (p + 18) 6 ∧ (∀ j, j < 240 → A' (q + 19) j = A (p + 19) j) ∧ A' (q + 18) 8 = A (p + 18) 8 ∧ (∀ j, j < 12 → A' (q + 20) j = A (p + 20) j) ∧ (∀ j, j < 12 → A' (q + 21) j = A (p + 21) j) ∧ (∀ j, j < 12 → A' (q + 22) j = A (p + 22) j) ∧ (∀ r, r < q + 18 ∨ q + 23 ≤ r → A' r = A r) := by
  rw [x_X3_copyFrom, g_X3_copyFrom_0]
  rw [q_iR, gpF_r (i := 18) (j := 0) (hp 18 (by decide)) (hq 18 (by decide)) rfl rfl]
  rw [q_iR, gpF_r (i := 18) (j := 1) (hp 18 (by decide)) (hq 18 (by decide)) rfl rfl]
  rw [q_iR, gpF_r (i := 18) (j := 2) (hp 18 (by decide)) (hq 18 (by decide)) rfl rfl]
  rw [q_iR, gpF_r (i := 18) (j := 3) (hp 18 (by decide)) (hq 18 (by decide)) rfl rfl]
  rw [q_iR, gpF_r (i := 18) (j := 4) (hp 18 (by decide)) (hq 18 (by decide)) rfl rfl]
  rw [q_iR, gpF_r (i := 18) (j := 5) (hp 18 (by decide)) (hq 18 (by decide)) rfl rfl]
  rw [q_iR, gpF_r (i := 18) (j := 6) (hp 18 (by decide)) (hq 18 (by decide)) rfl rfl]
  rw [q_iR, gV_H (a := p + 18) (k := 7) (hp 18 (by decide)) rfl rfl, gV_H (a := q + 18) (k := 7) (hq 18 (by decide)) rfl rfl, cpI_r (i := 19) (n := 240) (x := 240) rfl (by decide) (hp 19 (by decide)) (hq 19 (by decide))]
  rw [q_iR, gpF_r (i := 18) (j := 8) (hp 18 (by decide)) (hq 18 (by decide)) rfl rfl]
  rw [q_iR, gV_H (a := p + 18) (k := 9) (hp 18 (by decide)) rfl rfl, gV_H (a := q + 18) (k := 9) (hq 18 (by decide)) rfl rfl, cpI_r (i := 20) (n := 12) (x := 12) rfl (by decide) (hp 20 (by decide)) (hq 20 (by decide))]
  rw [q_iR, gV_H (a := p + 18) (k := 10) (hp 18 (by decide)) rfl rfl, gV_H (a := q + 18) (k := 10) (hq 18 (by decide)) rfl rfl, cpI_r (i := 21) (n := 12) (x := 12) rfl (by decide) (hp 21 (by decide)) (hq 21 (by decide))]
  rw [q_iR, gV_H (a := p + 18) (k := 11) (hp 18 (by decide)) rfl rfl, gV_H (a := q + 18) (k := 11) (hq 18 (by decide)) rfl rfl, cpI_r (i := 22) (n := 12) (x := 12) rfl (by decide) (hp 22 (by decide)) (hq 22 (by decide))]
  refine ⟨_, rfl, ?_, ?_, ?_, ?_, ?_, ?_, ?_, fun j hj => ?_, ?_, fun j hj => ?_, fun j hj => ?_, fun j hj => ?_, fun r hr => ?_⟩
  · rw [cp_o (by omega), cp_o (by omega), cp_o (by omega), cf_j (by decide), cp_o (by omega), cf_j (by decide), cf_j (by decide), cf_j (by decide), cf_j (by decide), cf_j (by decide), cf_j (by decide), cf_at]
  · rw [cp_o (by omega), cp_o (by omega), cp_o (by omega), cf_j (by decide), cp_o (by omega), cf_j (by decide), cf_j (by decide), cf_j (by decide), cf_j (by decide), cf_j (by decide), cf_at, cf_o (by omega)]
  · rw [cp_o (by omega), cp_o (by omega), cp_o (by omega), cf_j (by decide), cp_o (by omega), cf_j (by decide), cf_j (by decide), cf_j (by decide), cf_j (by decide), cf_at, cf_o (by omega), cf_o (by omega)]
  · rw [cp_o (by omega), cp_o (by omega), cp_o (by omega), cf_j (by decide), cp_o (by omega), cf_j (by decide), cf_j (by decide), cf_j (by decide), cf_at, cf_o (by omega), cf_o (by omega), cf_o (by omega)]
  · rw [cp_o (by omega), cp_o (by omega), cp_o (by omega), cf_j (by decide), cp_o (by omega), cf_j (by decide), cf_j (by decide), cf_at, cf_o (by omega), cf_o (by omega), cf_o (by omega), cf_o (by omega)]
  · rw [cp_o (by omega), cp_o (by omega), cp_o (by omega), cf_j (by decide), cp_o (by omega), cf_j (by decide), cf_at, cf_o (by omega), cf_o (by omega), cf_o (by omega), cf_o (by omega), cf_o (by omega)]
  · rw [cp_o (by omega), cp_o (by omega), cp_o (by omega), cf_j (by decide), cp_o (by omega), cf_at, cf_o (by omega), cf_o (by omega), cf_o (by omega), cf_o (by omega), cf_o (by omega), cf_o (by omega)]
  · rw [cp_o (by omega), cp_o (by omega), cp_o (by omega), cf_o (by omega), cp_at hj, cf_o (by omega), cf_o (by omega), cf_o (by omega), cf_o (by omega), cf_o (by omega), cf_o (by omega), cf_o (by omega)]
  · rw [cp_o (by omega), cp_o (by omega), cp_o (by omega), cf_at, cp_o (by omega), cf_o (by omega), cf_o (by omega), cf_o (by omega), cf_o (by omega), cf_o (by omega), cf_o (by omega), cf_o (by omega)]
  · rw [cp_o (by omega), cp_o (by omega), cp_at hj, cf_o (by omega), cp_o (by omega), cf_o (by omega), cf_o (by omega), cf_o (by omega), cf_o (by omega), cf_o (by omega), cf_o (by omega), cf_o (by omega)]
  · rw [cp_o (by omega), cp_at hj, cp_o (by omega), cf_o (by omega), cp_o (by omega), cf_o (by omega), cf_o (by omega), cf_o (by omega), cf_o (by omega), cf_o (by omega), cf_o (by omega), cf_o (by omega)]
  · rw [cp_at hj, cp_o (by omega), cp_o (by omega), cf_o (by omega), cp_o (by omega), cf_o (by omega), cf_o (by omega), cf_o (by omega), cf_o (by omega), cf_o (by omega), cf_o (by omega), cf_o (by omega)]
  · rw [cp_o (by omega), cp_o (by omega), cp_o (by omega), cf_o (by omega), cp_o (by omega), cf_o (by omega), cf_o (by omega), cf_o (by omega), cf_o (by omega), cf_o (by omega), cf_o (by omega), cf_o (by omega)]
theorem cpE_X5 (hp : DK p D) (hq : DK q D) (hd : p + 34 ≤ q ∨ q + 34 ≤ p) : ∃ A', ex S (d + 1) 370 [.ref (q + 23), .ref (p + 23)] (HP D A L T) = some (.inl none, HP D A' L T) ∧ A' (q + 23) 0 = A (p + 23) 0 ∧ A' (q + 23) 1 = A (p + 23) 1 ∧ (∀ j, j < 6 → A' (q + 24) j = A (p + 24) j) ∧ (∀ j, j < 6 → A' (q + 25) j = A (p + 25) j) ∧ (∀ j, j < 6 → A' (q + 26) j = A (p + 26) j) ∧ (∀ j, j < 4 → A' (q + 27) j = A (p + 27) j) ∧ (∀ j, j < 4 → A' (q + 28) j = A (p + 28) j) ∧ (∀ r, r < q + 23 ∨ q + 29 ≤ r → A' r = A r) := by
  rw [x_X5_copyFrom, g_X5_copyFrom_0]
  rw [q_iR, gpF_r (i := 23) (j := 0) (hp 23 (by decide)) (hq 23 (by decide)) rfl rfl]
  rw [q_iR, gpF_r (i := 23) (j := 1) (hp 23 (by decide)) (hq 23 (by decide)) rfl rfl]
  rw [q_iR, gV_H (a := p + 23) (k := 2) (hp 23 (by decide)) rfl rfl, gV_H (a := q + 23) (k := 2) (hq 23 (by decide)) rfl rfl, cpI_r (i := 24) (n := 6) (x := 6) rfl (by decide) (hp 24 (by decide)) (hq 24 (by decide))]
  rw [q_iR, gV_H (a := p + 23) (k := 3) (hp 23 (by decide)) rfl rfl, gV_H (a := q + 23) (k := 3) (hq 23 (by decide)) rfl rfl, cpI_r (i := 25) (n := 6) (x := 6) rfl (by decide) (hp 25 (by decide)) (hq 25 (by decide))]
  rw [q_iR, gV_H (a := p + 23) (k := 4) (hp 23 (by decide)) rfl rfl, gV_H (a := q + 23) (k := 4) (hq 23 (by decide)) rfl rfl, cpI_r (i := 26) (n := 6) (x := 6) rfl (by decide) (hp 26 (by decide)) (hq 26 (by decide))]
  rw [q_iR, gV_H (a := p + 23) (k := 5) (hp 23 (by decide)) rfl rfl, gV_H (a := q + 23) (k := 5) (hq 23 (by decide)) rfl rfl, cpI_r (i := 27) (n := 4) (x := 4) rfl (by decide) (hp 27 (by decide)) (hq 27 (by decide))]
  rw [q_iR, gV_H (a := p + 23) (k := 6) (hp 23 (by decide)) rfl rfl, gV_H (a := q + 23) (k := 6) (hq 23 (by decide)) rfl rfl, cpI_r (i := 28) (n := 4) (x := 4) rfl (by decide) (hp 28 (by decide)) (hq 28 (by decide))]
  refine ⟨_, rfl, ?_, ?_, fun j hj => ?_, fun j hj => ?_, fun j hj => ?_, fun j hj => ?_, fun j hj => ?_, fun r hr => ?_⟩
  · rw [cp_o (by omega), cp_o (by omega), cp_o (by omega), cp_o (by omega), cp_o (by omega), cf_j (by decide), cf_at]
  · rw [cp_o (by omega), cp_o (by omega), cp_o (by omega), cp_o (by omega), cp_o (by omega), cf_at, cf_o (by omega)]
  · rw [cp_o (by omega), cp_o (by omega), cp_o (by omega), cp_o (by omega), cp_at hj, cf_o (by omega), cf_o (by omega)]
  · rw [cp_o (by omega), cp_o (by omega), cp_o (by omega), cp_at hj, cp_o (by omega), cf_o (by omega), cf_o (by omega)]
  · rw [cp_o (by omega), cp_o (by omega), cp_at hj, cp_o (by omega), cp_o (by omega), cf_o (by omega), cf_o (by omega)]
  · rw [cp_o (by omega), cp_at hj, cp_o (by omega), cp_o (by omega), cp_o (by omega), cf_o (by omega), cf_o (by omega)]
  · rw [cp_at hj, cp_o (by omega), cp_o (by omega), cp_o (by omega), cp_o (by omega), cf_o (by omega), cf_o (by omega)]
  · rw [cp_o (by omega), cp_o (by omega), cp_o (by omega), cp_o (by omega), cp_o (by omega), cf_o (by omega), cf_o (by omega)]
theorem cpE_X7 (hp : DK p D) (hq : DK q D) (hd : p + 34 ≤ q ∨ q + 34 ≤ p) : ∃ A', ex S (d + 1) 371 [.ref (q + 29), .ref (p + 29)] (HP D A L T) = some (.inl none, HP D A' L T) ∧ A' (q + 29) 0 = A (p + 29) 0 ∧ (∀ j, j < 192 → A' (q + 30) j = A (p + 30) j) ∧ (∀ j, j < 192 → A' (q + 31) j = A (p + 31) j) ∧ (∀ r, r < q + 29 ∨ q + 32 ≤ r → A' r = A r) := by
  rw [x_X7_copyFrom, g_X7_copyFrom_0]
  rw [q_iR, gpF_r (i := 29) (j := 0) (hp 29 (by decide)) (hq 29 (by decide)) rfl rfl]
  rw [q_iR, gV_H (a := p + 29) (k := 1) (hp 29 (by decide)) rfl rfl, gV_H (a := q + 29) (k := 1) (hq 29 (by decide)) rfl rfl, cpI_r (i := 30) (n := 192) (x := 192) rfl (by decide) (hp 30 (by decide)) (hq 30 (by decide))]
  rw [q_iR, gV_H (a := p + 29) (k := 2) (hp 29 (by decide)) rfl rfl, gV_H (a := q + 29) (k := 2) (hq 29 (by decide)) rfl rfl, cpI_r (i := 31) (n := 192) (x := 192) rfl (by decide) (hp 31 (by decide)) (hq 31 (by decide))]
  refine ⟨_, rfl, ?_, fun j hj => ?_, fun j hj => ?_, fun r hr => ?_⟩
  · rw [cp_o (by omega), cp_o (by omega), cf_at]
  · rw [cp_o (by omega), cp_at hj, cf_o (by omega)]
  · rw [cp_at hj, cp_o (by omega), cf_o (by omega)]
  · rw [cp_o (by omega), cp_o (by omega), cf_o (by omega)]
theorem cpE_X9 (hp : DK p D) (hq : DK q D) (hd : p + 34 ≤ q ∨ q + 34 ≤ p) (ht : ∀ j, j < 12 → T (p + 2) j = none ∨ ∃ a b, T (p + 2) j = some a ∧ D[a]? = some (.inr (11, [none, some (.ref b)]))) : ∃ A' T', ex S (d + 1) 365 [.ref (q + 1), .ref (p + 1)] (HP D A L T) = some (.inl none, HP D A' L T') ∧ A' (q + 1) 0 = A (p + 1) 0 ∧ (∀ j, j < 12 → T' (q + 2) j = T (p + 2) j) ∧ (∀ j, j < 12 → A' (q + 3) j = A (p + 3) j) ∧ (∀ j, j < 12 → A' (q + 4) j = A (p + 4) j) ∧ (∀ r, r < q + 1 ∨ q + 5 ≤ r → A' r = A r) ∧ ∀ r, r ≠ q + 2 → T' r = T r := by
  rw [x_X9_copyFrom, g_X9_copyFrom_0]
  rw [q_iR, gpF_r (i := 1) (j := 0) (hp 1 (by decide)) (hq 1 (by decide)) rfl rfl, q_nr]
  refine loop_Q (α := fA × fT) (F := fun m j s => bd S (ex S d) dflT E_X9_copyFrom m 10 [some (.ref (q + 1)), some (.ref (p + 1)), some (.int (nI j))] [] (HP D s.1 L s.2)) (N := 12) (P := fun n s => s.1 (q + 1) 0 = A (p + 1) 0 ∧ (∀ j, j < n → s.2 (q + 2) j = T (p + 2) j) ∧ (∀ j, j < n → s.1 (q + 3) j = A (p + 3) j) ∧ (∀ j, j < n → s.1 (q + 4) j = A (p + 4) j) ∧ (∀ r, r < q + 1 ∨ q + 5 ≤ r → s.1 r = A r) ∧ ∀ r, r ≠ q + 2 → s.2 r = T r) (Q := fun r => ∃ A' T', r = some (.inl none, HP D A' L T') ∧ A' (q + 1) 0 = A (p + 1) 0 ∧ (∀ j, j < 12 → T' (q + 2) j = T (p + 2) j) ∧ (∀ j, j < 12 → A' (q + 3) j = A (p + 3) j) ∧ (∀ j, j < 12 → A' (q + 4) j = A (p + 4) j) ∧ (∀ r, r < q + 1 ∨ q + 5 ≤ r → A' r = A r) ∧ ∀ r, r ≠ q + 2 → T' r = T r) ?_ ?_ (s := (cfR A p q 1 0, T)) ⟨cf_at, fun j hj => absurd hj (Nat.not_lt_zero _), fun j hj => absurd hj (Nat.not_lt_zero _), fun j hj => absurd hj (Nat.not_lt_zero _), fun r hr => cf_o (by omega), fun _ _ => rfl⟩ (by decide)
  · rintro m n ⟨B, U⟩ hn ⟨h1, h2, h3, h4, h5, h6⟩
    right
    simp only at h1 h2 h3 h4 h5 h6 ⊢
    have c0 : ¬ nI n < 0 := nI_pos (by omega)
    have c1 : (nI n).toNatClampNeg < 12 := by rw [nI_clamp (by omega)]; exact hn
    have eU : U (p + 2) n = T (p + 2) n := by rw [h6 _ (by omega)]
    rw [g_X9_copyFrom_10, if_neg (show ¬ (12 : Int32) ≤ nI n from nI_ge (b := 12) hn (by decide)), gV_H (a := q + 1) (k := 1) (hq 1 (by decide)) rfl rfl, q_iR, gV_H (a := p + 1) (k := 1) (hp 1 (by decide)) rfl rfl, aT_H (hp 2 (by decide)) c0 c1, nI_clamp (by omega), eU, sTx_c (hq 2 (by decide)) hn (by decide) (ht n hn)]
    rw [gV_H (a := q + 1) (k := 2) (hq 1 (by decide)) rfl rfl, q_iR, gV_H (a := p + 1) (k := 2) (hp 1 (by decide)) rfl rfl, aI_H (hp 3 (by decide)) (by decide) c0 c1, sI_H (hq 3 (by decide)) (by decide) c0 c1]
    rw [gV_H (a := q + 1) (k := 3) (hq 1 (by decide)) rfl rfl, q_iR, gV_H (a := p + 1) (k := 3) (hp 1 (by decide)) rfl rfl, aI_H (hp 4 (by decide)) (by decide) c0 c1, sI_H (hq 4 (by decide)) (by decide) c0 c1, q_nr, nI_p1, nI_clamp (by omega)]
    refine ⟨(_, _), rfl, ?_, fun j hj => ?_, fun j hj => ?_, fun j hj => ?_, fun r hr => ?_, fun r hr => ?_⟩
    · show up (up B (q + 3) n (B (p + 3) n)) (q + 4) n _ (q + 1) 0 = _
      rw [up_ne (by omega), up_ne (by omega)]; exact h1
    · show upT U (q + 2) n (T (p + 2) n) (q + 2) j = _
      by_cases e : j = n
      · subst e; simp [upT]
      · rw [show upT U (q + 2) n (T (p + 2) n) (q + 2) j = U (q + 2) j by simp [upT, e]]; exact h2 j (by omega)
    · show up (up B (q + 3) n (B (p + 3) n)) (q + 4) n _ (q + 3) j = _
      rw [up_ne (by omega)]
      by_cases e : j = n
      · subst e; rw [up_ii, h5 _ (by omega)]
      · rw [up_rr e]; exact h3 j (by omega)
    · show up (up B (q + 3) n (B (p + 3) n)) (q + 4) n (up B (q + 3) n (B (p + 3) n) (p + 4) n) (q + 4) j = _
      by_cases e : j = n
      · subst e; rw [up_ii, up_ne (by omega), h5 _ (by omega)]
      · rw [up_rr e, up_ne (by omega)]; exact h4 j (by omega)
    · show up (up B (q + 3) n (B (p + 3) n)) (q + 4) n _ r = _
      rw [up_ne (by omega), up_ne (by omega)]; exact h5 r hr
    · show upT U (q + 2) n (T (p + 2) n) r = _
      rw [upT_ne hr]; exact h6 r hr
  · rintro m ⟨B, U⟩ h
    rw [g_X9_copyFrom_10, if_pos (by decide)]
    exact ⟨B, U, rfl, h⟩
theorem cpE_X1 (hp : DK p D) (hq : DK q D) (hd : p + 34 ≤ q ∨ q + 34 ≤ p) (ht : ∀ j, j < 24 → T (p + 9) j = none ∨ ∃ a b, T (p + 9) j = some a ∧ D[a]? = some (.inr (11, [none, some (.ref b)]))) : ∃ A' T', ex S (d + 1) 367 [.ref (q + 7), .ref (p + 7)] (HP D A L T) = some (.inl none, HP D A' L T') ∧ A' (q + 7) 0 = A (p + 7) 0 ∧ (∀ j, j < 312 → A' (q + 8) j = A (p + 8) j) ∧ (∀ j, j < 24 → T' (q + 9) j = T (p + 9) j) ∧ (∀ r, r < q + 7 ∨ q + 12 ≤ r → A' r = A r) ∧ ∀ r, r ≠ q + 9 → T' r = T r := by
  rw [x_X1_copyFrom, g_X1_copyFrom_0]
  rw [q_iR, gpF_r (i := 7) (j := 0) (hp 7 (by decide)) (hq 7 (by decide)) rfl rfl, q_iR, gV_H (a := p + 7) (k := 1) (hp 7 (by decide)) rfl rfl, gV_H (a := q + 7) (k := 1) (hq 7 (by decide)) rfl rfl, cpI_r (i := 8) (n := 312) (x := 312) rfl (by decide) (hp 8 (by decide)) (hq 8 (by decide)), q_nr]
  obtain ⟨A', e⟩ : ∃ B, B = cpR (cfR A p q 7 0) p q 8 312 := ⟨_, rfl⟩
  rw [← e]
  have a1 : A' (q + 7) 0 = A (p + 7) 0 := by rw [e, cp_o (by omega), cf_at]
  have a2 : ∀ j, j < 312 → A' (q + 8) j = A (p + 8) j := fun j hj => by rw [e, cp_at hj, cf_o (by omega)]
  have a3 : ∀ r, r < q + 7 ∨ q + 12 ≤ r → A' r = A r := fun r hr => by rw [e, cp_o (by omega), cf_o (by omega)]
  refine loop_Q (α := fT) (F := fun m j U => bd S (ex S d) dflT E_X1_copyFrom m 26 [some (.ref (q + 7)), some (.ref (p + 7)), some (.int (nI j))] [] (HP D A' L U)) (N := 24) (P := fun n U => (∀ j, j < n → U (q + 9) j = T (p + 9) j) ∧ ∀ r, r ≠ q + 9 → U r = T r) (Q := fun r => ∃ A' T', r = some (.inl none, HP D A' L T') ∧ A' (q + 7) 0 = A (p + 7) 0 ∧ (∀ j, j < 312 → A' (q + 8) j = A (p + 8) j) ∧ (∀ j, j < 24 → T' (q + 9) j = T (p + 9) j) ∧ (∀ r, r < q + 7 ∨ q + 12 ≤ r → A' r = A r) ∧ ∀ r, r ≠ q + 9 → T' r = T r) ?_ ?_ (s := T) ⟨fun j hj => absurd hj (Nat.not_lt_zero _), fun _ _ => rfl⟩ (by decide)
  · rintro m n U hn ⟨h2, h6⟩
    right
    have c0 : ¬ nI n < 0 := nI_pos (by omega)
    have c1 : (nI n).toNatClampNeg < 24 := by rw [nI_clamp (by omega)]; exact hn
    have eU : U (p + 9) n = T (p + 9) n := by rw [h6 _ (by omega)]
    rw [g_X1_copyFrom_26, if_neg (show ¬ (24 : Int32) ≤ nI n from nI_ge (b := 24) hn (by decide)), gV_H (a := q + 7) (k := 2) (hq 7 (by decide)) rfl rfl, q_iR, gV_H (a := p + 7) (k := 2) (hp 7 (by decide)) rfl rfl, aT_H (hp 9 (by decide)) c0 c1, nI_clamp (by omega), eU, sTx_c (hq 9 (by decide)) hn (by decide) (ht n hn), q_nr, nI_p1]
    refine ⟨_, rfl, fun j hj => ?_, fun r hr => ?_⟩
    · by_cases e : j = n
      · subst e; simp [upT]
      · rw [show upT U (q + 9) n (T (p + 9) n) (q + 9) j = U (q + 9) j by simp [upT, e]]; exact h2 j (by omega)
    · rw [upT_ne hr]; exact h6 r hr
  · rintro m U ⟨h2, h6⟩
    rw [g_X1_copyFrom_26, if_pos (by decide)]
    exact ⟨A', U, rfl, a1, a2, h2, a3, h6⟩
def CpE (p q : Nat) (A : fA) (T : fT) (A' : fA) (T' : fT) : Prop := (∀ r, r < q ∨ q + 32 ≤ r → A' r = A r) ∧ (∀ r, r < q ∨ q + 32 ≤ r → T' r = T r) ∧ A' (q + 0) 7 = A (p + 0) 7 ∧ A' (q + 1) 0 = A (p + 1) 0 ∧ (∀ j, j < 12 → T' (q + 2) j = T (p + 2) j) ∧ (∀ j, j < 12 → A' (q + 3) j = A (p + 3) j) ∧ (∀ j, j < 12 → A' (q + 4) j = A (p + 4) j) ∧ (∀ j, j < 672 → A' (q + 6) j = A (p + 6) j) ∧ A' (q + 7) 0 = A (p + 7) 0 ∧ (∀ j, j < 312 → A' (q + 8) j = A (p + 8) j) ∧ (∀ j, j < 24 → T' (q + 9) j = T (p + 9) j) ∧ A' (q + 12) 0 = A (p + 12) 0 ∧ (∀ j, j < 101 → A' (q + 13) j = A (p + 13) j) ∧ (∀ j, j < 200 → A' (q + 14) j = A (p + 14) j) ∧ (∀ j, j < 200 → A' (q + 15) j = A (p + 15) j) ∧ (∀ j, j < 200 → A' (q + 16) j = A (p + 16) j) ∧ (∀ j, j < 200 → A' (q + 17) j = A (p + 17) j) ∧ A' (q + 18) 0 = A (p + 18) 0 ∧ A' (q + 18) 1 = A (p + 18) 1 ∧ A' (q + 18) 2 = A (p + 18) 2 ∧ A' (q + 18) 3 = A (p + 18) 3 ∧ A' (q + 18) 4 = A (p + 18) 4 ∧ A' (q + 18) 5 = A (p + 18) 5 ∧ A' (q + 18) 6 = A (p + 18) 6 ∧ (∀ j, j < 240 → A' (q + 19) j = A (p + 19) j) ∧ A' (q + 18) 8 = A (p + 18) 8 ∧ (∀ j, j < 12 → A' (q + 20) j = A (p + 20) j) ∧ (∀ j, j < 12 → A' (q + 21) j = A (p + 21) j) ∧ (∀ j, j < 12 → A' (q + 22) j = A (p + 22) j) ∧ A' (q + 23) 0 = A (p + 23) 0 ∧ A' (q + 23) 1 = A (p + 23) 1 ∧ (∀ j, j < 6 → A' (q + 24) j = A (p + 24) j) ∧ (∀ j, j < 6 → A' (q + 25) j = A (p + 25) j) ∧ (∀ j, j < 6 → A' (q + 26) j = A (p + 26) j) ∧ (∀ j, j < 4 → A' (q + 27) j = A (p + 27) j) ∧ (∀ j, j < 4 → A' (q + 28) j = A (p + 28) j) ∧ A' (q + 29) 0 = A (p + 29) 0 ∧ (∀ j, j < 192 → A' (q + 30) j = A (p + 30) j) ∧ (∀ j, j < 192 → A' (q + 31) j = A (p + 31) j)
theorem cpE (hp : DK p D) (hq : DK q D) (hd : p + 34 ≤ q ∨ q + 34 ≤ p) (ht : ∀ j, j < 12 → T (p + 2) j = none ∨ ∃ a b, T (p + 2) j = some a ∧ D[a]? = some (.inr (11, [none, some (.ref b)]))) (hl : ∀ j, j < 24 → T (p + 9) j = none ∨ ∃ a b, T (p + 9) j = some a ∧ D[a]? = some (.inr (11, [none, some (.ref b)]))) : ∃ A' T', ex S (d + 2) 372 [.ref (q + 0), .ref (p + 0)] (HP D A L T) = some (.inl none, HP D A' L T') ∧ CpE p q A T A' T' := by
  obtain ⟨AX9, TX9, rX9, fX9_0, fX9_1, fX9_2, fX9_3, eX9, gX9⟩ := cpE_X9 (S := S) (d := d) (A := A) (L := L) (T := T) hp hq hd ht
  obtain ⟨AX2, rX2, fX2_0, eX2⟩ := cpE_X2 (S := S) (d := d) (A := AX9) (L := L) (T := TX9) hp hq hd
  obtain ⟨AX1, TX1, rX1, fX1_0, fX1_1, fX1_2, eX1, gX1⟩ := cpE_X1 (S := S) (d := d) (A := AX2) (L := L) (T := TX9) hp hq hd (fun j hj => by rw [gX9 _ (by omega)]; exact hl j hj)
  obtain ⟨AX4, rX4, fX4_0, fX4_1, fX4_2, fX4_3, fX4_4, fX4_5, eX4⟩ := cpE_X4 (S := S) (d := d) (A := AX1) (L := L) (T := TX1) hp hq hd
  obtain ⟨AX3, rX3, fX3_0, fX3_1, fX3_2, fX3_3, fX3_4, fX3_5, fX3_6, fX3_7, fX3_8, fX3_9, fX3_10, fX3_11, eX3⟩ := cpE_X3 (S := S) (d := d) (A := AX4) (L := L) (T := TX1) hp hq hd
  obtain ⟨AX5, rX5, fX5_0, fX5_1, fX5_2, fX5_3, fX5_4, fX5_5, fX5_6, eX5⟩ := cpE_X5 (S := S) (d := d) (A := AX3) (L := L) (T := TX1) hp hq hd
  obtain ⟨AX7, rX7, fX7_0, fX7_1, fX7_2, eX7⟩ := cpE_X7 (S := S) (d := d) (A := AX5) (L := L) (T := TX1) hp hq hd
  rw [x_X0_copyFrom, g_X0_copyFrom_0]
  rw [gV_H (a := q + 0) (k := 0) (hq 0 (by decide)) rfl rfl, q_iR, gV_H (a := p + 0) (k := 0) (hp 0 (by decide)) rfl rfl, rC_H (a := q + 1) (hq 1 (by decide)), rX9, q_U]
  rw [gV_H (a := q + 0) (k := 1) (hq 0 (by decide)) rfl rfl, q_iR, gV_H (a := p + 0) (k := 1) (hp 0 (by decide)) rfl rfl, rC_H (a := q + 5) (hq 5 (by decide)), rX2, q_U]
  rw [gV_H (a := q + 0) (k := 2) (hq 0 (by decide)) rfl rfl, q_iR, gV_H (a := p + 0) (k := 2) (hp 0 (by decide)) rfl rfl, rC_H (a := q + 7) (hq 7 (by decide)), rX1, q_U]
  rw [gV_H (a := q + 0) (k := 3) (hq 0 (by decide)) rfl rfl, q_iR, gV_H (a := p + 0) (k := 3) (hp 0 (by decide)) rfl rfl, rC_H (a := q + 12) (hq 12 (by decide)), rX4, q_U]
  rw [gV_H (a := q + 0) (k := 4) (hq 0 (by decide)) rfl rfl, q_iR, gV_H (a := p + 0) (k := 4) (hp 0 (by decide)) rfl rfl, rC_H (a := q + 18) (hq 18 (by decide)), rX3, q_U]
  rw [gV_H (a := q + 0) (k := 5) (hq 0 (by decide)) rfl rfl, q_iR, gV_H (a := p + 0) (k := 5) (hp 0 (by decide)) rfl rfl, rC_H (a := q + 23) (hq 23 (by decide)), rX5, q_U]
  rw [gV_H (a := q + 0) (k := 6) (hq 0 (by decide)) rfl rfl, q_iR, gV_H (a := p + 0) (k := 6) (hp 0 (by decide)) rfl rfl, rC_H (a := q + 29) (hq 29 (by decide)), rX7, q_U]
  rw [q_iR, gpF_r (i := 0) (j := 7) (hp 0 (by decide)) (hq 0 (by decide)) rfl rfl]
  refine ⟨_, _, rfl, fun r hr => ?_, fun r hr => ?_, ?_, ?_, fun j hj => ?_, fun j hj => ?_, fun j hj => ?_, fun j hj => ?_, ?_, fun j hj => ?_, fun j hj => ?_, ?_, fun j hj => ?_, fun j hj => ?_, fun j hj => ?_, fun j hj => ?_, fun j hj => ?_, ?_, ?_, ?_, ?_, ?_, ?_, ?_, fun j hj => ?_, ?_, fun j hj => ?_, fun j hj => ?_, fun j hj => ?_, ?_, ?_, fun j hj => ?_, fun j hj => ?_, fun j hj => ?_, fun j hj => ?_, fun j hj => ?_, ?_, fun j hj => ?_, fun j hj => ?_⟩
  · rw [cf_o (by omega), eX7 r (by omega), eX5 r (by omega), eX3 r (by omega), eX4 r (by omega), eX1 r (by omega), eX2 r (by omega), eX9 r (by omega)]
  · rw [gX1 r (by omega), gX9 r (by omega)]
  · rw [cf_at, eX7 _ (by omega), eX5 _ (by omega), eX3 _ (by omega), eX4 _ (by omega), eX1 _ (by omega), eX2 _ (by omega), eX9 _ (by omega)]
  · rw [cf_o (by omega), eX7 _ (by omega), eX5 _ (by omega), eX3 _ (by omega), eX4 _ (by omega), eX1 _ (by omega), eX2 _ (by omega), fX9_0]
  · rw [gX1 _ (by omega), fX9_1 j hj]
  · rw [cf_o (by omega), eX7 _ (by omega), eX5 _ (by omega), eX3 _ (by omega), eX4 _ (by omega), eX1 _ (by omega), eX2 _ (by omega), fX9_2 j hj]
  · rw [cf_o (by omega), eX7 _ (by omega), eX5 _ (by omega), eX3 _ (by omega), eX4 _ (by omega), eX1 _ (by omega), eX2 _ (by omega), fX9_3 j hj]
  · rw [cf_o (by omega), eX7 _ (by omega), eX5 _ (by omega), eX3 _ (by omega), eX4 _ (by omega), eX1 _ (by omega), fX2_0 j hj, eX9 _ (by omega)]
  · rw [cf_o (by omega), eX7 _ (by omega), eX5 _ (by omega), eX3 _ (by omega), eX4 _ (by omega), fX1_0, eX2 _ (by omega), eX9 _ (by omega)]
  · rw [cf_o (by omega), eX7 _ (by omega), eX5 _ (by omega), eX3 _ (by omega), eX4 _ (by omega), fX1_1 j hj, eX2 _ (by omega), eX9 _ (by omega)]
  · rw [fX1_2 j hj, gX9 _ (by omega)]
  · rw [cf_o (by omega), eX7 _ (by omega), eX5 _ (by omega), eX3 _ (by omega), fX4_0, eX1 _ (by omega), eX2 _ (by omega), eX9 _ (by omega)]
  · rw [cf_o (by omega), eX7 _ (by omega), eX5 _ (by omega), eX3 _ (by omega), fX4_1 j hj, eX1 _ (by omega), eX2 _ (by omega), eX9 _ (by omega)]
  · rw [cf_o (by omega), eX7 _ (by omega), eX5 _ (by omega), eX3 _ (by omega), fX4_2 j hj, eX1 _ (by omega), eX2 _ (by omega), eX9 _ (by omega)]
  · rw [cf_o (by omega), eX7 _ (by omega), eX5 _ (by omega), eX3 _ (by omega), fX4_3 j hj, eX1 _ (by omega), eX2 _ (by omega), eX9 _ (by omega)]
  · rw [cf_o (by omega), eX7 _ (by omega), eX5 _ (by omega), eX3 _ (by omega), fX4_4 j hj, eX1 _ (by omega), eX2 _ (by omega), eX9 _ (by omega)]
  · rw [cf_o (by omega), eX7 _ (by omega), eX5 _ (by omega), eX3 _ (by omega), fX4_5 j hj, eX1 _ (by omega), eX2 _ (by omega), eX9 _ (by omega)]
  · rw [cf_o (by omega), eX7 _ (by omega), eX5 _ (by omega), fX3_0, eX4 _ (by omega), eX1 _ (by omega), eX2 _ (by omega), eX9 _ (by omega)]
  · rw [cf_o (by omega), eX7 _ (by omega), eX5 _ (by omega), fX3_1, eX4 _ (by omega), eX1 _ (by omega), eX2 _ (by omega), eX9 _ (by omega)]
  · rw [cf_o (by omega), eX7 _ (by omega), eX5 _ (by omega), fX3_2, eX4 _ (by omega), eX1 _ (by omega), eX2 _ (by omega), eX9 _ (by omega)]
  · rw [cf_o (by omega), eX7 _ (by omega), eX5 _ (by omega), fX3_3, eX4 _ (by omega), eX1 _ (by omega), eX2 _ (by omega), eX9 _ (by omega)]
  · rw [cf_o (by omega), eX7 _ (by omega), eX5 _ (by omega), fX3_4, eX4 _ (by omega), eX1 _ (by omega), eX2 _ (by omega), eX9 _ (by omega)]
  · rw [cf_o (by omega), eX7 _ (by omega), eX5 _ (by omega), fX3_5, eX4 _ (by omega), eX1 _ (by omega), eX2 _ (by omega), eX9 _ (by omega)]
  · rw [cf_o (by omega), eX7 _ (by omega), eX5 _ (by omega), fX3_6, eX4 _ (by omega), eX1 _ (by omega), eX2 _ (by omega), eX9 _ (by omega)]
  · rw [cf_o (by omega), eX7 _ (by omega), eX5 _ (by omega), fX3_7 j hj, eX4 _ (by omega), eX1 _ (by omega), eX2 _ (by omega), eX9 _ (by omega)]
  · rw [cf_o (by omega), eX7 _ (by omega), eX5 _ (by omega), fX3_8, eX4 _ (by omega), eX1 _ (by omega), eX2 _ (by omega), eX9 _ (by omega)]
  · rw [cf_o (by omega), eX7 _ (by omega), eX5 _ (by omega), fX3_9 j hj, eX4 _ (by omega), eX1 _ (by omega), eX2 _ (by omega), eX9 _ (by omega)]
  · rw [cf_o (by omega), eX7 _ (by omega), eX5 _ (by omega), fX3_10 j hj, eX4 _ (by omega), eX1 _ (by omega), eX2 _ (by omega), eX9 _ (by omega)]
  · rw [cf_o (by omega), eX7 _ (by omega), eX5 _ (by omega), fX3_11 j hj, eX4 _ (by omega), eX1 _ (by omega), eX2 _ (by omega), eX9 _ (by omega)]
  · rw [cf_o (by omega), eX7 _ (by omega), fX5_0, eX3 _ (by omega), eX4 _ (by omega), eX1 _ (by omega), eX2 _ (by omega), eX9 _ (by omega)]
  · rw [cf_o (by omega), eX7 _ (by omega), fX5_1, eX3 _ (by omega), eX4 _ (by omega), eX1 _ (by omega), eX2 _ (by omega), eX9 _ (by omega)]
  · rw [cf_o (by omega), eX7 _ (by omega), fX5_2 j hj, eX3 _ (by omega), eX4 _ (by omega), eX1 _ (by omega), eX2 _ (by omega), eX9 _ (by omega)]
  · rw [cf_o (by omega), eX7 _ (by omega), fX5_3 j hj, eX3 _ (by omega), eX4 _ (by omega), eX1 _ (by omega), eX2 _ (by omega), eX9 _ (by omega)]
  · rw [cf_o (by omega), eX7 _ (by omega), fX5_4 j hj, eX3 _ (by omega), eX4 _ (by omega), eX1 _ (by omega), eX2 _ (by omega), eX9 _ (by omega)]
  · rw [cf_o (by omega), eX7 _ (by omega), fX5_5 j hj, eX3 _ (by omega), eX4 _ (by omega), eX1 _ (by omega), eX2 _ (by omega), eX9 _ (by omega)]
  · rw [cf_o (by omega), eX7 _ (by omega), fX5_6 j hj, eX3 _ (by omega), eX4 _ (by omega), eX1 _ (by omega), eX2 _ (by omega), eX9 _ (by omega)]
  · rw [cf_o (by omega), fX7_0, eX5 _ (by omega), eX3 _ (by omega), eX4 _ (by omega), eX1 _ (by omega), eX2 _ (by omega), eX9 _ (by omega)]
  · rw [cf_o (by omega), fX7_1 j hj, eX5 _ (by omega), eX3 _ (by omega), eX4 _ (by omega), eX1 _ (by omega), eX2 _ (by omega), eX9 _ (by omega)]
  · rw [cf_o (by omega), fX7_2 j hj, eX5 _ (by omega), eX3 _ (by omega), eX4 _ (by omega), eX1 _ (by omega), eX2 _ (by omega), eX9 _ (by omega)]
/-- the copy is tied as the first was -/
theorem LkA_cp {A' : fA} {T' : fT} (hI : Iv c W) (h : LkA p k E A T W) (hC : CpE p q A T A' T') (ha : ∀ r, outK k r → A' r = A r) : LkA q k E A' T' W := by
  obtain ⟨i0, i1, i2, i3, i4, i5, i6, i7, i8, i9, i10⟩ := hI
  obtain ⟨l0, l1, l2, l3, l4, l5, l6, l7⟩ := h
  obtain ⟨-, -, s7, z0, z1, z2, z3, z4, z5, z6, z7, z8, z9, z10, z11, z12, z13, z14, z15, z16, z17, z18, z19, z20, z21, z22, z23, z24, z25, z26, z27, z28, z29, z30, z31, z32, z33, z34, z35⟩ := hC
  have p200 := i3.2.1
  have h24 := i4.2.1
  have x12 := i10.2.1
  refine ⟨?_, ?_, ?_, ?_, ?_, ?_, ?_, ?_⟩
  · exact s7.trans l0
  · intro w f hw hf; rw [z4 _ (by omega)]; exact l1 w f hw hf
  · obtain ⟨m1, m2, m3⟩ := l2
    refine ⟨z8.trans m1, fun i hi => by rw [z9 i hi]; exact m2 i hi, fun k hk => ?_⟩
    obtain ⟨y1, y2, y3, y4⟩ := m3 k hk
    exact ⟨by rw [z10 k (by omega)]; exact y1, by rw [z11 k (by omega)]; exact y2, by rw [z12 k (by omega)]; exact y3, by rw [z13 k (by omega)]; exact y4⟩
  · obtain ⟨⟨m0, m1, m2, m3, m4, m5, m6, m8⟩, n1, n2⟩ := l3
    refine ⟨⟨z14.trans m0, z15.trans m1, z16.trans m2, z17.trans m3, z18.trans m4, z19.trans m5, z20.trans m6, z22.trans m8⟩, fun i hi => by rw [z21 i hi]; exact n1 i hi, fun l hl => ?_⟩
    obtain ⟨y1, y2, y3⟩ := n2 l hl
    exact ⟨by rw [z25 l hl]; exact y1, by rw [z23 l hl]; exact y2, by rw [z24 l hl]; exact y3⟩
  · obtain ⟨m0, m1, m2, m3⟩ := l4
    refine ⟨z26.trans m0, z27.trans m1, fun k hk => ?_, fun t ht => ?_⟩
    · obtain ⟨y1, y2, y3⟩ := m2 k hk
      exact ⟨by rw [z28 k hk]; exact y1, by rw [z29 k hk]; exact y2, by rw [z30 k hk]; exact y3⟩
    · obtain ⟨y1, y2⟩ := m3 t ht
      exact ⟨by rw [z31 t ht]; exact y1, by rw [z32 t ht]; exact y2⟩
  · obtain ⟨m0, m1, m2⟩ := l5
    exact ⟨z33.trans m0, fun i hi => by rw [z34 i hi]; exact m1 i hi, fun i hi => by rw [z35 i hi]; exact m2 i hi⟩
  · obtain ⟨m0, m1, m2, m3⟩ := l6
    refine ⟨z5.trans m0, fun h hh => ?_, fun h hh => by rw [z7 h hh]; exact m2 h hh, fun h hh hk => ?_⟩
    · have z := m1 h hh
      unfold LkC at z ⊢
      have zz := z6
      rw [zz (0 + h) (by omega), zz (24 + h) (by omega), zz (48 + h) (by omega), zz (72 + h) (by omega), zz (96 + h) (by omega), zz (120 + h) (by omega), zz (144 + h) (by omega), zz (168 + h) (by omega), zz (192 + h) (by omega), zz (216 + h) (by omega), zz (240 + h) (by omega), zz (264 + h) (by omega), zz (288 + h) (by omega)]
      exact z
    · obtain ⟨a, e, t⟩ := m3 h hh hk
      exact ⟨a, by rw [z7 h (by omega)]; exact e, TR_A t ha⟩
  · obtain ⟨m0, m1, m2, m3⟩ := l7
    refine ⟨z0.trans m0, fun t ht => by rw [z1 t ht]; exact m1 t ht, fun t ht => ?_, fun i hi => ?_⟩
    · obtain ⟨e0, a, e, z⟩ := m2 t ht
      exact ⟨by rw [z2 t (by omega)]; exact e0, a, by rw [z1 t (by omega)]; exact e, TR_A z ha⟩
    · obtain ⟨t, e1, e2⟩ := m3 i hi
      exact ⟨t, e1, by rw [z3 i (by omega)]; exact e2⟩
theorem DK_4 : DK 4 (D0 k ++ E) := by
  intro i hi
  match i, hi with
  | 0, _ => rfl
  | 1, _ => rfl
  | 2, _ => rfl
  | 3, _ => rfl
  | 4, _ => rfl
  | 5, _ => rfl
  | 6, _ => rfl
  | 7, _ => rfl
  | 8, _ => rfl
  | 9, _ => rfl
  | 10, _ => rfl
  | 11, _ => rfl
  | 12, _ => rfl
  | 13, _ => rfl
  | 14, _ => rfl
  | 15, _ => rfl
  | 16, _ => rfl
  | 17, _ => rfl
  | 18, _ => rfl
  | 19, _ => rfl
  | 20, _ => rfl
  | 21, _ => rfl
  | 22, _ => rfl
  | 23, _ => rfl
  | 24, _ => rfl
  | 25, _ => rfl
  | 26, _ => rfl
  | 27, _ => rfl
  | 28, _ => rfl
  | 29, _ => rfl
  | 30, _ => rfl
  | 31, _ => rfl
  | 32, _ => rfl
  | 33, _ => rfl
  | n + 34, h => exact absurd h (by omega)
end CopyB
