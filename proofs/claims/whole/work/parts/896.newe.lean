/-! an estate is made (laid by gen_newe.py) -/
section NewE
variable {S : sT} {d c : Nat} {k : Value} {E : List dsc} {A : fA} {L : fL} {T : fT} {W : fW} {P X : List dsc}
theorem s_at {j : Nat} : (P ++ X)[P.length + j]? = X[j]? := by
  rw [List.getElem?_append_right (by omega)]; congr 1; omega
theorem s_ln {m : Nat} (h : X.length = m) : List.length (HP (P ++ X) A L T) = P.length + m := by rw [HP_len, List.length_append, h]
theorem s_pFr {j ci f : Nat} {ks : List (Option Value)} {v : Value} {κ : pH → rO} (h : X[j]? = some (.inr (ci, ks))) (hf : Nat.blt f ks.length = true) : pF (HP (P ++ X) A L T) (.ref (P.length + j)) ci f v κ = κ (HP (P ++ X.set j (.inr (ci, ks.set f (some v)))) A L T) := by
  rw [pFr_H (by rw [s_at]; exact h) (Nat.le_of_ble_eq_true hf), List.set_append_right _ _ (by omega)]
  congr 3; congr 1; omega
theorem s_pFi {j ci f : Nat} {ks : List (Option Value)} {x : Int32} {κ : pH → rO} (h : X[j]? = some (.inr (ci, ks))) (hf : ks[f]? = some none) : pF (HP (P ++ X) A L T) (.ref (P.length + j)) ci f (.int x) κ = κ (HP (P ++ X) (up A (P.length + j) f x) L T) := pF_H (by rw [s_at]; exact h) hf
theorem s_mkI {t n m : Nat} {x : Int32} {κ : pH → rO} (hX : X.length = m) (hx : x = nI n) (hn : n ≤ 100000) (ht : t < 3) : mkI (HP (P ++ X) A L T) t x κ = κ (HP (P ++ (X ++ [.inl (t, n)])) (upR A (P.length + m) (fun _ => 0)) L T) := by
  rw [hx, mkI_H ht (nI_pos (by omega)) (by rw [nI_clamp (by omega)]; exact hn), nI_clamp (by omega), List.length_append, hX, List.append_assoc]
theorem s_mkJ {n m : Nat} {x : Int32} {κ : pH → rO} (hX : X.length = m) (hx : x = nI n) (hn : n ≤ 100000) : mkJ (HP (P ++ X) A L T) x κ = κ (HP (P ++ (X ++ [.inl (3, n)])) A (upLR L (P.length + m) (fun _ => 0)) T) := by
  rw [hx, mkJ_H (nI_pos (by omega)) (by rw [nI_clamp (by omega)]; exact hn), nI_clamp (by omega), List.length_append, hX, List.append_assoc]
theorem s_mkT {n m : Nat} {x : Int32} {κ : pH → rO} (hX : X.length = m) (hx : x = nI n) (hn : n ≤ 100000) : mkT (HP (P ++ X) A L T) x κ = κ (HP (P ++ (X ++ [.inl (4, n)])) A L (upTR T (P.length + m) (fun _ => none))) := by
  rw [hx, mkT_H (nI_pos (by omega)) (by rw [nI_clamp (by omega)]; exact hn), nI_clamp (by omega), List.length_append, hX, List.append_assoc]
theorem s_mkO {ci m : Nat} {ks : List (Option Value)} (hX : X.length = m) (h : ∀ (B : fA) (a : Nat), B a = (fun _ => 0) → ks.mapIdx (fldV B a) = dflT ci) : HP (P ++ X) A L T ++ [.inr (ci, dflT ci)] = HP (P ++ (X ++ [.inr (ci, ks)])) (upR A (P.length + m) (fun _ => 0)) L T := by
  rw [mkO_H (h _ _ (by simp [upR])), List.length_append, hX, List.append_assoc]
theorem upTR_o {a r : Nat} {f : Nat → Option Nat} (h : r ≠ a) : upTR T a f r = T r := by simp [upTR, h]
theorem upTR_s {a : Nat} {f : Nat → Option Nat} : upTR T a f a = f := by simp [upTR]
theorem ks_X8 (B : fA) (a : Nat) (h : B a = (fun _ => 0)) : ([none, some .null] : List (Option Value)).mapIdx (fldV B a) = dflT 11 := by simp [fldV, h, dflT, dflL]
theorem ks_X9 (B : fA) (a : Nat) (h : B a = (fun _ => 0)) : ([none, some .null, some .null, some .null] : List (Option Value)).mapIdx (fldV B a) = dflT 12 := by simp [fldV, h, dflT, dflL]
theorem ks_X2 (B : fA) (a : Nat) (h : B a = (fun _ => 0)) : ([some .null] : List (Option Value)).mapIdx (fldV B a) = dflT 5 := by simp [fldV, h, dflT, dflL]
theorem ks_X1 (B : fA) (a : Nat) (h : B a = (fun _ => 0)) : ([none, some .null, some .null, some .null] : List (Option Value)).mapIdx (fldV B a) = dflT 4 := by simp [fldV, h, dflT, dflL]
theorem ks_X4 (B : fA) (a : Nat) (h : B a = (fun _ => 0)) : ([none, some .null, some .null, some .null, some .null, some .null] : List (Option Value)).mapIdx (fldV B a) = dflT 7 := by simp [fldV, h, dflT, dflL]
theorem ks_X3 (B : fA) (a : Nat) (h : B a = (fun _ => 0)) : ([none, none, none, none, none, none, none, some .null, none, some .null, some .null, some .null] : List (Option Value)).mapIdx (fldV B a) = dflT 6 := by simp [fldV, h, dflT, dflL]
theorem ks_X5 (B : fA) (a : Nat) (h : B a = (fun _ => 0)) : ([none, none, some .null, some .null, some .null, some .null, some .null] : List (Option Value)).mapIdx (fldV B a) = dflT 8 := by simp [fldV, h, dflT, dflL]
theorem ks_X7 (B : fA) (a : Nat) (h : B a = (fun _ => 0)) : ([none, some .null, some .null] : List (Option Value)).mapIdx (fldV B a) = dflT 10 := by simp [fldV, h, dflT, dflL]
theorem ks_X6 (B : fA) (a : Nat) (h : B a = (fun _ => 0)) : ([some .null, none, none, none, none, none, none, none, some .null, none, none, none] : List (Option Value)).mapIdx (fldV B a) = dflT 9 := by simp [fldV, h, dflT, dflL]
theorem ks_X0 (B : fA) (a : Nat) (h : B a = (fun _ => 0)) : ([some .null, some .null, some .null, some .null, some .null, some .null, some .null, none, some .null, some .null] : List (Option Value)).mapIdx (fldV B a) = dflT 3 := by simp [fldV, h, dflT, dflL]
theorem ks_X10 (B : fA) (a : Nat) (h : B a = (fun _ => 0)) : ([some .null, some .null, some .null, some .null] : List (Option Value)).mapIdx (fldV B a) = dflT 13 := by simp [fldV, h, dflT, dflL]
theorem ks_X11 (B : fA) (a : Nat) (h : B a = (fun _ => 0)) : ([some .null, some .null, some .null, some .null] : List (Option Value)).mapIdx (fldV B a) = dflT 14 := by simp [fldV, h, dflT, dflL]
theorem mk_X9 (hz : A (P.length + 0) = (fun _ => 0)) : ∃ A' T', ex S (d + 1) 1 [.ref (P.length + 0)] (HP (P ++ [.inr (12, [none, some .null, some .null, some .null])]) A L T) = some (.inl none, HP (P ++ [.inr (12, [none, some (.ref (P.length + 1)), some (.ref (P.length + 2)), some (.ref (P.length + 3))]), .inl (4, 12), .inl (0, 12), .inl (0, 12)]) A' L T') ∧ (∀ r, r < P.length → A' r = A r) ∧ A' (P.length + 0) = (fun _ => 0) ∧ A' (P.length + 2) = (fun _ => 0) ∧ A' (P.length + 3) = (fun _ => 0) ∧ (∀ r, r < P.length → T' r = T r) ∧ (∀ j, T' (P.length + 1) j = none) := by
  rw [x_X9_init, g_X9_init_0]
  rw [s_mkT (m := 1) (n := 12) (x := 12) rfl rfl (by decide), s_ln (m := 1) rfl, s_pFr (j := 0) (ci := 12) (f := 1) rfl rfl]
  rw [s_mkI (m := 2) (n := 12) (x := 12) rfl rfl (by decide) (by decide), s_ln (m := 2) rfl, s_pFr (j := 0) (ci := 12) (f := 2) rfl rfl]
  rw [s_mkI (m := 3) (n := 12) (x := 12) rfl rfl (by decide) (by decide), s_ln (m := 3) rfl, s_pFr (j := 0) (ci := 12) (f := 3) rfl rfl]
  refine ⟨_, _, rfl, fun r hr => ?_, ?_, ?_, ?_, fun r hr => ?_, fun j => ?_⟩
  · rw [upR_o (by omega), upR_o (by omega)]
  · rw [upR_o (by omega), upR_o (by omega)]; exact hz
  · rw [upR_o (by omega), upR_s]
  · rw [upR_s]
  · rw [upTR_o (by omega)]
  · rw [upTR_s]
theorem mk_X4 (hz : A (P.length + 0) = (fun _ => 0)) : ∃ A', ex S (d + 1) 5 [.ref (P.length + 0)] (HP (P ++ [.inr (7, [none, some .null, some .null, some .null, some .null, some .null])]) A L T) = some (.inl none, HP (P ++ [.inr (7, [none, some (.ref (P.length + 1)), some (.ref (P.length + 2)), some (.ref (P.length + 3)), some (.ref (P.length + 4)), some (.ref (P.length + 5))]), .inl (0, 101), .inl (0, 200), .inl (0, 200), .inl (0, 200), .inl (0, 200)]) A' L T) ∧ (∀ r, r < P.length → A' r = A r) ∧ A' (P.length + 0) = (fun _ => 0) ∧ A' (P.length + 1) = (fun _ => 0) ∧ A' (P.length + 2) = (fun _ => 0) ∧ A' (P.length + 3) = (fun _ => 0) ∧ A' (P.length + 4) = (fun _ => 0) ∧ A' (P.length + 5) = (fun _ => 0) := by
  rw [x_X4_init, g_X4_init_0]
  rw [s_mkI (m := 1) (n := 101) (x := 101) rfl rfl (by decide) (by decide), s_ln (m := 1) rfl, s_pFr (j := 0) (ci := 7) (f := 1) rfl rfl]
  rw [s_mkI (m := 2) (n := 200) (x := 200) rfl rfl (by decide) (by decide), s_ln (m := 2) rfl, s_pFr (j := 0) (ci := 7) (f := 2) rfl rfl]
  rw [s_mkI (m := 3) (n := 200) (x := 200) rfl rfl (by decide) (by decide), s_ln (m := 3) rfl, s_pFr (j := 0) (ci := 7) (f := 3) rfl rfl]
  rw [s_mkI (m := 4) (n := 200) (x := 200) rfl rfl (by decide) (by decide), s_ln (m := 4) rfl, s_pFr (j := 0) (ci := 7) (f := 4) rfl rfl]
  rw [s_mkI (m := 5) (n := 200) (x := 200) rfl rfl (by decide) (by decide), s_ln (m := 5) rfl, s_pFr (j := 0) (ci := 7) (f := 5) rfl rfl]
  refine ⟨_, rfl, fun r hr => ?_, ?_, ?_, ?_, ?_, ?_, ?_⟩
  · rw [upR_o (by omega), upR_o (by omega), upR_o (by omega), upR_o (by omega), upR_o (by omega)]
  · rw [upR_o (by omega), upR_o (by omega), upR_o (by omega), upR_o (by omega), upR_o (by omega)]; exact hz
  · rw [upR_o (by omega), upR_o (by omega), upR_o (by omega), upR_o (by omega), upR_s]
  · rw [upR_o (by omega), upR_o (by omega), upR_o (by omega), upR_s]
  · rw [upR_o (by omega), upR_o (by omega), upR_s]
  · rw [upR_o (by omega), upR_s]
  · rw [upR_s]
theorem mk_X3 (hz : A (P.length + 0) = (fun _ => 0)) : ∃ A', ex S (d + 1) 6 [.ref (P.length + 0)] (HP (P ++ [.inr (6, [none, none, none, none, none, none, none, some .null, none, some .null, some .null, some .null])]) A L T) = some (.inl none, HP (P ++ [.inr (6, [none, none, none, none, none, none, none, some (.ref (P.length + 1)), none, some (.ref (P.length + 2)), some (.ref (P.length + 3)), some (.ref (P.length + 4))]), .inl (0, 240), .inl (0, 12), .inl (0, 12), .inl (0, 12)]) A' L T) ∧ (∀ r, r < P.length → A' r = A r) ∧ A' (P.length + 0) = (fun _ => 0) ∧ A' (P.length + 1) = (fun _ => 0) ∧ A' (P.length + 2) = (fun _ => 0) ∧ A' (P.length + 3) = (fun _ => 0) ∧ A' (P.length + 4) = (fun _ => 0) := by
  rw [x_X3_init, g_X3_init_0]
  rw [s_mkI (m := 1) (n := 240) (x := 240) rfl rfl (by decide) (by decide), s_ln (m := 1) rfl, s_pFr (j := 0) (ci := 6) (f := 7) rfl rfl]
  rw [s_mkI (m := 2) (n := 12) (x := 12) rfl rfl (by decide) (by decide), s_ln (m := 2) rfl, s_pFr (j := 0) (ci := 6) (f := 9) rfl rfl]
  rw [s_mkI (m := 3) (n := 12) (x := 12) rfl rfl (by decide) (by decide), s_ln (m := 3) rfl, s_pFr (j := 0) (ci := 6) (f := 10) rfl rfl]
  rw [s_mkI (m := 4) (n := 12) (x := 12) rfl rfl (by decide) (by decide), s_ln (m := 4) rfl, s_pFr (j := 0) (ci := 6) (f := 11) rfl rfl]
  refine ⟨_, rfl, fun r hr => ?_, ?_, ?_, ?_, ?_, ?_⟩
  · rw [upR_o (by omega), upR_o (by omega), upR_o (by omega), upR_o (by omega)]
  · rw [upR_o (by omega), upR_o (by omega), upR_o (by omega), upR_o (by omega)]; exact hz
  · rw [upR_o (by omega), upR_o (by omega), upR_o (by omega), upR_s]
  · rw [upR_o (by omega), upR_o (by omega), upR_s]
  · rw [upR_o (by omega), upR_s]
  · rw [upR_s]
theorem mk_X5 (hz : A (P.length + 0) = (fun _ => 0)) : ∃ A', ex S (d + 1) 7 [.ref (P.length + 0)] (HP (P ++ [.inr (8, [none, none, some .null, some .null, some .null, some .null, some .null])]) A L T) = some (.inl none, HP (P ++ [.inr (8, [none, none, some (.ref (P.length + 1)), some (.ref (P.length + 2)), some (.ref (P.length + 3)), some (.ref (P.length + 4)), some (.ref (P.length + 5))]), .inl (0, 6), .inl (0, 6), .inl (0, 6), .inl (0, 4), .inl (0, 4)]) A' L T) ∧ (∀ r, r < P.length → A' r = A r) ∧ A' (P.length + 0) = (fun _ => 0) ∧ A' (P.length + 1) = (fun _ => 0) ∧ A' (P.length + 2) = (fun _ => 0) ∧ A' (P.length + 3) = (fun _ => 0) ∧ A' (P.length + 4) = (fun _ => 0) ∧ A' (P.length + 5) = (fun _ => 0) := by
  rw [x_X5_init, g_X5_init_0]
  rw [s_mkI (m := 1) (n := 6) (x := 6) rfl rfl (by decide) (by decide), s_ln (m := 1) rfl, s_pFr (j := 0) (ci := 8) (f := 2) rfl rfl]
  rw [s_mkI (m := 2) (n := 6) (x := 6) rfl rfl (by decide) (by decide), s_ln (m := 2) rfl, s_pFr (j := 0) (ci := 8) (f := 3) rfl rfl]
  rw [s_mkI (m := 3) (n := 6) (x := 6) rfl rfl (by decide) (by decide), s_ln (m := 3) rfl, s_pFr (j := 0) (ci := 8) (f := 4) rfl rfl]
  rw [s_mkI (m := 4) (n := 4) (x := 4) rfl rfl (by decide) (by decide), s_ln (m := 4) rfl, s_pFr (j := 0) (ci := 8) (f := 5) rfl rfl]
  rw [s_mkI (m := 5) (n := 4) (x := 4) rfl rfl (by decide) (by decide), s_ln (m := 5) rfl, s_pFr (j := 0) (ci := 8) (f := 6) rfl rfl]
  refine ⟨_, rfl, fun r hr => ?_, ?_, ?_, ?_, ?_, ?_, ?_⟩
  · rw [upR_o (by omega), upR_o (by omega), upR_o (by omega), upR_o (by omega), upR_o (by omega)]
  · rw [upR_o (by omega), upR_o (by omega), upR_o (by omega), upR_o (by omega), upR_o (by omega)]; exact hz
  · rw [upR_o (by omega), upR_o (by omega), upR_o (by omega), upR_o (by omega), upR_s]
  · rw [upR_o (by omega), upR_o (by omega), upR_o (by omega), upR_s]
  · rw [upR_o (by omega), upR_o (by omega), upR_s]
  · rw [upR_o (by omega), upR_s]
  · rw [upR_s]
theorem mk_X7 (hz : A (P.length + 0) = (fun _ => 0)) : ∃ A', ex S (d + 1) 8 [.ref (P.length + 0)] (HP (P ++ [.inr (10, [none, some .null, some .null])]) A L T) = some (.inl none, HP (P ++ [.inr (10, [none, some (.ref (P.length + 1)), some (.ref (P.length + 2))]), .inl (0, 192), .inl (0, 192)]) A' L T) ∧ (∀ r, r < P.length → A' r = A r) ∧ A' (P.length + 0) = (fun _ => 0) ∧ A' (P.length + 1) = (fun _ => 0) ∧ A' (P.length + 2) = (fun _ => 0) := by
  rw [x_X7_init, g_X7_init_0]
  rw [s_mkI (m := 1) (n := 192) (x := 192) rfl rfl (by decide) (by decide), s_ln (m := 1) rfl, s_pFr (j := 0) (ci := 10) (f := 1) rfl rfl]
  rw [s_mkI (m := 2) (n := 192) (x := 192) rfl rfl (by decide) (by decide), s_ln (m := 2) rfl, s_pFr (j := 0) (ci := 10) (f := 2) rfl rfl]
  refine ⟨_, rfl, fun r hr => ?_, ?_, ?_, ?_⟩
  · rw [upR_o (by omega), upR_o (by omega)]
  · rw [upR_o (by omega), upR_o (by omega)]; exact hz
  · rw [upR_o (by omega), upR_s]
  · rw [upR_s]
theorem mk_X8 (hz : A (P.length + 0) = (fun _ => 0)) : ∃ A', ex S (d + 1) 3 [.ref (P.length + 0)] (HP (P ++ [.inr (11, [none, some .null])]) A L T) = some (.inl none, HP (P ++ [.inr (11, [none, some (.ref (P.length + 1))]), .inl (0, 0)]) A' L T) ∧ (∀ r, r < P.length → A' r = A r) ∧ A' (P.length + 0) 0 = 0 := by
  rw [x_X8_init, g_X8_init_0, s_pFi (j := 0) (f := 0) rfl rfl, s_mkI (m := 1) (n := 0) (x := 0) rfl rfl (by decide) (by decide), s_ln (m := 1) rfl, s_pFr (j := 0) (ci := 11) (f := 1) rfl rfl]
  exact ⟨_, rfl, fun r hr => by rw [upR_o (by omega), up_ne (by omega)], by rw [upR_o (by omega)]; exact up_ii⟩
/-- the fields at first -/
def lnd0 (j : Nat) : Int32 := if j < 48 then 5 else if 480 ≤ j ∧ j < 528 then -1 else 0
theorem mk_X2 : ∃ A', ex S (d + 1) 2 [.ref (P.length + 0)] (HP (P ++ [.inr (5, [some .null])]) A L T) = some (.inl none, HP (P ++ [.inr (5, [some (.ref (P.length + 1))]), .inl (0, 672)]) A' L T) ∧ (∀ r, r < P.length → A' r = A r) ∧ A' (P.length + 1) = lnd0 := by
  rw [x_X2_init, g_X2_init_0, s_mkI (m := 1) (n := 672) (x := 672) rfl rfl (by decide) (by decide), s_ln (m := 1) rfl, s_pFr (j := 0) (ci := 5) (f := 0) rfl rfl]
  refine loop_Q (α := fA) (F := fun m f B => bd S (ex S d) dflT E_X2_init m 15 [some (.ref (P.length + 0)), some (.int (nI f))] [] (HP (P ++ [.inr (5, [some (.ref (P.length + 1))]), .inl (0, 672)]) B L T)) (N := 48) (P := fun f B => (∀ r, r < P.length → B r = A r) ∧ ∀ j, B (P.length + 1) j = if j < f then 5 else if 480 ≤ j ∧ j < 480 + f then -1 else 0) (Q := fun r => ∃ A', r = some (.inl none, HP (P ++ [.inr (5, [some (.ref (P.length + 1))]), .inl (0, 672)]) A' L T) ∧ (∀ r, r < P.length → A' r = A r) ∧ A' (P.length + 1) = lnd0) ?_ ?_ (s := upR A (P.length + 1) (fun _ => 0)) ⟨fun r hr => upR_o (by omega), fun j => by rw [upR_s, if_neg (by omega), if_neg (by omega)]⟩ (m := 99999) (by decide)
  · rintro m f B hf ⟨h1, h2⟩
    right
    have a0 : (P ++ [(.inr (5, [some (.ref (P.length + 1))]) : dsc), .inl (0, 672)])[P.length + 0]? = some (.inr (5, [some (.ref (P.length + 1))])) := by rw [s_at]; rfl
    have a1 : (P ++ [(.inr (5, [some (.ref (P.length + 1))]) : dsc), .inl (0, 672)])[P.length + 1]? = some (.inl (0, 672)) := by rw [s_at]; rfl
    have e0 : (0 : Int32) + nI f = nI f := by rw [show (0 : Int32) = nI 0 from rfl, nI_add, Nat.zero_add]
    have e1 : (480 : Int32) + nI f = nI (480 + f) := by rw [show (480 : Int32) = nI 480 from rfl, nI_add]
    rw [g_X2_init_15, if_neg (show ¬ (48 : Int32) ≤ nI f from nI_ge (b := 48) hf (by decide)), gV_H a0 rfl rfl, e0, sI_H a1 (by decide) (nI_pos (by omega)) (by rw [nI_clamp (by omega)]; omega), gV_H a0 rfl rfl, e1, sI_H a1 (by decide) (nI_pos (by omega)) (by rw [nI_clamp (by omega)]; omega), nI_clamp (by omega), nI_clamp (by omega), nI_p1]
    refine ⟨_, rfl, fun r hr => by rw [up_ne (by omega), up_ne (by omega)]; exact h1 r hr, fun j => ?_⟩
    by_cases q1 : j = 480 + f
    · subst q1; rw [up_ii, if_neg (by omega), if_pos (by omega)]
    · rw [up_rr q1]
      by_cases q2 : j = f
      · subst q2; rw [up_ii, if_pos (by omega)]
      · rw [up_rr q2, h2 j]
        by_cases q3 : j < f
        · rw [if_pos q3, if_pos (by omega)]
        · rw [if_neg q3, if_neg (show ¬ j < f + 1 by omega)]
          by_cases q4 : 480 ≤ j ∧ j < 480 + f
          · rw [if_pos q4, if_pos (by omega)]
          · rw [if_neg q4, if_neg (by omega)]
  · rintro m B ⟨h1, h2⟩
    rw [g_X2_init_15, if_pos (by decide)]
    exact ⟨B, rfl, h1, funext (fun j => by rw [h2 j]; rfl)⟩
theorem mk_X1 (hz : A (P.length + 0) = (fun _ => 0)) : ∃ A' T', ex S (d + 2) 4 [.ref (P.length + 0)] (HP (P ++ [.inr (4, [none, some .null, some .null, some .null])]) A L T) = some (.inl none, HP (P ++ [.inr (4, [none, some (.ref (P.length + 1)), some (.ref (P.length + 2)), some (.ref (P.length + 3))]), .inl (0, 312), .inl (4, 24), .inr (11, [none, some (.ref (P.length + 4))]), .inl (0, 0)]) A' L T') ∧ (∀ r, r < P.length → A' r = A r) ∧ A' (P.length + 0) = (fun _ => 0) ∧ A' (P.length + 1) = (fun _ => 0) ∧ (∀ r, r < P.length → T' r = T r) ∧ (∀ j, T' (P.length + 2) j = none) := by
  rw [x_X1_init, g_X1_init_0]
  rw [s_mkI (m := 1) (n := 312) (x := 312) rfl rfl (by decide) (by decide), s_ln (m := 1) rfl, s_pFr (j := 0) (ci := 4) (f := 1) rfl rfl]
  rw [s_mkT (m := 2) (n := 24) (x := 24) rfl rfl (by decide), s_ln (m := 2) rfl, s_pFr (j := 0) (ci := 4) (f := 2) rfl rfl]
  show ∃ A' T', (cUx tN (ex S (d + 1) 3 [.ref (List.length (HP (P ++ [.inr (4, [none, some (.ref (P.length + 1)), some (.ref (P.length + 2)), some .null]), .inl (0, 312), .inl (4, 24)]) (upR A (P.length + 1) (fun _ => 0)) L (upTR T (P.length + 2) (fun _ => none))))] (HP (P ++ [.inr (4, [none, some (.ref (P.length + 1)), some (.ref (P.length + 2)), some .null]), .inl (0, 312), .inl (4, 24)]) (upR A (P.length + 1) (fun _ => 0)) L (upTR T (P.length + 2) (fun _ => none)) ++ [.inr (11, dflT 11)])) (fun h5 => pF h5 (.ref (P.length + 0)) 4 3 (.ref (List.length (HP (P ++ [.inr (4, [none, some (.ref (P.length + 1)), some (.ref (P.length + 2)), some .null]), .inl (0, 312), .inl (4, 24)]) (upR A (P.length + 1) (fun _ => 0)) L (upTR T (P.length + 2) (fun _ => none))))) (fun h6 => some (.inl none, h6)))) = _ ∧ _
  rw [s_mkO (m := 3) rfl ks_X8, s_ln (m := 3) rfl]
  obtain ⟨Q, hQ⟩ : ∃ Q : List dsc, Q = P ++ [.inr (4, [none, some (.ref (P.length + 1)), some (.ref (P.length + 2)), some .null]), .inl (0, 312), .inl (4, 24)] := ⟨_, rfl⟩
  have lQ : Q.length = P.length + 3 := by rw [hQ, List.length_append]; rfl
  obtain ⟨B, hB⟩ : ∃ B, B = upR (upR A (P.length + 1) (fun _ => 0)) (P.length + 3) (fun _ => 0) := ⟨_, rfl⟩
  obtain ⟨A', r1, r2, r3⟩ := mk_X8 (S := S) (d := d) (P := Q) (A := B) (L := L) (T := upTR T (P.length + 2) (fun _ => none)) (by rw [lQ, hB]; exact upR_s)
  rw [lQ] at r1 r2
  rw [hQ, List.append_assoc, List.append_assoc, hB] at r1
  rw [show ex S (d + 1) 3 [.ref (P.length + 3)] _ = _ from r1, q_Ux]
  have st := s_pFr (P := P) (X := [.inr (4, [none, some (.ref (P.length + 1)), some (.ref (P.length + 2)), some .null]), .inl (0, 312), .inl (4, 24), .inr (11, [none, some (.ref (P.length + 4))]), .inl (0, 0)]) (A := A') (L := L) (T := upTR T (P.length + 2) (fun _ => none)) (j := 0) (ci := 4) (f := 3) (ks := [none, some (.ref (P.length + 1)), some (.ref (P.length + 2)), some .null]) (v := .ref (P.length + 3)) (κ := fun h6 => some (.inl none, h6)) rfl rfl
  refine ⟨A', _, st, fun r hr => ?_, ?_, ?_, fun r hr => upTR_o (by omega), fun j => by rw [upTR_s]⟩
  · rw [r2 r (by omega), hB, upR_o (by omega), upR_o (by omega)]
  · rw [r2 _ (by omega), hB, upR_o (by omega), upR_o (by omega)]; exact hz
  · rw [r2 _ (by omega), hB, upR_o (by omega), upR_s]
def DEl (K : Nat) : List dsc := [.inr (3, [some (.ref (K + 1)), some (.ref (K + 5)), some (.ref (K + 7)), some (.ref (K + 12)), some (.ref (K + 18)), some (.ref (K + 23)), some (.ref (K + 29)), none, some (.ref (K + 32)), some (.ref (K + 33))]), .inr (12, [none, some (.ref (K + 2)), some (.ref (K + 3)), some (.ref (K + 4))]), .inl (4, 12), .inl (0, 12), .inl (0, 12), .inr (5, [some (.ref (K + 6))]), .inl (0, 672), .inr (4, [none, some (.ref (K + 8)), some (.ref (K + 9)), some (.ref (K + 10))]), .inl (0, 312), .inl (4, 24), .inr (11, [none, some (.ref (K + 11))]), .inl (0, 0), .inr (7, [none, some (.ref (K + 13)), some (.ref (K + 14)), some (.ref (K + 15)), some (.ref (K + 16)), some (.ref (K + 17))]), .inl (0, 101), .inl (0, 200), .inl (0, 200), .inl (0, 200), .inl (0, 200), .inr (6, [none, none, none, none, none, none, none, some (.ref (K + 19)), none, some (.ref (K + 20)), some (.ref (K + 21)), some (.ref (K + 22))]), .inl (0, 240), .inl (0, 12), .inl (0, 12), .inl (0, 12), .inr (8, [none, none, some (.ref (K + 24)), some (.ref (K + 25)), some (.ref (K + 26)), some (.ref (K + 27)), some (.ref (K + 28))]), .inl (0, 6), .inl (0, 6), .inl (0, 6), .inl (0, 4), .inl (0, 4), .inr (10, [none, some (.ref (K + 30)), some (.ref (K + 31))]), .inl (0, 192), .inl (0, 192), .inl (0, 6), .inl (3, 51)]
theorem DK_el : DK P.length (P ++ DEl P.length) := by
  intro i hi
  rw [s_at]
  match i, hi with
  | 0, _ => rfl
  | 1, _ => rfl
  | 2, _ => rfl
  | 3, _ => rfl
  | 4, _ => rfl
  | 5, _ => rfl
  | 6, _ => rfl
  | 7, _ => rfl
  | 8, _ => rfl
  | 9, _ => rfl
  | 10, _ => rfl
  | 11, _ => rfl
  | 12, _ => rfl
  | 13, _ => rfl
  | 14, _ => rfl
  | 15, _ => rfl
  | 16, _ => rfl
  | 17, _ => rfl
  | 18, _ => rfl
  | 19, _ => rfl
  | 20, _ => rfl
  | 21, _ => rfl
  | 22, _ => rfl
  | 23, _ => rfl
  | 24, _ => rfl
  | 25, _ => rfl
  | 26, _ => rfl
  | 27, _ => rfl
  | 28, _ => rfl
  | 29, _ => rfl
  | 30, _ => rfl
  | 31, _ => rfl
  | 32, _ => rfl
  | 33, _ => rfl
  | n + 34, h => exact absurd h (by omega)
theorem mk_X0 (hz : A (P.length + 0) = (fun _ => 0)) : ∃ A' L' T', ex S (d + 3) 9 [.ref (P.length + 0)] (HP (P ++ [.inr (3, [some .null, some .null, some .null, some .null, some .null, some .null, some .null, none, some .null, some .null])]) A L T) = some (.inl none, HP (P ++ DEl P.length) A' L' T') ∧ (∀ r, r < P.length → A' r = A r) ∧ A' (P.length + 0) 7 = 0 ∧ A' (P.length + 1) = (fun _ => 0) ∧ A' (P.length + 3) = (fun _ => 0) ∧ A' (P.length + 4) = (fun _ => 0) ∧ A' (P.length + 7) = (fun _ => 0) ∧ A' (P.length + 8) = (fun _ => 0) ∧ A' (P.length + 12) = (fun _ => 0) ∧ A' (P.length + 13) = (fun _ => 0) ∧ A' (P.length + 14) = (fun _ => 0) ∧ A' (P.length + 15) = (fun _ => 0) ∧ A' (P.length + 16) = (fun _ => 0) ∧ A' (P.length + 17) = (fun _ => 0) ∧ A' (P.length + 18) = (fun _ => 0) ∧ A' (P.length + 19) = (fun _ => 0) ∧ A' (P.length + 20) = (fun _ => 0) ∧ A' (P.length + 21) = (fun _ => 0) ∧ A' (P.length + 22) = (fun _ => 0) ∧ A' (P.length + 23) = (fun _ => 0) ∧ A' (P.length + 24) = (fun _ => 0) ∧ A' (P.length + 25) = (fun _ => 0) ∧ A' (P.length + 26) = (fun _ => 0) ∧ A' (P.length + 27) = (fun _ => 0) ∧ A' (P.length + 28) = (fun _ => 0) ∧ A' (P.length + 29) = (fun _ => 0) ∧ A' (P.length + 30) = (fun _ => 0) ∧ A' (P.length + 31) = (fun _ => 0) ∧ A' (P.length + 6) = lnd0 ∧ A' (P.length + 32) = (fun _ => 0) ∧ (∀ r, r < P.length → T' r = T r) ∧ (∀ j, T' (P.length + 2) j = none) ∧ (∀ j, T' (P.length + 9) j = none) := by
  rw [x_X0_init, g_X0_init_0]
  rw [s_mkO (m := 1) rfl ks_X9, s_ln (m := 1) rfl]
  obtain ⟨QX9, hQX9⟩ : ∃ Q : List dsc, Q = P ++ [.inr (3, [some .null, some .null, some .null, some .null, some .null, some .null, some .null, none, some .null, some .null])] := ⟨_, rfl⟩
  have lQX9 : QX9.length = P.length + 1 := by rw [hQX9, List.length_append]; rfl
  obtain ⟨AX9, TX9, rX9, eX9_r, eX9_0, eX9_2, eX9_3, eX9_Tr, eX9_T1⟩ := mk_X9 (S := S) (d := d + 1) (P := QX9) (A := upR A (P.length + 1) (fun _ => 0)) (L := L) (T := T) (by rw [lQX9]; exact upR_s)
  rw [lQX9] at rX9 eX9_r eX9_0 eX9_2 eX9_3 eX9_Tr eX9_T1
  rw [hQX9, List.append_assoc, List.append_assoc] at rX9
  rw [show ex S (d + 2) 1 [.ref (P.length + 1)] _ = _ from rX9, q_Ux]
  have stX9 := fun κ => s_pFr (P := P) (X := [.inr (3, [some .null, some .null, some .null, some .null, some .null, some .null, some .null, none, some .null, some .null]), .inr (12, [none, some (.ref (P.length + 2)), some (.ref (P.length + 3)), some (.ref (P.length + 4))]), .inl (4, 12), .inl (0, 12), .inl (0, 12)]) (A := AX9) (L := L) (T := TX9) (j := 0) (ci := 3) (f := 0) (ks := [some .null, some .null, some .null, some .null, some .null, some .null, some .null, none, some .null, some .null]) (v := .ref (P.length + 1)) (κ := κ) rfl rfl
  erw [stX9]
  rw [show P ++ List.set [.inr (3, [some .null, some .null, some .null, some .null, some .null, some .null, some .null, none, some .null, some .null]), .inr (12, [none, some (.ref (P.length + 2)), some (.ref (P.length + 3)), some (.ref (P.length + 4))]), .inl (4, 12), .inl (0, 12), .inl (0, 12)] 0 (.inr (3, List.set [some .null, some .null, some .null, some .null, some .null, some .null, some .null, none, some .null, some .null] 0 (some (.ref (P.length + 1))))) = P ++ [.inr (3, [some (.ref (P.length + 1)), some .null, some .null, some .null, some .null, some .null, some .null, none, some .null, some .null]), .inr (12, [none, some (.ref (P.length + 2)), some (.ref (P.length + 3)), some (.ref (P.length + 4))]), .inl (4, 12), .inl (0, 12), .inl (0, 12)] from rfl]
  rw [s_mkO (m := 5) rfl ks_X2, s_ln (m := 5) rfl]
  obtain ⟨QX2, hQX2⟩ : ∃ Q : List dsc, Q = P ++ [.inr (3, [some (.ref (P.length + 1)), some .null, some .null, some .null, some .null, some .null, some .null, none, some .null, some .null]), .inr (12, [none, some (.ref (P.length + 2)), some (.ref (P.length + 3)), some (.ref (P.length + 4))]), .inl (4, 12), .inl (0, 12), .inl (0, 12)] := ⟨_, rfl⟩
  have lQX2 : QX2.length = P.length + 5 := by rw [hQX2, List.length_append]; rfl
  obtain ⟨AX2, rX2, eX2_r, eX2_L⟩ := mk_X2 (S := S) (d := d + 1) (P := QX2) (A := upR AX9 (P.length + 5) (fun _ => 0)) (L := L) (T := TX9) 
  rw [lQX2] at rX2 eX2_r eX2_L
  rw [hQX2, List.append_assoc, List.append_assoc] at rX2
  rw [show ex S (d + 2) 2 [.ref (P.length + 5)] _ = _ from rX2, q_Ux]
  have stX2 := fun κ => s_pFr (P := P) (X := [.inr (3, [some (.ref (P.length + 1)), some .null, some .null, some .null, some .null, some .null, some .null, none, some .null, some .null]), .inr (12, [none, some (.ref (P.length + 2)), some (.ref (P.length + 3)), some (.ref (P.length + 4))]), .inl (4, 12), .inl (0, 12), .inl (0, 12), .inr (5, [some (.ref (P.length + 6))]), .inl (0, 672)]) (A := AX2) (L := L) (T := TX9) (j := 0) (ci := 3) (f := 1) (ks := [some (.ref (P.length + 1)), some .null, some .null, some .null, some .null, some .null, some .null, none, some .null, some .null]) (v := .ref (P.length + 5)) (κ := κ) rfl rfl
  erw [stX2]
  rw [show P ++ List.set [.inr (3, [some (.ref (P.length + 1)), some .null, some .null, some .null, some .null, some .null, some .null, none, some .null, some .null]), .inr (12, [none, some (.ref (P.length + 2)), some (.ref (P.length + 3)), some (.ref (P.length + 4))]), .inl (4, 12), .inl (0, 12), .inl (0, 12), .inr (5, [some (.ref (P.length + 6))]), .inl (0, 672)] 0 (.inr (3, List.set [some (.ref (P.length + 1)), some .null, some .null, some .null, some .null, some .null, some .null, none, some .null, some .null] 1 (some (.ref (P.length + 5))))) = P ++ [.inr (3, [some (.ref (P.length + 1)), some (.ref (P.length + 5)), some .null, some .null, some .null, some .null, some .null, none, some .null, some .null]), .inr (12, [none, some (.ref (P.length + 2)), some (.ref (P.length + 3)), some (.ref (P.length + 4))]), .inl (4, 12), .inl (0, 12), .inl (0, 12), .inr (5, [some (.ref (P.length + 6))]), .inl (0, 672)] from rfl]
  rw [s_mkO (m := 7) rfl ks_X1, s_ln (m := 7) rfl]
  obtain ⟨QX1, hQX1⟩ : ∃ Q : List dsc, Q = P ++ [.inr (3, [some (.ref (P.length + 1)), some (.ref (P.length + 5)), some .null, some .null, some .null, some .null, some .null, none, some .null, some .null]), .inr (12, [none, some (.ref (P.length + 2)), some (.ref (P.length + 3)), some (.ref (P.length + 4))]), .inl (4, 12), .inl (0, 12), .inl (0, 12), .inr (5, [some (.ref (P.length + 6))]), .inl (0, 672)] := ⟨_, rfl⟩
  have lQX1 : QX1.length = P.length + 7 := by rw [hQX1, List.length_append]; rfl
  obtain ⟨AX1, TX1, rX1, eX1_r, eX1_0, eX1_1, eX1_Tr, eX1_T2⟩ := mk_X1 (S := S) (d := d + 0) (P := QX1) (A := upR AX2 (P.length + 7) (fun _ => 0)) (L := L) (T := TX9) (by rw [lQX1]; exact upR_s)
  rw [lQX1] at rX1 eX1_r eX1_0 eX1_1 eX1_Tr eX1_T2
  rw [hQX1, List.append_assoc, List.append_assoc] at rX1
  rw [show ex S (d + 2) 4 [.ref (P.length + 7)] _ = _ from rX1, q_Ux]
  have stX1 := fun κ => s_pFr (P := P) (X := [.inr (3, [some (.ref (P.length + 1)), some (.ref (P.length + 5)), some .null, some .null, some .null, some .null, some .null, none, some .null, some .null]), .inr (12, [none, some (.ref (P.length + 2)), some (.ref (P.length + 3)), some (.ref (P.length + 4))]), .inl (4, 12), .inl (0, 12), .inl (0, 12), .inr (5, [some (.ref (P.length + 6))]), .inl (0, 672), .inr (4, [none, some (.ref (P.length + 8)), some (.ref (P.length + 9)), some (.ref (P.length + 10))]), .inl (0, 312), .inl (4, 24), .inr (11, [none, some (.ref (P.length + 11))]), .inl (0, 0)]) (A := AX1) (L := L) (T := TX1) (j := 0) (ci := 3) (f := 2) (ks := [some (.ref (P.length + 1)), some (.ref (P.length + 5)), some .null, some .null, some .null, some .null, some .null, none, some .null, some .null]) (v := .ref (P.length + 7)) (κ := κ) rfl rfl
  erw [stX1]
  rw [show P ++ List.set [.inr (3, [some (.ref (P.length + 1)), some (.ref (P.length + 5)), some .null, some .null, some .null, some .null, some .null, none, some .null, some .null]), .inr (12, [none, some (.ref (P.length + 2)), some (.ref (P.length + 3)), some (.ref (P.length + 4))]), .inl (4, 12), .inl (0, 12), .inl (0, 12), .inr (5, [some (.ref (P.length + 6))]), .inl (0, 672), .inr (4, [none, some (.ref (P.length + 8)), some (.ref (P.length + 9)), some (.ref (P.length + 10))]), .inl (0, 312), .inl (4, 24), .inr (11, [none, some (.ref (P.length + 11))]), .inl (0, 0)] 0 (.inr (3, List.set [some (.ref (P.length + 1)), some (.ref (P.length + 5)), some .null, some .null, some .null, some .null, some .null, none, some .null, some .null] 2 (some (.ref (P.length + 7))))) = P ++ [.inr (3, [some (.ref (P.length + 1)), some (.ref (P.length + 5)), some (.ref (P.length + 7)), some .null, some .null, some .null, some .null, none, some .null, some .null]), .inr (12, [none, some (.ref (P.length + 2)), some (.ref (P.length + 3)), some (.ref (P.length + 4))]), .inl (4, 12), .inl (0, 12), .inl (0, 12), .inr (5, [some (.ref (P.length + 6))]), .inl (0, 672), .inr (4, [none, some (.ref (P.length + 8)), some (.ref (P.length + 9)), some (.ref (P.length + 10))]), .inl (0, 312), .inl (4, 24), .inr (11, [none, some (.ref (P.length + 11))]), .inl (0, 0)] from rfl]
  rw [s_mkO (m := 12) rfl ks_X4, s_ln (m := 12) rfl]
  obtain ⟨QX4, hQX4⟩ : ∃ Q : List dsc, Q = P ++ [.inr (3, [some (.ref (P.length + 1)), some (.ref (P.length + 5)), some (.ref (P.length + 7)), some .null, some .null, some .null, some .null, none, some .null, some .null]), .inr (12, [none, some (.ref (P.length + 2)), some (.ref (P.length + 3)), some (.ref (P.length + 4))]), .inl (4, 12), .inl (0, 12), .inl (0, 12), .inr (5, [some (.ref (P.length + 6))]), .inl (0, 672), .inr (4, [none, some (.ref (P.length + 8)), some (.ref (P.length + 9)), some (.ref (P.length + 10))]), .inl (0, 312), .inl (4, 24), .inr (11, [none, some (.ref (P.length + 11))]), .inl (0, 0)] := ⟨_, rfl⟩
  have lQX4 : QX4.length = P.length + 12 := by rw [hQX4, List.length_append]; rfl
  obtain ⟨AX4, rX4, eX4_r, eX4_0, eX4_1, eX4_2, eX4_3, eX4_4, eX4_5⟩ := mk_X4 (S := S) (d := d + 1) (P := QX4) (A := upR AX1 (P.length + 12) (fun _ => 0)) (L := L) (T := TX1) (by rw [lQX4]; exact upR_s)
  rw [lQX4] at rX4 eX4_r eX4_0 eX4_1 eX4_2 eX4_3 eX4_4 eX4_5
  rw [hQX4, List.append_assoc, List.append_assoc] at rX4
  rw [show ex S (d + 2) 5 [.ref (P.length + 12)] _ = _ from rX4, q_Ux]
  have stX4 := fun κ => s_pFr (P := P) (X := [.inr (3, [some (.ref (P.length + 1)), some (.ref (P.length + 5)), some (.ref (P.length + 7)), some .null, some .null, some .null, some .null, none, some .null, some .null]), .inr (12, [none, some (.ref (P.length + 2)), some (.ref (P.length + 3)), some (.ref (P.length + 4))]), .inl (4, 12), .inl (0, 12), .inl (0, 12), .inr (5, [some (.ref (P.length + 6))]), .inl (0, 672), .inr (4, [none, some (.ref (P.length + 8)), some (.ref (P.length + 9)), some (.ref (P.length + 10))]), .inl (0, 312), .inl (4, 24), .inr (11, [none, some (.ref (P.length + 11))]), .inl (0, 0), .inr (7, [none, some (.ref (P.length + 13)), some (.ref (P.length + 14)), some (.ref (P.length + 15)), some (.ref (P.length + 16)), some (.ref (P.length + 17))]), .inl (0, 101), .inl (0, 200), .inl (0, 200), .inl (0, 200), .inl (0, 200)]) (A := AX4) (L := L) (T := TX1) (j := 0) (ci := 3) (f := 3) (ks := [some (.ref (P.length + 1)), some (.ref (P.length + 5)), some (.ref (P.length + 7)), some .null, some .null, some .null, some .null, none, some .null, some .null]) (v := .ref (P.length + 12)) (κ := κ) rfl rfl
  erw [stX4]
  rw [show P ++ List.set [.inr (3, [some (.ref (P.length + 1)), some (.ref (P.length + 5)), some (.ref (P.length + 7)), some .null, some .null, some .null, some .null, none, some .null, some .null]), .inr (12, [none, some (.ref (P.length + 2)), some (.ref (P.length + 3)), some (.ref (P.length + 4))]), .inl (4, 12), .inl (0, 12), .inl (0, 12), .inr (5, [some (.ref (P.length + 6))]), .inl (0, 672), .inr (4, [none, some (.ref (P.length + 8)), some (.ref (P.length + 9)), some (.ref (P.length + 10))]), .inl (0, 312), .inl (4, 24), .inr (11, [none, some (.ref (P.length + 11))]), .inl (0, 0), .inr (7, [none, some (.ref (P.length + 13)), some (.ref (P.length + 14)), some (.ref (P.length + 15)), some (.ref (P.length + 16)), some (.ref (P.length + 17))]), .inl (0, 101), .inl (0, 200), .inl (0, 200), .inl (0, 200), .inl (0, 200)] 0 (.inr (3, List.set [some (.ref (P.length + 1)), some (.ref (P.length + 5)), some (.ref (P.length + 7)), some .null, some .null, some .null, some .null, none, some .null, some .null] 3 (some (.ref (P.length + 12))))) = P ++ [.inr (3, [some (.ref (P.length + 1)), some (.ref (P.length + 5)), some (.ref (P.length + 7)), some (.ref (P.length + 12)), some .null, some .null, some .null, none, some .null, some .null]), .inr (12, [none, some (.ref (P.length + 2)), some (.ref (P.length + 3)), some (.ref (P.length + 4))]), .inl (4, 12), .inl (0, 12), .inl (0, 12), .inr (5, [some (.ref (P.length + 6))]), .inl (0, 672), .inr (4, [none, some (.ref (P.length + 8)), some (.ref (P.length + 9)), some (.ref (P.length + 10))]), .inl (0, 312), .inl (4, 24), .inr (11, [none, some (.ref (P.length + 11))]), .inl (0, 0), .inr (7, [none, some (.ref (P.length + 13)), some (.ref (P.length + 14)), some (.ref (P.length + 15)), some (.ref (P.length + 16)), some (.ref (P.length + 17))]), .inl (0, 101), .inl (0, 200), .inl (0, 200), .inl (0, 200), .inl (0, 200)] from rfl]
  rw [s_mkO (m := 18) rfl ks_X3, s_ln (m := 18) rfl]
  obtain ⟨QX3, hQX3⟩ : ∃ Q : List dsc, Q = P ++ [.inr (3, [some (.ref (P.length + 1)), some (.ref (P.length + 5)), some (.ref (P.length + 7)), some (.ref (P.length + 12)), some .null, some .null, some .null, none, some .null, some .null]), .inr (12, [none, some (.ref (P.length + 2)), some (.ref (P.length + 3)), some (.ref (P.length + 4))]), .inl (4, 12), .inl (0, 12), .inl (0, 12), .inr (5, [some (.ref (P.length + 6))]), .inl (0, 672), .inr (4, [none, some (.ref (P.length + 8)), some (.ref (P.length + 9)), some (.ref (P.length + 10))]), .inl (0, 312), .inl (4, 24), .inr (11, [none, some (.ref (P.length + 11))]), .inl (0, 0), .inr (7, [none, some (.ref (P.length + 13)), some (.ref (P.length + 14)), some (.ref (P.length + 15)), some (.ref (P.length + 16)), some (.ref (P.length + 17))]), .inl (0, 101), .inl (0, 200), .inl (0, 200), .inl (0, 200), .inl (0, 200)] := ⟨_, rfl⟩
  have lQX3 : QX3.length = P.length + 18 := by rw [hQX3, List.length_append]; rfl
  obtain ⟨AX3, rX3, eX3_r, eX3_0, eX3_1, eX3_2, eX3_3, eX3_4⟩ := mk_X3 (S := S) (d := d + 1) (P := QX3) (A := upR AX4 (P.length + 18) (fun _ => 0)) (L := L) (T := TX1) (by rw [lQX3]; exact upR_s)
  rw [lQX3] at rX3 eX3_r eX3_0 eX3_1 eX3_2 eX3_3 eX3_4
  rw [hQX3, List.append_assoc, List.append_assoc] at rX3
  rw [show ex S (d + 2) 6 [.ref (P.length + 18)] _ = _ from rX3, q_Ux]
  have stX3 := fun κ => s_pFr (P := P) (X := [.inr (3, [some (.ref (P.length + 1)), some (.ref (P.length + 5)), some (.ref (P.length + 7)), some (.ref (P.length + 12)), some .null, some .null, some .null, none, some .null, some .null]), .inr (12, [none, some (.ref (P.length + 2)), some (.ref (P.length + 3)), some (.ref (P.length + 4))]), .inl (4, 12), .inl (0, 12), .inl (0, 12), .inr (5, [some (.ref (P.length + 6))]), .inl (0, 672), .inr (4, [none, some (.ref (P.length + 8)), some (.ref (P.length + 9)), some (.ref (P.length + 10))]), .inl (0, 312), .inl (4, 24), .inr (11, [none, some (.ref (P.length + 11))]), .inl (0, 0), .inr (7, [none, some (.ref (P.length + 13)), some (.ref (P.length + 14)), some (.ref (P.length + 15)), some (.ref (P.length + 16)), some (.ref (P.length + 17))]), .inl (0, 101), .inl (0, 200), .inl (0, 200), .inl (0, 200), .inl (0, 200), .inr (6, [none, none, none, none, none, none, none, some (.ref (P.length + 19)), none, some (.ref (P.length + 20)), some (.ref (P.length + 21)), some (.ref (P.length + 22))]), .inl (0, 240), .inl (0, 12), .inl (0, 12), .inl (0, 12)]) (A := AX3) (L := L) (T := TX1) (j := 0) (ci := 3) (f := 4) (ks := [some (.ref (P.length + 1)), some (.ref (P.length + 5)), some (.ref (P.length + 7)), some (.ref (P.length + 12)), some .null, some .null, some .null, none, some .null, some .null]) (v := .ref (P.length + 18)) (κ := κ) rfl rfl
  erw [stX3]
  rw [show P ++ List.set [.inr (3, [some (.ref (P.length + 1)), some (.ref (P.length + 5)), some (.ref (P.length + 7)), some (.ref (P.length + 12)), some .null, some .null, some .null, none, some .null, some .null]), .inr (12, [none, some (.ref (P.length + 2)), some (.ref (P.length + 3)), some (.ref (P.length + 4))]), .inl (4, 12), .inl (0, 12), .inl (0, 12), .inr (5, [some (.ref (P.length + 6))]), .inl (0, 672), .inr (4, [none, some (.ref (P.length + 8)), some (.ref (P.length + 9)), some (.ref (P.length + 10))]), .inl (0, 312), .inl (4, 24), .inr (11, [none, some (.ref (P.length + 11))]), .inl (0, 0), .inr (7, [none, some (.ref (P.length + 13)), some (.ref (P.length + 14)), some (.ref (P.length + 15)), some (.ref (P.length + 16)), some (.ref (P.length + 17))]), .inl (0, 101), .inl (0, 200), .inl (0, 200), .inl (0, 200), .inl (0, 200), .inr (6, [none, none, none, none, none, none, none, some (.ref (P.length + 19)), none, some (.ref (P.length + 20)), some (.ref (P.length + 21)), some (.ref (P.length + 22))]), .inl (0, 240), .inl (0, 12), .inl (0, 12), .inl (0, 12)] 0 (.inr (3, List.set [some (.ref (P.length + 1)), some (.ref (P.length + 5)), some (.ref (P.length + 7)), some (.ref (P.length + 12)), some .null, some .null, some .null, none, some .null, some .null] 4 (some (.ref (P.length + 18))))) = P ++ [.inr (3, [some (.ref (P.length + 1)), some (.ref (P.length + 5)), some (.ref (P.length + 7)), some (.ref (P.length + 12)), some (.ref (P.length + 18)), some .null, some .null, none, some .null, some .null]), .inr (12, [none, some (.ref (P.length + 2)), some (.ref (P.length + 3)), some (.ref (P.length + 4))]), .inl (4, 12), .inl (0, 12), .inl (0, 12), .inr (5, [some (.ref (P.length + 6))]), .inl (0, 672), .inr (4, [none, some (.ref (P.length + 8)), some (.ref (P.length + 9)), some (.ref (P.length + 10))]), .inl (0, 312), .inl (4, 24), .inr (11, [none, some (.ref (P.length + 11))]), .inl (0, 0), .inr (7, [none, some (.ref (P.length + 13)), some (.ref (P.length + 14)), some (.ref (P.length + 15)), some (.ref (P.length + 16)), some (.ref (P.length + 17))]), .inl (0, 101), .inl (0, 200), .inl (0, 200), .inl (0, 200), .inl (0, 200), .inr (6, [none, none, none, none, none, none, none, some (.ref (P.length + 19)), none, some (.ref (P.length + 20)), some (.ref (P.length + 21)), some (.ref (P.length + 22))]), .inl (0, 240), .inl (0, 12), .inl (0, 12), .inl (0, 12)] from rfl]
  rw [s_mkO (m := 23) rfl ks_X5, s_ln (m := 23) rfl]
  obtain ⟨QX5, hQX5⟩ : ∃ Q : List dsc, Q = P ++ [.inr (3, [some (.ref (P.length + 1)), some (.ref (P.length + 5)), some (.ref (P.length + 7)), some (.ref (P.length + 12)), some (.ref (P.length + 18)), some .null, some .null, none, some .null, some .null]), .inr (12, [none, some (.ref (P.length + 2)), some (.ref (P.length + 3)), some (.ref (P.length + 4))]), .inl (4, 12), .inl (0, 12), .inl (0, 12), .inr (5, [some (.ref (P.length + 6))]), .inl (0, 672), .inr (4, [none, some (.ref (P.length + 8)), some (.ref (P.length + 9)), some (.ref (P.length + 10))]), .inl (0, 312), .inl (4, 24), .inr (11, [none, some (.ref (P.length + 11))]), .inl (0, 0), .inr (7, [none, some (.ref (P.length + 13)), some (.ref (P.length + 14)), some (.ref (P.length + 15)), some (.ref (P.length + 16)), some (.ref (P.length + 17))]), .inl (0, 101), .inl (0, 200), .inl (0, 200), .inl (0, 200), .inl (0, 200), .inr (6, [none, none, none, none, none, none, none, some (.ref (P.length + 19)), none, some (.ref (P.length + 20)), some (.ref (P.length + 21)), some (.ref (P.length + 22))]), .inl (0, 240), .inl (0, 12), .inl (0, 12), .inl (0, 12)] := ⟨_, rfl⟩
  have lQX5 : QX5.length = P.length + 23 := by rw [hQX5, List.length_append]; rfl
  obtain ⟨AX5, rX5, eX5_r, eX5_0, eX5_1, eX5_2, eX5_3, eX5_4, eX5_5⟩ := mk_X5 (S := S) (d := d + 1) (P := QX5) (A := upR AX3 (P.length + 23) (fun _ => 0)) (L := L) (T := TX1) (by rw [lQX5]; exact upR_s)
  rw [lQX5] at rX5 eX5_r eX5_0 eX5_1 eX5_2 eX5_3 eX5_4 eX5_5
  rw [hQX5, List.append_assoc, List.append_assoc] at rX5
  rw [show ex S (d + 2) 7 [.ref (P.length + 23)] _ = _ from rX5, q_Ux]
  have stX5 := fun κ => s_pFr (P := P) (X := [.inr (3, [some (.ref (P.length + 1)), some (.ref (P.length + 5)), some (.ref (P.length + 7)), some (.ref (P.length + 12)), some (.ref (P.length + 18)), some .null, some .null, none, some .null, some .null]), .inr (12, [none, some (.ref (P.length + 2)), some (.ref (P.length + 3)), some (.ref (P.length + 4))]), .inl (4, 12), .inl (0, 12), .inl (0, 12), .inr (5, [some (.ref (P.length + 6))]), .inl (0, 672), .inr (4, [none, some (.ref (P.length + 8)), some (.ref (P.length + 9)), some (.ref (P.length + 10))]), .inl (0, 312), .inl (4, 24), .inr (11, [none, some (.ref (P.length + 11))]), .inl (0, 0), .inr (7, [none, some (.ref (P.length + 13)), some (.ref (P.length + 14)), some (.ref (P.length + 15)), some (.ref (P.length + 16)), some (.ref (P.length + 17))]), .inl (0, 101), .inl (0, 200), .inl (0, 200), .inl (0, 200), .inl (0, 200), .inr (6, [none, none, none, none, none, none, none, some (.ref (P.length + 19)), none, some (.ref (P.length + 20)), some (.ref (P.length + 21)), some (.ref (P.length + 22))]), .inl (0, 240), .inl (0, 12), .inl (0, 12), .inl (0, 12), .inr (8, [none, none, some (.ref (P.length + 24)), some (.ref (P.length + 25)), some (.ref (P.length + 26)), some (.ref (P.length + 27)), some (.ref (P.length + 28))]), .inl (0, 6), .inl (0, 6), .inl (0, 6), .inl (0, 4), .inl (0, 4)]) (A := AX5) (L := L) (T := TX1) (j := 0) (ci := 3) (f := 5) (ks := [some (.ref (P.length + 1)), some (.ref (P.length + 5)), some (.ref (P.length + 7)), some (.ref (P.length + 12)), some (.ref (P.length + 18)), some .null, some .null, none, some .null, some .null]) (v := .ref (P.length + 23)) (κ := κ) rfl rfl
  erw [stX5]
  rw [show P ++ List.set [.inr (3, [some (.ref (P.length + 1)), some (.ref (P.length + 5)), some (.ref (P.length + 7)), some (.ref (P.length + 12)), some (.ref (P.length + 18)), some .null, some .null, none, some .null, some .null]), .inr (12, [none, some (.ref (P.length + 2)), some (.ref (P.length + 3)), some (.ref (P.length + 4))]), .inl (4, 12), .inl (0, 12), .inl (0, 12), .inr (5, [some (.ref (P.length + 6))]), .inl (0, 672), .inr (4, [none, some (.ref (P.length + 8)), some (.ref (P.length + 9)), some (.ref (P.length + 10))]), .inl (0, 312), .inl (4, 24), .inr (11, [none, some (.ref (P.length + 11))]), .inl (0, 0), .inr (7, [none, some (.ref (P.length + 13)), some (.ref (P.length + 14)), some (.ref (P.length + 15)), some (.ref (P.length + 16)), some (.ref (P.length + 17))]), .inl (0, 101), .inl (0, 200), .inl (0, 200), .inl (0, 200), .inl (0, 200), .inr (6, [none, none, none, none, none, none, none, some (.ref (P.length + 19)), none, some (.ref (P.length + 20)), some (.ref (P.length + 21)), some (.ref (P.length + 22))]), .inl (0, 240), .inl (0, 12), .inl (0, 12), .inl (0, 12), .inr (8, [none, none, some (.ref (P.length + 24)), some (.ref (P.length + 25)), some (.ref (P.length + 26)), some (.ref (P.length + 27)), some (.ref (P.length + 28))]), .inl (0, 6), .inl (0, 6), .inl (0, 6), .inl (0, 4), .inl (0, 4)] 0 (.inr (3, List.set [some (.ref (P.length + 1)), some (.ref (P.length + 5)), some (.ref (P.length + 7)), some (.ref (P.length + 12)), some (.ref (P.length + 18)), some .null, some .null, none, some .null, some .null] 5 (some (.ref (P.length + 23))))) = P ++ [.inr (3, [some (.ref (P.length + 1)), some (.ref (P.length + 5)), some (.ref (P.length + 7)), some (.ref (P.length + 12)), some (.ref (P.length + 18)), some (.ref (P.length + 23)), some .null, none, some .null, some .null]), .inr (12, [none, some (.ref (P.length + 2)), some (.ref (P.length + 3)), some (.ref (P.length + 4))]), .inl (4, 12), .inl (0, 12), .inl (0, 12), .inr (5, [some (.ref (P.length + 6))]), .inl (0, 672), .inr (4, [none, some (.ref (P.length + 8)), some (.ref (P.length + 9)), some (.ref (P.length + 10))]), .inl (0, 312), .inl (4, 24), .inr (11, [none, some (.ref (P.length + 11))]), .inl (0, 0), .inr (7, [none, some (.ref (P.length + 13)), some (.ref (P.length + 14)), some (.ref (P.length + 15)), some (.ref (P.length + 16)), some (.ref (P.length + 17))]), .inl (0, 101), .inl (0, 200), .inl (0, 200), .inl (0, 200), .inl (0, 200), .inr (6, [none, none, none, none, none, none, none, some (.ref (P.length + 19)), none, some (.ref (P.length + 20)), some (.ref (P.length + 21)), some (.ref (P.length + 22))]), .inl (0, 240), .inl (0, 12), .inl (0, 12), .inl (0, 12), .inr (8, [none, none, some (.ref (P.length + 24)), some (.ref (P.length + 25)), some (.ref (P.length + 26)), some (.ref (P.length + 27)), some (.ref (P.length + 28))]), .inl (0, 6), .inl (0, 6), .inl (0, 6), .inl (0, 4), .inl (0, 4)] from rfl]
  rw [s_mkO (m := 29) rfl ks_X7, s_ln (m := 29) rfl]
  obtain ⟨QX7, hQX7⟩ : ∃ Q : List dsc, Q = P ++ [.inr (3, [some (.ref (P.length + 1)), some (.ref (P.length + 5)), some (.ref (P.length + 7)), some (.ref (P.length + 12)), some (.ref (P.length + 18)), some (.ref (P.length + 23)), some .null, none, some .null, some .null]), .inr (12, [none, some (.ref (P.length + 2)), some (.ref (P.length + 3)), some (.ref (P.length + 4))]), .inl (4, 12), .inl (0, 12), .inl (0, 12), .inr (5, [some (.ref (P.length + 6))]), .inl (0, 672), .inr (4, [none, some (.ref (P.length + 8)), some (.ref (P.length + 9)), some (.ref (P.length + 10))]), .inl (0, 312), .inl (4, 24), .inr (11, [none, some (.ref (P.length + 11))]), .inl (0, 0), .inr (7, [none, some (.ref (P.length + 13)), some (.ref (P.length + 14)), some (.ref (P.length + 15)), some (.ref (P.length + 16)), some (.ref (P.length + 17))]), .inl (0, 101), .inl (0, 200), .inl (0, 200), .inl (0, 200), .inl (0, 200), .inr (6, [none, none, none, none, none, none, none, some (.ref (P.length + 19)), none, some (.ref (P.length + 20)), some (.ref (P.length + 21)), some (.ref (P.length + 22))]), .inl (0, 240), .inl (0, 12), .inl (0, 12), .inl (0, 12), .inr (8, [none, none, some (.ref (P.length + 24)), some (.ref (P.length + 25)), some (.ref (P.length + 26)), some (.ref (P.length + 27)), some (.ref (P.length + 28))]), .inl (0, 6), .inl (0, 6), .inl (0, 6), .inl (0, 4), .inl (0, 4)] := ⟨_, rfl⟩
  have lQX7 : QX7.length = P.length + 29 := by rw [hQX7, List.length_append]; rfl
  obtain ⟨AX7, rX7, eX7_r, eX7_0, eX7_1, eX7_2⟩ := mk_X7 (S := S) (d := d + 1) (P := QX7) (A := upR AX5 (P.length + 29) (fun _ => 0)) (L := L) (T := TX1) (by rw [lQX7]; exact upR_s)
  rw [lQX7] at rX7 eX7_r eX7_0 eX7_1 eX7_2
  rw [hQX7, List.append_assoc, List.append_assoc] at rX7
  rw [show ex S (d + 2) 8 [.ref (P.length + 29)] _ = _ from rX7, q_Ux]
  have stX7 := fun κ => s_pFr (P := P) (X := [.inr (3, [some (.ref (P.length + 1)), some (.ref (P.length + 5)), some (.ref (P.length + 7)), some (.ref (P.length + 12)), some (.ref (P.length + 18)), some (.ref (P.length + 23)), some .null, none, some .null, some .null]), .inr (12, [none, some (.ref (P.length + 2)), some (.ref (P.length + 3)), some (.ref (P.length + 4))]), .inl (4, 12), .inl (0, 12), .inl (0, 12), .inr (5, [some (.ref (P.length + 6))]), .inl (0, 672), .inr (4, [none, some (.ref (P.length + 8)), some (.ref (P.length + 9)), some (.ref (P.length + 10))]), .inl (0, 312), .inl (4, 24), .inr (11, [none, some (.ref (P.length + 11))]), .inl (0, 0), .inr (7, [none, some (.ref (P.length + 13)), some (.ref (P.length + 14)), some (.ref (P.length + 15)), some (.ref (P.length + 16)), some (.ref (P.length + 17))]), .inl (0, 101), .inl (0, 200), .inl (0, 200), .inl (0, 200), .inl (0, 200), .inr (6, [none, none, none, none, none, none, none, some (.ref (P.length + 19)), none, some (.ref (P.length + 20)), some (.ref (P.length + 21)), some (.ref (P.length + 22))]), .inl (0, 240), .inl (0, 12), .inl (0, 12), .inl (0, 12), .inr (8, [none, none, some (.ref (P.length + 24)), some (.ref (P.length + 25)), some (.ref (P.length + 26)), some (.ref (P.length + 27)), some (.ref (P.length + 28))]), .inl (0, 6), .inl (0, 6), .inl (0, 6), .inl (0, 4), .inl (0, 4), .inr (10, [none, some (.ref (P.length + 30)), some (.ref (P.length + 31))]), .inl (0, 192), .inl (0, 192)]) (A := AX7) (L := L) (T := TX1) (j := 0) (ci := 3) (f := 6) (ks := [some (.ref (P.length + 1)), some (.ref (P.length + 5)), some (.ref (P.length + 7)), some (.ref (P.length + 12)), some (.ref (P.length + 18)), some (.ref (P.length + 23)), some .null, none, some .null, some .null]) (v := .ref (P.length + 29)) (κ := κ) rfl rfl
  erw [stX7]
  rw [show P ++ List.set [.inr (3, [some (.ref (P.length + 1)), some (.ref (P.length + 5)), some (.ref (P.length + 7)), some (.ref (P.length + 12)), some (.ref (P.length + 18)), some (.ref (P.length + 23)), some .null, none, some .null, some .null]), .inr (12, [none, some (.ref (P.length + 2)), some (.ref (P.length + 3)), some (.ref (P.length + 4))]), .inl (4, 12), .inl (0, 12), .inl (0, 12), .inr (5, [some (.ref (P.length + 6))]), .inl (0, 672), .inr (4, [none, some (.ref (P.length + 8)), some (.ref (P.length + 9)), some (.ref (P.length + 10))]), .inl (0, 312), .inl (4, 24), .inr (11, [none, some (.ref (P.length + 11))]), .inl (0, 0), .inr (7, [none, some (.ref (P.length + 13)), some (.ref (P.length + 14)), some (.ref (P.length + 15)), some (.ref (P.length + 16)), some (.ref (P.length + 17))]), .inl (0, 101), .inl (0, 200), .inl (0, 200), .inl (0, 200), .inl (0, 200), .inr (6, [none, none, none, none, none, none, none, some (.ref (P.length + 19)), none, some (.ref (P.length + 20)), some (.ref (P.length + 21)), some (.ref (P.length + 22))]), .inl (0, 240), .inl (0, 12), .inl (0, 12), .inl (0, 12), .inr (8, [none, none, some (.ref (P.length + 24)), some (.ref (P.length + 25)), some (.ref (P.length + 26)), some (.ref (P.length + 27)), some (.ref (P.length + 28))]), .inl (0, 6), .inl (0, 6), .inl (0, 6), .inl (0, 4), .inl (0, 4), .inr (10, [none, some (.ref (P.length + 30)), some (.ref (P.length + 31))]), .inl (0, 192), .inl (0, 192)] 0 (.inr (3, List.set [some (.ref (P.length + 1)), some (.ref (P.length + 5)), some (.ref (P.length + 7)), some (.ref (P.length + 12)), some (.ref (P.length + 18)), some (.ref (P.length + 23)), some .null, none, some .null, some .null] 6 (some (.ref (P.length + 29))))) = P ++ [.inr (3, [some (.ref (P.length + 1)), some (.ref (P.length + 5)), some (.ref (P.length + 7)), some (.ref (P.length + 12)), some (.ref (P.length + 18)), some (.ref (P.length + 23)), some (.ref (P.length + 29)), none, some .null, some .null]), .inr (12, [none, some (.ref (P.length + 2)), some (.ref (P.length + 3)), some (.ref (P.length + 4))]), .inl (4, 12), .inl (0, 12), .inl (0, 12), .inr (5, [some (.ref (P.length + 6))]), .inl (0, 672), .inr (4, [none, some (.ref (P.length + 8)), some (.ref (P.length + 9)), some (.ref (P.length + 10))]), .inl (0, 312), .inl (4, 24), .inr (11, [none, some (.ref (P.length + 11))]), .inl (0, 0), .inr (7, [none, some (.ref (P.length + 13)), some (.ref (P.length + 14)), some (.ref (P.length + 15)), some (.ref (P.length + 16)), some (.ref (P.length + 17))]), .inl (0, 101), .inl (0, 200), .inl (0, 200), .inl (0, 200), .inl (0, 200), .inr (6, [none, none, none, none, none, none, none, some (.ref (P.length + 19)), none, some (.ref (P.length + 20)), some (.ref (P.length + 21)), some (.ref (P.length + 22))]), .inl (0, 240), .inl (0, 12), .inl (0, 12), .inl (0, 12), .inr (8, [none, none, some (.ref (P.length + 24)), some (.ref (P.length + 25)), some (.ref (P.length + 26)), some (.ref (P.length + 27)), some (.ref (P.length + 28))]), .inl (0, 6), .inl (0, 6), .inl (0, 6), .inl (0, 4), .inl (0, 4), .inr (10, [none, some (.ref (P.length + 30)), some (.ref (P.length + 31))]), .inl (0, 192), .inl (0, 192)] from rfl]
  rw [s_mkI (m := 32) (n := 6) (x := 6) rfl rfl (by decide) (by decide), s_ln (m := 32) rfl, s_pFr (j := 0) (ci := 3) (f := 8) rfl rfl]
  rw [s_mkJ (m := 33) (n := 51) (x := 51) rfl rfl (by decide), s_ln (m := 33) rfl, s_pFr (j := 0) (ci := 3) (f := 9) rfl rfl]
  refine ⟨_, _, _, rfl, fun r hr => ?_, ?_, ?_, ?_, ?_, ?_, ?_, ?_, ?_, ?_, ?_, ?_, ?_, ?_, ?_, ?_, ?_, ?_, ?_, ?_, ?_, ?_, ?_, ?_, ?_, ?_, ?_, ?_, ?_, fun r hr => ?_, fun j => ?_, fun j => ?_⟩
  · rw [upR_o (by omega), eX7_r r (by omega), upR_o (by omega), eX5_r r (by omega), upR_o (by omega), eX3_r r (by omega), upR_o (by omega), eX4_r r (by omega), upR_o (by omega), eX1_r r (by omega), upR_o (by omega), eX2_r r (by omega), upR_o (by omega), eX9_r r (by omega), upR_o (by omega)]
  · rw [upR_o (by omega), eX7_r _ (by omega), upR_o (by omega), eX5_r _ (by omega), upR_o (by omega), eX3_r _ (by omega), upR_o (by omega), eX4_r _ (by omega), upR_o (by omega), eX1_r _ (by omega), upR_o (by omega), eX2_r _ (by omega), upR_o (by omega), eX9_r _ (by omega), upR_o (by omega), hz]
  · rw [upR_o (by omega), eX7_r _ (by omega), upR_o (by omega), eX5_r _ (by omega), upR_o (by omega), eX3_r _ (by omega), upR_o (by omega), eX4_r _ (by omega), upR_o (by omega), eX1_r _ (by omega), upR_o (by omega), eX2_r _ (by omega), upR_o (by omega)]; exact eX9_0
  · rw [upR_o (by omega), eX7_r _ (by omega), upR_o (by omega), eX5_r _ (by omega), upR_o (by omega), eX3_r _ (by omega), upR_o (by omega), eX4_r _ (by omega), upR_o (by omega), eX1_r _ (by omega), upR_o (by omega), eX2_r _ (by omega), upR_o (by omega)]; exact eX9_2
  · rw [upR_o (by omega), eX7_r _ (by omega), upR_o (by omega), eX5_r _ (by omega), upR_o (by omega), eX3_r _ (by omega), upR_o (by omega), eX4_r _ (by omega), upR_o (by omega), eX1_r _ (by omega), upR_o (by omega), eX2_r _ (by omega), upR_o (by omega)]; exact eX9_3
  · rw [upR_o (by omega), eX7_r _ (by omega), upR_o (by omega), eX5_r _ (by omega), upR_o (by omega), eX3_r _ (by omega), upR_o (by omega), eX4_r _ (by omega), upR_o (by omega)]; exact eX1_0
  · rw [upR_o (by omega), eX7_r _ (by omega), upR_o (by omega), eX5_r _ (by omega), upR_o (by omega), eX3_r _ (by omega), upR_o (by omega), eX4_r _ (by omega), upR_o (by omega)]; exact eX1_1
  · rw [upR_o (by omega), eX7_r _ (by omega), upR_o (by omega), eX5_r _ (by omega), upR_o (by omega), eX3_r _ (by omega), upR_o (by omega)]; exact eX4_0
  · rw [upR_o (by omega), eX7_r _ (by omega), upR_o (by omega), eX5_r _ (by omega), upR_o (by omega), eX3_r _ (by omega), upR_o (by omega)]; exact eX4_1
  · rw [upR_o (by omega), eX7_r _ (by omega), upR_o (by omega), eX5_r _ (by omega), upR_o (by omega), eX3_r _ (by omega), upR_o (by omega)]; exact eX4_2
  · rw [upR_o (by omega), eX7_r _ (by omega), upR_o (by omega), eX5_r _ (by omega), upR_o (by omega), eX3_r _ (by omega), upR_o (by omega)]; exact eX4_3
  · rw [upR_o (by omega), eX7_r _ (by omega), upR_o (by omega), eX5_r _ (by omega), upR_o (by omega), eX3_r _ (by omega), upR_o (by omega)]; exact eX4_4
  · rw [upR_o (by omega), eX7_r _ (by omega), upR_o (by omega), eX5_r _ (by omega), upR_o (by omega), eX3_r _ (by omega), upR_o (by omega)]; exact eX4_5
  · rw [upR_o (by omega), eX7_r _ (by omega), upR_o (by omega), eX5_r _ (by omega), upR_o (by omega)]; exact eX3_0
  · rw [upR_o (by omega), eX7_r _ (by omega), upR_o (by omega), eX5_r _ (by omega), upR_o (by omega)]; exact eX3_1
  · rw [upR_o (by omega), eX7_r _ (by omega), upR_o (by omega), eX5_r _ (by omega), upR_o (by omega)]; exact eX3_2
  · rw [upR_o (by omega), eX7_r _ (by omega), upR_o (by omega), eX5_r _ (by omega), upR_o (by omega)]; exact eX3_3
  · rw [upR_o (by omega), eX7_r _ (by omega), upR_o (by omega), eX5_r _ (by omega), upR_o (by omega)]; exact eX3_4
  · rw [upR_o (by omega), eX7_r _ (by omega), upR_o (by omega)]; exact eX5_0
  · rw [upR_o (by omega), eX7_r _ (by omega), upR_o (by omega)]; exact eX5_1
  · rw [upR_o (by omega), eX7_r _ (by omega), upR_o (by omega)]; exact eX5_2
  · rw [upR_o (by omega), eX7_r _ (by omega), upR_o (by omega)]; exact eX5_3
  · rw [upR_o (by omega), eX7_r _ (by omega), upR_o (by omega)]; exact eX5_4
  · rw [upR_o (by omega), eX7_r _ (by omega), upR_o (by omega)]; exact eX5_5
  · rw [upR_o (by omega)]; exact eX7_0
  · rw [upR_o (by omega)]; exact eX7_1
  · rw [upR_o (by omega)]; exact eX7_2
  · rw [upR_o (by omega), eX7_r _ (by omega), upR_o (by omega), eX5_r _ (by omega), upR_o (by omega), eX3_r _ (by omega), upR_o (by omega), eX4_r _ (by omega), upR_o (by omega), eX1_r _ (by omega), upR_o (by omega)]; exact eX2_L
  · exact upR_s
  · rw [eX1_Tr r (by omega), eX9_Tr r (by omega)]
  · rw [eX1_Tr _ (by omega)]; exact eX9_T1 j
  · exact eX1_T2 j
end NewE
