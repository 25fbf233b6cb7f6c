/-! the start -/
section Start
variable {S : sT} {d c : Nat} {k : Value} {E : List dsc} {A : fA} {L : fL} {T : fT} {P : List dsc}
theorem ks_X12 (B : fA) (a : Nat) (h : B a = (fun _ => 0)) : ([none, some .null, some .null, none, some .null, none, none, none, none, none, none, some .null, none, some .null, some .null, some .null, none, some .null] : List (Option Value)).mapIdx (fldV B a) = dflT 15 := by simp [fldV, h, dflT, dflL]
theorem mk_X6 (hz : A (P.length + 0) = (fun _ => 0)) : ∃ A', ex S (d + 1) 0 [.ref (P.length + 0)] (HP (P ++ [.inr (9, [some .null, none, none, none, none, none, none, none, some .null, none, none, none])]) A L T) = some (.inl none, HP (P ++ [.inr (9, [some (.ref (P.length + 1)), none, none, none, none, none, none, none, some (.ref (P.length + 2)), none, none, none]), .inl (1, 400), .inl (0, 496)]) A' L T) ∧ (∀ r, r < P.length → A' r = A r) ∧ A' (P.length + 0) 1 = 0 ∧ A' (P.length + 0) 2 = -1 ∧ A' (P.length + 1) = (fun _ => 0) := by
  rw [x_X6_init, g_X6_init_0]
  rw [s_mkI (m := 1) (n := 400) (x := 400) rfl rfl (by decide) (by decide), s_ln (m := 1) rfl, s_pFr (j := 0) (ci := 9) (f := 0) rfl rfl]
  rw [s_pFi (j := 0) (f := 2) rfl rfl]
  rw [s_mkI (m := 2) (n := 496) (x := 496) rfl rfl (by decide) (by decide), s_ln (m := 2) rfl, s_pFr (j := 0) (ci := 9) (f := 8) rfl rfl]
  refine ⟨_, rfl, fun r hr => ?_, ?_, ?_, ?_⟩
  · rw [upR_o (by omega), up_ne (by omega), upR_o (by omega)]
  · rw [upR_o (by omega), up_rr (by decide), upR_o (by omega), hz]
  · rw [upR_o (by omega), up_ii]
  · rw [upR_o (by omega), up_ne (by omega), upR_s]
def Y4 : List dsc := [.inr (14, [some (.ref 1), some .null, some .null, some .null]), .inr (9, [some (.ref 2), none, none, none, none, none, none, none, some (.ref 3), none, none, none]), .inl (1, 400), .inl (0, 496)]
def Y4b : List dsc := [.inr (14, [some (.ref 1), some (.ref 4), some .null, some .null]), .inr (9, [some (.ref 2), none, none, none, none, none, none, none, some (.ref 3), none, none, none]), .inl (1, 400), .inl (0, 496)]
def Y4c : List dsc := [.inr (14, [some (.ref 1), some (.ref 4), some (.ref 38), some .null]), .inr (9, [some (.ref 2), none, none, none, none, none, none, none, some (.ref 3), none, none, none]), .inl (1, 400), .inl (0, 496)]
def Y380 : List dsc := Y4b ++ DEl 4 ++ [.inr (13, [some .null, some .null, some .null, some .null])]
def Y381 : List dsc := Y4b ++ DEl 4 ++ [.inr (13, [some (.ref 4), some .null, some .null, some .null])]
def Y382 : List dsc := Y4b ++ DEl 4 ++ [.inr (13, [some (.ref 4), some (.ref 9), some .null, some .null])]
def Y383 : List dsc := Y4b ++ DEl 4 ++ [.inr (13, [some (.ref 4), some (.ref 9), some (.ref 11), some .null])]
def Y384 : List dsc := Y4b ++ DEl 4 ++ [.inr (13, [some (.ref 4), some (.ref 9), some (.ref 11), some (.ref 22)])]
def Y39 : List dsc := Y4c ++ DEl 4 ++ [.inr (13, [some (.ref 4), some (.ref 9), some (.ref 11), some (.ref 22)])]
theorem mk_X10 : ex S (d + 1) 10 [.ref 38, .ref 4] (HP Y380 A L T) = some (.inl none, HP Y384 A L T) := by
  rw [x_X10_init, g_X10_init_0]
  show pF (HP Y380 A L T) (.ref 38) 13 0 (.ref 4) _ = _
  rw [pFr_H (D := Y380) (a := 38) (ci := 13) (j := 0) (ks := [some .null, some .null, some .null, some .null]) (v := .ref 4) rfl (by decide)]
  show gV (HP Y381 A L T) (.ref 4) 3 1 _ = _
  rw [gV_H (D := Y381) (a := 4) (ci := 3) (k := 1) (v := .ref 9) rfl rfl rfl]
  show pF (HP Y381 A L T) (.ref 38) 13 1 (.ref 9) _ = _
  rw [pFr_H (D := Y381) (a := 38) (ci := 13) (j := 1) (v := .ref 9) rfl (by decide)]
  show gV (HP Y382 A L T) (.ref 4) 3 2 _ = _
  rw [gV_H (D := Y382) (a := 4) (ci := 3) (k := 2) (v := .ref 11) rfl rfl rfl]
  show pF (HP Y382 A L T) (.ref 38) 13 2 (.ref 11) _ = _
  rw [pFr_H (D := Y382) (a := 38) (ci := 13) (j := 2) (v := .ref 11) rfl (by decide)]
  show gV (HP Y383 A L T) (.ref 4) 3 4 _ = _
  rw [gV_H (D := Y383) (a := 4) (ci := 3) (k := 4) (v := .ref 22) rfl rfl rfl]
  show pF (HP Y383 A L T) (.ref 38) 13 3 (.ref 22) _ = _
  rw [pFr_H (D := Y383) (a := 38) (ci := 13) (j := 3) (v := .ref 22) rfl (by decide)]
  rfl
theorem mk_X11 : ∃ A' L' T', ex S (d + 4) 11 [.ref 0] (HP [.inr (14, [some .null, some .null, some .null, some .null])] A L T) = some (.inl none, HP Y39 A' L' T') ∧ A' 1 1 = 0 ∧ A' 1 2 = -1 ∧ A' 2 = (fun _ => 0) ∧ A' 4 7 = 0 ∧ (A' (4 + 1) = (fun _ => 0) ∧ A' (4 + 3) = (fun _ => 0) ∧ A' (4 + 4) = (fun _ => 0) ∧ A' (4 + 7) = (fun _ => 0) ∧ A' (4 + 8) = (fun _ => 0) ∧ A' (4 + 12) = (fun _ => 0) ∧ A' (4 + 13) = (fun _ => 0) ∧ A' (4 + 14) = (fun _ => 0) ∧ A' (4 + 15) = (fun _ => 0) ∧ A' (4 + 16) = (fun _ => 0) ∧ A' (4 + 17) = (fun _ => 0) ∧ A' (4 + 18) = (fun _ => 0) ∧ A' (4 + 19) = (fun _ => 0) ∧ A' (4 + 20) = (fun _ => 0) ∧ A' (4 + 21) = (fun _ => 0) ∧ A' (4 + 22) = (fun _ => 0) ∧ A' (4 + 23) = (fun _ => 0) ∧ A' (4 + 24) = (fun _ => 0) ∧ A' (4 + 25) = (fun _ => 0) ∧ A' (4 + 26) = (fun _ => 0) ∧ A' (4 + 27) = (fun _ => 0) ∧ A' (4 + 28) = (fun _ => 0) ∧ A' (4 + 29) = (fun _ => 0) ∧ A' (4 + 30) = (fun _ => 0) ∧ A' (4 + 31) = (fun _ => 0)) ∧ A' 10 = lnd0 ∧ A' 36 = (fun _ => 0) ∧ (∀ j, T' 6 j = none) ∧ (∀ j, T' 13 j = none) := by
  rw [x_X11_init, g_X11_init_0, HP_len]
  obtain ⟨A1, r1, q1, q2, q3, q4⟩ := mk_X6 (S := S) (d := d + 2) (P := [.inr (14, [some .null, some .null, some .null, some .null])]) (A := upR A 1 (fun _ => 0)) (L := L) (T := T) upR_s
  rw [mkO_H (ks := [some .null, none, none, none, none, none, none, none, some .null, none, none, none]) (ks_X6 _ _ upR_s)]
  show ∃ A' L' T', cUx tN (ex S (d + 3) 0 [.ref 1] (HP [.inr (14, [some .null, some .null, some .null, some .null]), .inr (9, [some .null, none, none, none, none, none, none, none, some .null, none, none, none])] (upR A 1 (fun _ => 0)) L T)) _ = _ ∧ _
  rw [show ex S (d + 3) 0 [.ref 1] (HP [.inr (14, [some .null, some .null, some .null, some .null]), .inr (9, [some .null, none, none, none, none, none, none, none, some .null, none, none, none])] (upR A 1 (fun _ => 0)) L T) = _ from r1, q_Ux]
  rw [pFr_H (a := 0) (ci := 14) (j := 0) (ks := [some .null, some .null, some .null, some .null]) rfl (by decide)]
  generalize hY : List.set _ 0 _ = Y
  have hY' : Y = Y4 := hY.symm
  subst hY'
  clear hY
  rw [HP_len, mkO_H (ks := [some .null, some .null, some .null, some .null, some .null, some .null, some .null, none, some .null, some .null]) (ks_X0 _ _ upR_s), show List.length Y4 = 4 from rfl]
  obtain ⟨A2, L2, T2, r2, z0, y7, y_1, y_3, y_4, y_7, y_8, y_12, y_13, y_14, y_15, y_16, y_17, y_18, y_19, y_20, y_21, y_22, y_23, y_24, y_25, y_26, y_27, y_28, y_29, y_30, y_31, zl, z32, zt, zt2, zt9⟩ := mk_X0 (S := S) (d := d) (P := Y4) (A := upR A1 4 (fun _ => 0)) (L := L) (T := T) upR_s
  rw [show List.length Y4 = 4 from rfl, Nat.add_zero] at r2
  rw [r2, q_Ux]
  rw [pFr_H (a := 0) (ci := 14) (j := 1) (ks := [some (.ref 1), some .null, some .null, some .null]) rfl (by decide)]
  generalize hY : List.set _ 0 _ = Y
  have hY' : Y = Y4b ++ DEl 4 := hY.symm
  subst hY'
  clear hY
  rw [HP_len, mkO_H (ks := [some .null, some .null, some .null, some .null]) (ks_X10 _ _ upR_s), show List.length (Y4b ++ DEl 4) = 38 from rfl]
  generalize hY : Y4b ++ DEl 4 ++ _ = Y
  have hY' : Y = Y380 := hY.symm
  subst hY'
  clear hY
  rw [gV_H (D := Y380) (a := 0) (ci := 14) (k := 1) (v := .ref 4) rfl rfl rfl, mk_X10, q_Ux]
  rw [pFr_H (D := Y384) (a := 0) (ci := 14) (j := 2) (ks := [some (.ref 1), some (.ref 4), some .null, some .null]) rfl (by decide)]
  generalize hY : List.set _ 0 _ = Y
  have hY' : Y = Y39 := hY.symm
  subst hY'
  clear hY
  have u : ∀ r, r < 38 → upR A2 38 (fun _ => 0) r = A2 r := fun r hr => upR_o (show r ≠ 38 by omega)
  have w : ∀ r, r < 4 → A2 r = A1 r := fun r hr => (z0 r hr).trans (upR_o (show r ≠ 4 by omega))
  refine ⟨_, L2, T2, rfl, ?_, ?_, ?_, ?_, ⟨(u 5 (by decide)).trans y_1, (u 7 (by decide)).trans y_3, (u 8 (by decide)).trans y_4, (u 11 (by decide)).trans y_7, (u 12 (by decide)).trans y_8, (u 16 (by decide)).trans y_12, (u 17 (by decide)).trans y_13, (u 18 (by decide)).trans y_14, (u 19 (by decide)).trans y_15, (u 20 (by decide)).trans y_16, (u 21 (by decide)).trans y_17, (u 22 (by decide)).trans y_18, (u 23 (by decide)).trans y_19, (u 24 (by decide)).trans y_20, (u 25 (by decide)).trans y_21, (u 26 (by decide)).trans y_22, (u 27 (by decide)).trans y_23, (u 28 (by decide)).trans y_24, (u 29 (by decide)).trans y_25, (u 30 (by decide)).trans y_26, (u 31 (by decide)).trans y_27, (u 32 (by decide)).trans y_28, (u 33 (by decide)).trans y_29, (u 34 (by decide)).trans y_30, (u 35 (by decide)).trans y_31⟩, (u 10 (by decide)).trans zl, (u 36 (by decide)).trans z32, zt2, zt9⟩
  · rw [u 1 (by decide), w 1 (by decide)]; exact q2
  · rw [u 1 (by decide), w 1 (by decide)]; exact q3
  · rw [u 2 (by decide), w 2 (by decide)]; exact q4
  · rw [u 4 (by decide)]; exact y7
/-- the reference's world at first -/
def W0 (j : Nat) : Int32 := if 8 ≤ j ∧ j < 680 ∧ (j - 8) % 14 = 0 then 5 else if 8 ≤ j ∧ j < 680 ∧ (j - 8) % 14 = 10 then -1 else if 681 ≤ j ∧ j < 883 ∧ (j - 681) % 2 = 0 then 1 else 0
def W1 (f j : Nat) : Int32 := if 8 ≤ j ∧ j < 8 + 14 * f ∧ (j - 8) % 14 = 0 then 5 else if 8 ≤ j ∧ j < 8 + 14 * f ∧ (j - 8) % 14 = 10 then -1 else 0
def W2 (f j : Nat) : Int32 := if 8 ≤ j ∧ j < 680 ∧ (j - 8) % 14 = 0 then 5 else if 8 ≤ j ∧ j < 680 ∧ (j - 8) % 14 = 10 then -1 else if 681 ≤ j ∧ j < 681 + 2 * f ∧ (j - 681) % 2 = 0 then 1 else 0
theorem W1_s {B : fA} {a f : Nat} (h : ∀ j, B a j = W1 f j) (j : Nat) : up (up B a (8 + 14 * f + 0) 5) a (8 + 14 * f + 10) (-1) a j = W1 (f + 1) j := by
  unfold W1 at h ⊢
  by_cases q1 : j = 8 + 14 * f + 10
  · subst q1; rw [up_ii, if_neg (by omega), if_pos (by omega)]
  · rw [up_rr q1]
    by_cases q2 : j = 8 + 14 * f + 0
    · subst q2; rw [up_ii, if_pos (by omega)]
    · rw [up_rr q2, h j]
      by_cases q3 : 8 ≤ j ∧ j < 8 + 14 * f ∧ (j - 8) % 14 = 0
      · rw [if_pos q3, if_pos (by omega)]
      · rw [if_neg q3, if_neg (show ¬ (8 ≤ j ∧ j < 8 + 14 * (f + 1) ∧ (j - 8) % 14 = 0) by omega)]
        by_cases q4 : 8 ≤ j ∧ j < 8 + 14 * f ∧ (j - 8) % 14 = 10
        · rw [if_pos q4, if_pos (by omega)]
        · rw [if_neg q4, if_neg (by omega)]
theorem W2_s {B : fA} {a f : Nat} (h : ∀ j, B a j = W2 f j) (j : Nat) : up B a (680 + 2 * f + 1) 1 a j = W2 (f + 1) j := by
  unfold W2 at h ⊢
  by_cases q1 : j = 680 + 2 * f + 1
  · subst q1; rw [up_ii, if_neg (by omega), if_neg (by omega), if_pos (by omega)]
  · rw [up_rr q1, h j]
    by_cases q2 : 8 ≤ j ∧ j < 680 ∧ (j - 8) % 14 = 0
    · rw [if_pos q2, if_pos q2]
    · rw [if_neg q2, if_neg q2]
      by_cases q3 : 8 ≤ j ∧ j < 680 ∧ (j - 8) % 14 = 10
      · rw [if_pos q3, if_pos q3]
      · rw [if_neg q3, if_neg q3]
        by_cases q4 : 681 ≤ j ∧ j < 681 + 2 * f ∧ (j - 681) % 2 = 0
        · rw [if_pos q4, if_pos (by omega)]
        · rw [if_neg q4, if_neg (by omega)]
theorem cI_i {x : Int32} {h1 : pH} {κ : Int32 → pH → rO} : cI (some (.inl (some (.int x)), h1)) κ = κ x h1 := rfl
def XD (P : List dsc) : List dsc := P ++ [.inr (15, [none, some (.ref (P.length + 1)), some (.ref (P.length + 2)), none, some (.ref (P.length + 3)), none, none, none, none, none, none, some (.ref (P.length + 4)), none, some (.ref (P.length + 5)), some (.ref (P.length + 6)), some (.ref (P.length + 7)), none, some (.ref (P.length + 8))]), .inl (0, 35877), .inl (0, 34979), .inl (1, 400), .inl (0, 5), .inl (3, 400), .inl (3, 11), .inl (0, 12), .inl (2, 24)]
noncomputable def F76 (S : sT) (d : Nat) (P : List dsc) (M : fL) (T : fT) (m f : Nat) (B : fA) : rO := bd S (ex S (d + 1)) dflT E_X12_init (m + 200) 76 [some (.ref (P.length + 0)), some (.int (nI f))] [] (HP (XD P) B M T)
noncomputable def F113 (S : sT) (d : Nat) (P : List dsc) (M : fL) (T : fT) (m f : Nat) (B : fA) : rO := bd S (ex S (d + 1)) dflT E_X12_init m 113 [some (.ref (P.length + 0)), some (.int (nI f))] [] (HP (XD P) B M T)
def Q76 (P : List dsc) (A : fA) (T : fT) (r : rO) : Prop := ∃ A' L', r = some (.inl none, HP (XD P) A' L' T) ∧ (∀ r, r < P.length → A' r = A r) ∧ A' (P.length + 0) = upd (fun _ => 0) 10 (-1) ∧ A' (P.length + 1) = W0 ∧ A' (P.length + 3) = (fun _ => 0)
def P76 (P : List dsc) (A : fA) (f : Nat) (B : fA) : Prop := (∀ r, r < P.length → B r = A r) ∧ B (P.length + 0) = upd (fun _ => 0) 10 (-1) ∧ B (P.length + 3) = (fun _ => 0) ∧ ∀ j, B (P.length + 1) j = W1 f j
def P113 (P : List dsc) (A : fA) (f : Nat) (B : fA) : Prop := (∀ r, r < P.length → B r = A r) ∧ B (P.length + 0) = upd (fun _ => 0) 10 (-1) ∧ B (P.length + 3) = (fun _ => 0) ∧ ∀ j, B (P.length + 1) j = W2 f j
theorem XD_0 : (XD P)[P.length + 0]? = some (.inr (15, [none, some (.ref (P.length + 1)), some (.ref (P.length + 2)), none, some (.ref (P.length + 3)), none, none, none, none, none, none, some (.ref (P.length + 4)), none, some (.ref (P.length + 5)), some (.ref (P.length + 6)), some (.ref (P.length + 7)), none, some (.ref (P.length + 8))])) := by unfold XD; rw [s_at]; rfl
theorem XD_1 : (XD P)[P.length + 1]? = some (.inl (0, 35877)) := by unfold XD; rw [s_at]; rfl
theorem lp113 {M : fL} (m : Nat) (hm : 101 < m) (B : fA) (h : P113 P A 0 B) : Q76 P A T (F113 S d P M T m 0 B) := by
  refine loop_Q (F := F113 S d P M T) (N := 101) (P := P113 P A) (Q := Q76 P A T) ?_ ?_ h hm
  · rintro m f B hf ⟨g0, g1, g3, g2⟩
    right
    refine ⟨up B (P.length + 1) (680 + 2 * f + 1) 1, ?_, fun r hr => by rw [up_ne (by omega)]; exact g0 r hr, by rw [up_ne (by omega)]; exact g1, by rw [up_ne (by omega)]; exact g3, W2_s g2⟩
    unfold F113
    rw [g_X12_init_113, if_neg (show ¬ (101 : Int32) ≤ nI f from nI_ge (b := 101) hf (by decide)), gV_H (v := .ref (P.length + 1)) XD_0 rfl rfl, ix_680, nI_p1, sI_H XD_1 (by decide) (nI_pos (by omega)) (by rw [nI_clamp (by omega)]; omega), nI_clamp (by omega), nI_p1]
  · rintro m B ⟨g0, g1, g3, g2⟩
    unfold F113
    rw [g_X12_init_113, if_pos (by decide)]
    refine ⟨B, M, rfl, g0, g1, funext fun j => ?_, g3⟩
    rw [g2 j]
    unfold W2 W0
    rfl
theorem lp76 {M : fL} (m : Nat) (hm : 48 < m) (B : fA) (h : P76 P A 0 B) : Q76 P A T (F76 S d P M T m 0 B) := by
  refine loop_Q (F := F76 S d P M T) (N := 48) (P := P76 P A) (Q := Q76 P A T) ?_ ?_ h hm
  · rintro m f B hf ⟨g0, g1, g3, g2⟩
    right
    refine ⟨up (up B (P.length + 1) (8 + 14 * f + 0) 5) (P.length + 1) (8 + 14 * f + 10) (-1), ?_, fun r hr => by rw [up_ne (by omega), up_ne (by omega)]; exact g0 r hr, by rw [up_ne (by omega), up_ne (by omega)]; exact g1, by rw [up_ne (by omega), up_ne (by omega)]; exact g3, W1_s g2⟩
    unfold F76
    rw [show m + 1 + 200 = m + 200 + 1 from by omega, g_X12_init_76, if_neg (show ¬ (48 : Int32) ≤ nI f from nI_ge (b := 48) hf (by decide)), gV_H (v := .ref (P.length + 1)) XD_0 rfl rfl, ra_0, cI_i, sI_H XD_1 (by decide) (nI_pos (by omega)) (by rw [nI_clamp (by omega)]; omega), gV_H (v := .ref (P.length + 1)) XD_0 rfl rfl, ra_10, cI_i, sI_H XD_1 (by decide) (nI_pos (by omega)) (by rw [nI_clamp (by omega)]; omega), nI_clamp (by omega), nI_clamp (by omega), nI_p1]
  · rintro m B ⟨g0, g1, g3, g2⟩
    unfold F76
    rw [show m + 1 + 200 = m + 200 + 1 from by omega, g_X12_init_76, if_pos (by decide)]
    exact lp113 (m + 200) (by omega) B ⟨g0, g1, g3, fun j => by rw [g2 j]; unfold W1 W2; rw [if_neg (show ¬ (681 ≤ j ∧ j < 681 + 2 * 0 ∧ (j - 681) % 2 = 0) by omega)]⟩
theorem mk_X12b (n : Nat) (hn : 48 < n) (B : fA) (M : fL) (h0 : ∀ r, r < P.length → B r = A r) (h1 : B (P.length + 0) = upd (fun _ => 0) 10 (-1)) (h2 : B (P.length + 1) = (fun _ => 0)) (h3 : B (P.length + 3) = (fun _ => 0)) : ∃ A' L', bd S (ex S (d + 1)) dflT E_X12_init (n + 200) 76 [some (.ref (P.length + 0)), some (.int (nI 0))] [] (HP (P ++ [.inr (15, [none, some (.ref (P.length + 1)), some (.ref (P.length + 2)), none, some (.ref (P.length + 3)), none, none, none, none, none, none, some (.ref (P.length + 4)), none, some (.ref (P.length + 5)), some (.ref (P.length + 6)), some (.ref (P.length + 7)), none, some (.ref (P.length + 8))]), .inl (0, 35877), .inl (0, 34979), .inl (1, 400), .inl (0, 5), .inl (3, 400), .inl (3, 11), .inl (0, 12), .inl (2, 24)]) B M T) = some (.inl none, HP (P ++ [.inr (15, [none, some (.ref (P.length + 1)), some (.ref (P.length + 2)), none, some (.ref (P.length + 3)), none, none, none, none, none, none, some (.ref (P.length + 4)), none, some (.ref (P.length + 5)), some (.ref (P.length + 6)), some (.ref (P.length + 7)), none, some (.ref (P.length + 8))]), .inl (0, 35877), .inl (0, 34979), .inl (1, 400), .inl (0, 5), .inl (3, 400), .inl (3, 11), .inl (0, 12), .inl (2, 24)]) A' L' T) ∧ (∀ r, r < P.length → A' r = A r) ∧ A' (P.length + 0) = upd (fun _ => 0) 10 (-1) ∧ A' (P.length + 1) = W0 ∧ A' (P.length + 3) = (fun _ => 0) :=
  lp76 (S := S) (d := d) (T := T) (M := M) n hn B ⟨h0, h1, h3, fun j => by rw [h2]; unfold W1; rw [if_neg (by omega), if_neg (by omega)]⟩
theorem mk_X12 (hz : A (P.length + 0) = (fun _ => 0)) : ∃ A' L', ex S (d + 2) 13 [.ref (P.length + 0)] (HP (P ++ [.inr (15, [none, some .null, some .null, none, some .null, none, none, none, none, none, none, some .null, none, some .null, some .null, some .null, none, some .null])]) A L T) = some (.inl none, HP (P ++ [.inr (15, [none, some (.ref (P.length + 1)), some (.ref (P.length + 2)), none, some (.ref (P.length + 3)), none, none, none, none, none, none, some (.ref (P.length + 4)), none, some (.ref (P.length + 5)), some (.ref (P.length + 6)), some (.ref (P.length + 7)), none, some (.ref (P.length + 8))]), .inl (0, 35877), .inl (0, 34979), .inl (1, 400), .inl (0, 5), .inl (3, 400), .inl (3, 11), .inl (0, 12), .inl (2, 24)]) A' L' T) ∧ (∀ r, r < P.length → A' r = A r) ∧ A' (P.length + 0) = upd (fun _ => 0) 10 (-1) ∧ A' (P.length + 1) = W0 ∧ A' (P.length + 3) = (fun _ => 0) := by
  rw [x_X12_init, g_X12_init_0]
  rw [s_mkI (m := 1) (n := 35877) (x := 35877) (t := 0) rfl rfl (by decide) (by decide), g_X12_init_9, s_ln (m := 1) rfl]
  show ∃ A' L', pF (HP (P ++ [.inr (15, [none, some .null, some .null, none, some .null, none, none, none, none, none, none, some .null, none, some .null, some .null, some .null, none, some .null]), .inl (0, 35877)]) _ _ _) (.ref (P.length + 0)) 15 1 (.ref (P.length + 1)) _ = _ ∧ _
  rw [s_pFr (j := 0) (ci := 15) (f := 1) rfl rfl]
  show ∃ A' L', mkI (HP (P ++ [.inr (15, [none, some (.ref (P.length + 1)), some .null, none, some .null, none, none, none, none, none, none, some .null, none, some .null, some .null, some .null, none, some .null]), .inl (0, 35877)]) _ _ _) _ _ _ = _ ∧ _
  rw [s_mkI (m := 2) (n := 34979) (x := 34979) (t := 0) rfl rfl (by decide) (by decide), g_X12_init_17, s_ln (m := 2) rfl]
  show ∃ A' L', pF (HP (P ++ [.inr (15, [none, some (.ref (P.length + 1)), some .null, none, some .null, none, none, none, none, none, none, some .null, none, some .null, some .null, some .null, none, some .null]), .inl (0, 35877), .inl (0, 34979)]) _ _ _) (.ref (P.length + 0)) 15 2 (.ref (P.length + 2)) _ = _ ∧ _
  rw [s_pFr (j := 0) (ci := 15) (f := 2) rfl rfl]
  show ∃ A' L', mkI (HP (P ++ [.inr (15, [none, some (.ref (P.length + 1)), some (.ref (P.length + 2)), none, some .null, none, none, none, none, none, none, some .null, none, some .null, some .null, some .null, none, some .null]), .inl (0, 35877), .inl (0, 34979)]) _ _ _) _ _ _ = _ ∧ _
  rw [s_mkI (m := 3) (n := 400) (x := 400) (t := 1) rfl rfl (by decide) (by decide), g_X12_init_26, s_ln (m := 3) rfl]
  show ∃ A' L', pF (HP (P ++ [.inr (15, [none, some (.ref (P.length + 1)), some (.ref (P.length + 2)), none, some .null, none, none, none, none, none, none, some .null, none, some .null, some .null, some .null, none, some .null]), .inl (0, 35877), .inl (0, 34979), .inl (1, 400)]) _ _ _) (.ref (P.length + 0)) 15 4 (.ref (P.length + 3)) _ = _ ∧ _
  rw [s_pFr (j := 0) (ci := 15) (f := 4) rfl rfl]
  show ∃ A' L', pF (HP (P ++ [.inr (15, [none, some (.ref (P.length + 1)), some (.ref (P.length + 2)), none, some (.ref (P.length + 3)), none, none, none, none, none, none, some .null, none, some .null, some .null, some .null, none, some .null]), .inl (0, 35877), .inl (0, 34979), .inl (1, 400)]) _ _ _) (.ref (P.length + 0)) 15 10 (.int (-1)) _ = _ ∧ _
  rw [s_pFi (j := 0) (f := 10) rfl rfl]
  rw [s_mkI (m := 4) (n := 5) (x := 5) (t := 0) rfl rfl (by decide) (by decide), g_X12_init_38, s_ln (m := 4) rfl]
  show ∃ A' L', pF (HP (P ++ [.inr (15, [none, some (.ref (P.length + 1)), some (.ref (P.length + 2)), none, some (.ref (P.length + 3)), none, none, none, none, none, none, some .null, none, some .null, some .null, some .null, none, some .null]), .inl (0, 35877), .inl (0, 34979), .inl (1, 400), .inl (0, 5)]) _ _ _) (.ref (P.length + 0)) 15 11 (.ref (P.length + 4)) _ = _ ∧ _
  rw [s_pFr (j := 0) (ci := 15) (f := 11) rfl rfl]
  show ∃ A' L', mkJ (HP (P ++ [.inr (15, [none, some (.ref (P.length + 1)), some (.ref (P.length + 2)), none, some (.ref (P.length + 3)), none, none, none, none, none, none, some (.ref (P.length + 4)), none, some .null, some .null, some .null, none, some .null]), .inl (0, 35877), .inl (0, 34979), .inl (1, 400), .inl (0, 5)]) _ _ _) _ _ = _ ∧ _
  rw [s_mkJ (m := 5) (n := 400) (x := 400) rfl rfl (by decide), g_X12_init_47, s_ln (m := 5) rfl]
  show ∃ A' L', pF (HP (P ++ [.inr (15, [none, some (.ref (P.length + 1)), some (.ref (P.length + 2)), none, some (.ref (P.length + 3)), none, none, none, none, none, none, some (.ref (P.length + 4)), none, some .null, some .null, some .null, none, some .null]), .inl (0, 35877), .inl (0, 34979), .inl (1, 400), .inl (0, 5), .inl (3, 400)]) _ _ _) (.ref (P.length + 0)) 15 13 (.ref (P.length + 5)) _ = _ ∧ _
  rw [s_pFr (j := 0) (ci := 15) (f := 13) rfl rfl]
  show ∃ A' L', mkJ (HP (P ++ [.inr (15, [none, some (.ref (P.length + 1)), some (.ref (P.length + 2)), none, some (.ref (P.length + 3)), none, none, none, none, none, none, some (.ref (P.length + 4)), none, some (.ref (P.length + 5)), some .null, some .null, none, some .null]), .inl (0, 35877), .inl (0, 34979), .inl (1, 400), .inl (0, 5), .inl (3, 400)]) _ _ _) _ _ = _ ∧ _
  rw [s_mkJ (m := 6) (n := 11) (x := 11) rfl rfl (by decide), g_X12_init_55, s_ln (m := 6) rfl]
  show ∃ A' L', pF (HP (P ++ [.inr (15, [none, some (.ref (P.length + 1)), some (.ref (P.length + 2)), none, some (.ref (P.length + 3)), none, none, none, none, none, none, some (.ref (P.length + 4)), none, some (.ref (P.length + 5)), some .null, some .null, none, some .null]), .inl (0, 35877), .inl (0, 34979), .inl (1, 400), .inl (0, 5), .inl (3, 400), .inl (3, 11)]) _ _ _) (.ref (P.length + 0)) 15 14 (.ref (P.length + 6)) _ = _ ∧ _
  rw [s_pFr (j := 0) (ci := 15) (f := 14) rfl rfl]
  show ∃ A' L', mkI (HP (P ++ [.inr (15, [none, some (.ref (P.length + 1)), some (.ref (P.length + 2)), none, some (.ref (P.length + 3)), none, none, none, none, none, none, some (.ref (P.length + 4)), none, some (.ref (P.length + 5)), some (.ref (P.length + 6)), some .null, none, some .null]), .inl (0, 35877), .inl (0, 34979), .inl (1, 400), .inl (0, 5), .inl (3, 400), .inl (3, 11)]) _ _ _) _ _ _ = _ ∧ _
  rw [s_mkI (m := 7) (n := 12) (x := 12) (t := 0) rfl rfl (by decide) (by decide), g_X12_init_63, s_ln (m := 7) rfl]
  show ∃ A' L', pF (HP (P ++ [.inr (15, [none, some (.ref (P.length + 1)), some (.ref (P.length + 2)), none, some (.ref (P.length + 3)), none, none, none, none, none, none, some (.ref (P.length + 4)), none, some (.ref (P.length + 5)), some (.ref (P.length + 6)), some .null, none, some .null]), .inl (0, 35877), .inl (0, 34979), .inl (1, 400), .inl (0, 5), .inl (3, 400), .inl (3, 11), .inl (0, 12)]) _ _ _) (.ref (P.length + 0)) 15 15 (.ref (P.length + 7)) _ = _ ∧ _
  rw [s_pFr (j := 0) (ci := 15) (f := 15) rfl rfl]
  show ∃ A' L', mkI (HP (P ++ [.inr (15, [none, some (.ref (P.length + 1)), some (.ref (P.length + 2)), none, some (.ref (P.length + 3)), none, none, none, none, none, none, some (.ref (P.length + 4)), none, some (.ref (P.length + 5)), some (.ref (P.length + 6)), some (.ref (P.length + 7)), none, some .null]), .inl (0, 35877), .inl (0, 34979), .inl (1, 400), .inl (0, 5), .inl (3, 400), .inl (3, 11), .inl (0, 12)]) _ _ _) _ _ _ = _ ∧ _
  rw [s_mkI (m := 8) (n := 24) (x := 24) (t := 2) rfl rfl (by decide) (by decide), g_X12_init_71, s_ln (m := 8) rfl]
  show ∃ A' L', pF (HP (P ++ [.inr (15, [none, some (.ref (P.length + 1)), some (.ref (P.length + 2)), none, some (.ref (P.length + 3)), none, none, none, none, none, none, some (.ref (P.length + 4)), none, some (.ref (P.length + 5)), some (.ref (P.length + 6)), some (.ref (P.length + 7)), none, some .null]), .inl (0, 35877), .inl (0, 34979), .inl (1, 400), .inl (0, 5), .inl (3, 400), .inl (3, 11), .inl (0, 12), .inl (2, 24)]) _ _ _) (.ref (P.length + 0)) 15 17 (.ref (P.length + 8)) _ = _ ∧ _
  rw [s_pFr (j := 0) (ci := 15) (f := 17) rfl rfl]
  show ∃ A' L', bd S (ex S (d + 1)) dflT E_X12_init _ 76 _ _ (HP (P ++ [.inr (15, [none, some (.ref (P.length + 1)), some (.ref (P.length + 2)), none, some (.ref (P.length + 3)), none, none, none, none, none, none, some (.ref (P.length + 4)), none, some (.ref (P.length + 5)), some (.ref (P.length + 6)), some (.ref (P.length + 7)), none, some (.ref (P.length + 8))]), .inl (0, 35877), .inl (0, 34979), .inl (1, 400), .inl (0, 5), .inl (3, 400), .inl (3, 11), .inl (0, 12), .inl (2, 24)]) _ _ _) = _ ∧ _
  rw [show (99991 : Nat) = 99791 + 200 from rfl]
  refine mk_X12b 99791 (by decide) _ _ (fun r hr => ?_) ?_ ?_ ?_
  · rw [upR_o (by omega), upR_o (by omega), upR_o (by omega), up_ne (by omega), upR_o (by omega), upR_o (by omega), upR_o (by omega)]
  · rw [upR_o (by omega), upR_o (by omega), upR_o (by omega), up_eq, upR_o (by omega), upR_o (by omega), upR_o (by omega), hz]
  · rw [upR_o (by omega), upR_o (by omega), upR_o (by omega), up_ne (by omega), upR_o (by omega), upR_o (by omega), upR_s]
  · rw [upR_o (by omega), upR_o (by omega), upR_o (by omega), up_ne (by omega), upR_s]
theorem W0_f {f w : Nat} (hf : f < 48) (hw : w < 14) : W0 (8 + 14 * f + w) = if w = 0 then 5 else if w = 10 then -1 else 0 := by
  have e : (8 + 14 * f + w - 8) % 14 = w := by omega
  unfold W0
  rw [e]
  by_cases q : w = 0
  · rw [if_pos (by omega), if_pos q]
  · rw [if_neg (by omega), if_neg q]
    by_cases q2 : w = 10
    · rw [if_pos (by omega), if_pos q2]
    · rw [if_neg (by omega), if_neg q2, if_neg (by omega)]
theorem W0_z {j : Nat} (h : j < 8 ∨ 882 ≤ j) : W0 j = 0 := by
  unfold W0
  rw [if_neg (by omega), if_neg (by omega), if_neg (by omega)]
theorem W0_r0 {y : Nat} (h : y < 101) : W0 (680 + 2 * y) = 0 := by
  unfold W0
  rw [if_neg (by omega), if_neg (by omega), if_neg (by omega)]
theorem W0_r1 {y : Nat} (h : y < 101) : W0 (680 + 2 * y + 1) = 1 := by
  unfold W0
  rw [if_neg (by omega), if_neg (by omega), if_pos (by omega)]
theorem rg0 {a b : Int} (h1 : a ≤ 0) (h2 : 0 ≤ b) : rg 0 a b := ⟨h1, h2⟩
theorem Iv_0 : Iv 0 W0 := by
  have n882 : pn W0 = 0 := by unfold pn; rw [W0_z (by omega)]; rfl
  have n1683 : hn W0 = 0 := by unfold hn; rw [W0_z (by omega)]; rfl
  have n1948 : ln W0 = 0 := by unfold ln; rw [W0_z (by omega)]; rfl
  have n2237 : jn W0 = 0 := by unfold jn; rw [W0_z (by omega)]; rfl
  have n2256 : tn W0 = 0 := by unfold tn; rw [W0_z (by omega)]; rfl
  have n2265 : rn W0 = 0 := by unfold rn; rw [W0_z (by omega)]; rfl
  have n2650 : xn W0 = 0 := by unfold xn; rw [W0_z (by omega)]; rfl
  refine ⟨?_, fun f hf => ?_, fun y hy => ?_, ⟨?_, ?_, fun k hk => ?_⟩, ⟨?_, ?_, fun h hh => ?_⟩, ?_, ⟨?_, ?_, fun l hl => ?_⟩, ⟨?_, ?_, fun k hk => ?_⟩, ⟨?_, ?_, fun t ht => ?_⟩, ⟨?_, ?_⟩, ⟨?_, ?_, fun t ht => ?_⟩⟩
  · rw [W0_z (by omega)]; exact rg0 (by decide) (by decide)
  · unfold IvF
    rw [W0_f hf (w := 0) (by decide), W0_f hf (w := 1) (by decide), W0_f hf (w := 2) (by decide), W0_f hf (w := 3) (by decide), W0_f hf (w := 4) (by decide), W0_f hf (w := 5) (by decide), W0_f hf (w := 6) (by decide), W0_f hf (w := 7) (by decide), W0_f hf (w := 8) (by decide), W0_f hf (w := 10) (by decide), W0_f hf (w := 11) (by decide), W0_f hf (w := 12) (by decide), W0_f hf (w := 13) (by decide)]
    exact ⟨⟨by decide, by decide⟩, ⟨by decide, by decide⟩, ⟨by decide, by decide⟩, ⟨by decide, by decide⟩, ⟨by decide, by decide⟩, ⟨by decide, by decide⟩, ⟨by decide, by decide⟩, ⟨by decide, by decide⟩, ⟨by decide, by decide⟩, Or.inl ⟨rfl, rfl⟩, Or.inl rfl, ⟨by decide, by decide⟩, ⟨by decide, by decide⟩⟩
  · exact Or.inl ⟨W0_r1 hy, by rw [W0_r0 hy]; exact rg0 (by decide) (by decide)⟩
  · rw [n882, W0_z (by omega)]; rfl
  · rw [n882]; decide
  · rw [n882] at hk; omega
  · rw [n1683, W0_z (by omega)]; rfl
  · rw [n1683]; decide
  · rw [n1683] at hh; omega
  · unfold IvGs
    rw [W0_z (j := 1) (by omega), W0_z (j := 2) (by omega), W0_z (j := 3) (by omega), W0_z (j := 4) (by omega), W0_z (j := 7) (by omega), W0_z (j := 6) (by omega)]
    exact ⟨rg0 (by decide) (by decide), rg0 (by decide) (by decide), rg0 (by decide) (by decide), rg0 (by decide) (by decide), rg0 (by decide) (by decide), 0, by decide, rfl⟩
  · rw [n1948, W0_z (by omega)]; rfl
  · rw [n1948]; decide
  · rw [W0_z (by omega), W0_z (by omega), W0_z (by omega)]; exact ⟨rg0 (by decide) (by decide), rg0 (by decide) (by decide), rg0 (by decide) (by decide)⟩
  · rw [n2237, W0_z (by omega)]; rfl
  · rw [n2237]; decide
  · rw [W0_z (by omega), W0_z (by omega)]; exact ⟨rg0 (by decide) (by decide), rg0 (by decide) (by decide)⟩
  · rw [n2256, W0_z (by omega)]; rfl
  · rw [n2256]; decide
  · rw [W0_z (by omega), W0_z (by omega)]; exact ⟨rg0 (by decide) (by decide), rg0 (by decide) (by decide)⟩
  · rw [n2265, W0_z (by omega)]; rfl
  · rw [n2265]; decide
  · rw [n2650, W0_z (by omega)]; rfl
  · rw [n2650]; decide
  · rw [n2650] at ht; omega
theorem Lk_0 (hA : A 4 7 = 0) (hr : ∀ r, r = 1 ∨ r = 3 ∨ r = 4 ∨ r = 7 ∨ r = 8 ∨ 12 ≤ r ∧ r < 32 → A (4 + r) = (fun _ => 0)) (hl : A 10 = lnd0) (h6 : ∀ j, T 6 j = none) (h13 : ∀ j, T 13 j = none) : LkA 4 .null [] A T W0 := by
  have n882 : pn W0 = 0 := by unfold pn; rw [W0_z (by omega)]; rfl
  have n1683 : hn W0 = 0 := by unfold hn; rw [W0_z (by omega)]; rfl
  have n2650 : xn W0 = 0 := by unfold xn; rw [W0_z (by omega)]; rfl
  have z : ∀ r j, r = 1 ∨ r = 3 ∨ r = 4 ∨ r = 7 ∨ r = 8 ∨ 12 ≤ r ∧ r < 32 → A (4 + r) j = 0 := fun r j h => by rw [hr r h]
  refine ⟨by rw [hA, W0_z (by omega)], fun w f hw hf => ?_, ⟨?_, fun i hi => ?_, fun k hk => ?_⟩, ⟨⟨?_, ?_, ?_, ?_, ?_, ?_, ?_, ?_⟩, fun i hi => ?_, fun l hl => ⟨?_, ?_, ?_⟩⟩, ⟨?_, ?_, fun k hk => ⟨?_, ?_, ?_⟩, fun t ht => ⟨?_, ?_⟩⟩, ⟨?_, fun i hi => ?_, fun i hi => ?_⟩, ⟨?_, fun h hh => ?_, fun h hh => Or.inl (h13 h), fun h hh => ?_⟩, ⟨?_, fun t ht => Or.inl (h6 t), fun t ht => ?_, fun i hi => ?_⟩⟩
  · rw [show A (4 + 6) = lnd0 from hl, W0_f hf hw]
    unfold lnd0
    by_cases q : w = 0
    · rw [if_pos (by omega), if_pos q]
    · rw [if_neg (by omega), if_neg q]
      by_cases q2 : w = 10
      · rw [if_pos (by omega), if_pos q2]
      · rw [if_neg (by omega), if_neg q2]
  · rw [z 12 _ (by omega), W0_z (by omega)]
  · rw [z 13 _ (by omega), W0_r1 hi, if_pos rfl, W0_r0 hi]
  · rw [n882] at hk; omega
  · rw [z 18 _ (by omega), W0_z (by omega)]
  · rw [z 18 _ (by omega), W0_z (by omega)]
  · rw [z 18 _ (by omega), W0_z (by omega)]
  · rw [z 18 _ (by omega), W0_z (by omega)]
  · rw [z 18 _ (by omega), W0_z (by omega)]
  · rw [z 18 _ (by omega), W0_z (by omega)]
  · rw [z 18 _ (by omega), W0_z (by omega)]
  · rw [z 18 _ (by omega), W0_z (by omega)]
  · rw [z 19 _ (by omega), W0_z (by omega)]
  · rw [z 22 _ (by omega), W0_z (by omega)]
  · rw [z 20 _ (by omega), W0_z (by omega)]
  · rw [z 21 _ (by omega), W0_z (by omega)]
  · rw [z 23 _ (by omega), W0_z (by omega)]
  · rw [z 23 _ (by omega), W0_z (by omega)]
  · rw [z 24 _ (by omega), W0_z (by omega)]
  · rw [z 25 _ (by omega), W0_z (by omega)]
  · rw [z 26 _ (by omega), W0_z (by omega)]
  · rw [z 27 _ (by omega), W0_z (by omega)]
  · rw [z 28 _ (by omega), W0_z (by omega)]
  · rw [z 29 _ (by omega), W0_z (by omega)]
  · rw [z 30 _ (by omega), W0_z (by omega)]
  · rw [z 31 _ (by omega), W0_z (by omega)]
  · rw [z 7 _ (by omega), W0_z (by omega)]
  · rw [n1683] at hh; omega
  · rw [n1683] at hh; omega
  · rw [z 1 _ (by omega), W0_z (by omega)]
  · rw [n2650] at ht; omega
  · rw [n2650] at hi; omega
theorem law_start : ∃ A L T, Rel 0 .null [] A T ∧ ∀ n, bd S (ex S (d + 10)) dflT E_L_law (n + 1) 0 (some (.retAddr 0) :: List.replicate 6 none) [] [] = bd S (ex S (d + 10)) dflT E_L_law n 23 [some (.retAddr 0), some (.ref 0), some (.ref 39), some (.ref 48), some (.int (nI (7 * 0))), none, none] [] (Hh .null [] A L T) := by
  obtain ⟨A1, L1, T1, r1, a1, a2, a3, a4, ⟨s1, s3, s4, s7, s8, s12, s13, s14, s15, s16, s17, s18, s19, s20, s21, s22, s23, s24, s25, s26, s27, s28, s29, s30, s31⟩, a10, a36, t6, t13⟩ := mk_X11 (S := S) (d := d + 6) (A := fun _ _ => 0) (L := fun _ _ => 0) (T := fun _ _ => none)
  obtain ⟨A2, L2, r2, b0, b39, b40, b42⟩ := mk_X12 (S := S) (d := d + 8) (P := Y39) (A := upR A1 39 (fun _ => 0)) (L := L1) (T := T1) upR_s
  have u : ∀ r, r < 39 → A2 r = A1 r := fun r hr => (b0 r hr).trans (upR_o (by omega))
  have e39 : A2 39 = upd (fun _ => 0) 10 (-1) := b39
  have e40 : A2 40 = W0 := b40
  have e42 : A2 42 = (fun _ => 0) := b42
  refine ⟨A2, upLR L2 48 (fun _ => 0), T1, ?_, fun n => ?_⟩
  · refine ⟨by rw [e40]; exact Iv_0, ?_, ⟨0, by decide, by rw [u 1 (by decide), a1]; rfl, by rw [e39]; rfl⟩, fun i hi => by rw [u 2 (by decide), a3, e42], by rw [u 1 (by decide), a2, e39]; rfl, ⟨by rw [u 36 (by decide), a36], by rw [u 36 (by decide), a36]⟩, Or.inl ⟨rfl, by rw [e39]; rfl⟩, Nat.le_refl _, Nat.le_refl _⟩
    rw [e40]
    refine Lk_0 (by rw [u 4 (by decide)]; exact a4) (fun r h => ?_) (by rw [u 10 (by decide)]; exact a10) t6 t13
    rw [u (4 + r) (by omega)]
    rcases (show r = 1 ∨ r = 3 ∨ r = 4 ∨ r = 7 ∨ r = 8 ∨ r = 12 ∨ r = 13 ∨ r = 14 ∨ r = 15 ∨ r = 16 ∨ r = 17 ∨ r = 18 ∨ r = 19 ∨ r = 20 ∨ r = 21 ∨ r = 22 ∨ r = 23 ∨ r = 24 ∨ r = 25 ∨ r = 26 ∨ r = 27 ∨ r = 28 ∨ r = 29 ∨ r = 30 ∨ r = 31 by omega) with rfl | rfl | rfl | rfl | rfl | rfl | rfl | rfl | rfl | rfl | rfl | rfl | rfl | rfl | rfl | rfl | rfl | rfl | rfl | rfl | rfl | rfl | rfl | rfl | rfl
    · exact s1
    · exact s3
    · exact s4
    · exact s7
    · exact s8
    · exact s12
    · exact s13
    · exact s14
    · exact s15
    · exact s16
    · exact s17
    · exact s18
    · exact s19
    · exact s20
    · exact s21
    · exact s22
    · exact s23
    · exact s24
    · exact s25
    · exact s26
    · exact s27
    · exact s28
    · exact s29
    · exact s30
    · exact s31
  · show bd S (ex S (d + 10)) dflT E_L_law (n + 1) 0 [some (.retAddr 0), none, none, none, none, none, none] [] [] = _
    rw [g_L_law_0]
    have e0 : ([] : pH) ++ [.inr (14, dflT 14)] = HP [.inr (14, [some .null, some .null, some .null, some .null])] (fun _ _ => 0) (fun _ _ => 0) (fun _ _ => none) := congrArg (fun z => [Sum.inr (14, z)]) (ks_X11 (fun _ _ => 0) 0 rfl).symm
    rw [e0, show List.length ([] : pH) = 0 from rfl, r1, cUx_i, HP_len, mkO_H (ks := [none, some .null, some .null, none, some .null, none, none, none, none, none, none, some .null, none, some .null, some .null, some .null, none, some .null]) (ks_X12 _ _ upR_s), show List.length Y39 = 39 from rfl]
    rw [show List.length Y39 = 39 from rfl, Nat.add_zero] at r2
    show cUx tN (ex S (d + 10) 13 [.ref 39] _) _ = _
    rw [r2, cUx_i, HP_len, mkJ_H (by decide) (by decide)]
    generalize hY : _ ++ [(Sum.inl (3, _) : dsc)] = Y
    have hY' : Y = D0 .null ++ [] := hY.symm
    subst hY'
    clear hY
    rfl
end Start
