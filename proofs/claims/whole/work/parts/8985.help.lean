/-! the law's helpers: what the class's call answers or throws, as the law sees it -/
section Help
variable {S : sT} {d c : Nat} {k : Value} {E : List dsc} {A : fA} {L : fL} {T : fT}
/-- a helper writes the answer down, or tells which throw it was; the reference behind it -/
def HQ (c : Nat) (S : sT) (d : Nat) (k : Value) (E : List dsc) (A : fA) (T : fT) (mh : Nat) (avh : List Value) (mr : Nat) (av : List Value) (f : Int32 → Int64) : Prop :=
  ∀ L, ∃ k' E' A1 L1 T',
    (∃ y, ex S (d + 1) mh avh (Hh k E A L T) = some (.inl (some (.int 0)), Hh k' E' A1 (upL L1 48 0 (f y)) T') ∧ ∀ M : fL, ∃ A2 L2, ex S (d + 1) mr (.ref 39 :: av) (Hh k' E' A1 M T') = some (.inl (some (.int y)), Hh k' E' A2 L2 T') ∧ L2 48 = M 48 ∧ A2 39 0 = 0 ∧ Rel (c + 1) k' E' A2 T')
    ∨ ∃ x : Int32, x ≠ 0 ∧ ex S (d + 1) mh avh (Hh k E A L T) = some (.inl (some (.int x)), Hh k' E' A1 L1 T') ∧ ∀ M : fL, ∃ A2 L2 y, ex S (d + 1) mr (.ref 39 :: av) (Hh k' E' A1 M T') = some (.inl (some (.int y)), Hh k' E' A2 L2 T') ∧ L2 48 = M 48 ∧ A2 39 0 = x ∧ Rel (c + 1) k' E' A2 T'
theorem okI_i {mc : Nat} {v : Option Value} (h0 : okI mc none = false) (h : okI mc v = true) : ∃ y, v = some (.int y) := by
  cases v with
  | none => rw [h0] at h; cases h
  | some w =>
    cases w with
    | int y => exact ⟨y, rfl⟩
    | _ => cases h
theorem okI_n {mc : Nat} {v : Option Value} (h0 : okI mc none = true) (h : okI mc v = true) : v = none := by
  cases v with
  | none => rfl
  | some w =>
    cases w with
    | int y => exact absurd (show (!(okI mc none)) = true from h) (by rw [h0]; decide)
    | _ => cases h
theorem cIx_t {thr : String → pH → rO} {E : String} {h1 : pH} {κ : Int32 → pH → rO} : cIx thr (some (.inr E, h1)) κ = thr E h1 := rfl
theorem cUx_t {thr : String → pH → rO} {E : String} {h1 : pH} {κ : pH → rO} : cUx thr (some (.inr E, h1)) κ = thr E h1 := rfl
theorem thr_x {n q j : Nat} {ct : cL} {loc : pL} {κ : Nat → pL → List Value → pH → rO} {E : String} {h1 : pH} (h : clk ct E = some (q, j)) : thrH 1 n ct loc κ E h1 = sto n loc j (κ q (loc.set j none) [] h1) := by
  unfold thrH; rw [h]; rfl
def bj (y : Int32) : Int64 := if y = 0 then 0 else 1
theorem HQ_of {mc mr mh : Nat} {av avh : List Value} {cd : Nat → Int32} {f : Int32 → Int64} (p : PK c S d k E A T mc mr av cd) (h0 : okI mc none = false)
    (hv : ∀ L k' E' A1 L1 T' y, ex S d mc (.ref 0 :: av) (Hh k E A L T) = some (.inl (some (.int y)), Hh k' E' A1 L1 T') → ex S (d + 1) mh avh (Hh k E A L T) = some (.inl (some (.int 0)), Hh k' E' A1 (upL L1 48 0 (f y)) T'))
    (he : ∀ L k' E' A1 L1 T' e, cd e ≠ 0 → ex S d mc (.ref 0 :: av) (Hh k E A L T) = some (.inr (xnm e), Hh k' E' A1 L1 T') → ex S (d + 1) mh avh (Hh k E A L T) = some (.inl (some (.int (cd e))), Hh k' E' A1 L1 T')) : HQ c S d k E A T mh avh mr av f := by
  intro L
  obtain ⟨k', E', A1, L1, T', h⟩ := p L
  refine ⟨k', E', A1, L1, T', ?_⟩
  rcases h with ⟨v, ok, e1, e2⟩ | ⟨e, q, e1, e2⟩
  · obtain ⟨y, rfl⟩ := okI_i h0 ok
    refine Or.inl ⟨y, hv _ _ _ _ _ _ _ e1, fun M => ?_⟩
    obtain ⟨A2, L2, a, b⟩ := e2 M
    exact ⟨A2, L2, ex_up a, b⟩
  · refine Or.inr ⟨cd e, q, he _ _ _ _ _ _ _ q e1, fun M => ?_⟩
    obtain ⟨A2, L2, v, ok, a, b⟩ := e2 M
    obtain ⟨y, rfl⟩ := okI_i h0 ok
    exact ⟨A2, L2, y, ex_up a, b⟩
theorem cdA_x {e : Nat} (h : cdA e ≠ 0) : e = 1 := by
  unfold cdA at h
  by_cases q : e = 1
  · exact q
  · exact absurd (by rw [if_neg (by omega)]) h
theorem cdB_x {e : Nat} (h : cdB e ≠ 0) : e = 0 ∨ e = 3 := by
  unfold cdB at h
  by_cases q : e = 0 ∨ e = 3
  · exact q
  · exact absurd (by rw [if_neg (by omega), if_neg (by omega)]) h
theorem cdC_x {e : Nat} (h : cdC e ≠ 0) : e = 3 := by
  unfold cdC at h
  by_cases q : e = 3
  · exact q
  · exact absurd (by rw [if_neg (by omega)]) h
theorem cdD_x {e : Nat} (h : cdD e ≠ 0) : e = 0 ∨ e = 1 := by
  unfold cdD at h
  by_cases q : e = 0 ∨ e = 1
  · exact q
  · exact absurd (by rw [if_neg (by omega), if_neg (by omega)]) h
theorem cdE_x {e : Nat} (h : cdE e ≠ 0) : e = 0 ∨ e = 1 ∨ e = 2 := by
  unfold cdE at h
  by_cases q : e = 0 ∨ e = 1 ∨ e = 2
  · exact q
  · exact absurd (by rw [if_neg (by omega), if_neg (by omega), if_neg (by omega)]) h
theorem cdF_x {e : Nat} (h : cdF e ≠ 0) : e = 0 ∨ e = 2 := by
  unfold cdF at h
  by_cases q : e = 0 ∨ e = 2
  · exact q
  · exact absurd (by rw [if_neg (by omega), if_neg (by omega)]) h
theorem cdG_x {e : Nat} (h : cdG e ≠ 0) : e = 1 ∨ e = 4 := by
  unfold cdG at h
  by_cases q : e = 1 ∨ e = 4
  · exact q
  · exact absurd (by rw [if_neg (by omega), if_neg (by omega)]) h
theorem cdH_x {e : Nat} (h : cdH e ≠ 0) : e = 0 := by
  unfold cdH at h
  by_cases q : e = 0
  · exact q
  · exact absurd (by rw [if_neg (by omega)]) h
theorem h_field {x1 x2 x3 x4 x5 x6 : Int32} (p : PK c S d k E A T 26 32 [.int x1, .int x2, .int x3, .int x4, .int x5, .int x6] cdD) : HQ c S d k E A T 27 [.ref 0, .int x1, .int x2, .int x3, .int x4, .int x5, .int x6, .ref 48] 32 [.int x1, .int x2, .int x3, .int x4, .int x5, .int x6] bj := by
  refine HQ_of p rfl (fun L k' E' A1 L1 T' y e1 => ?_) (fun L k' E' A1 L1 T' e q e1 => ?_)
  · rw [x_L_field, g_L_field_0]
    rw [hc_0, e1]
    unfold cIx bj
    dsimp only
    by_cases q : y = 0
    · rw [if_pos q, if_pos q, show (0 : Int32) = nI 0 from rfl, sn_48 (by decide)]; rfl
    · rw [if_neg q, if_neg q, show (0 : Int32) = nI 0 from rfl, sn_48 (by decide)]; rfl
  · rcases cdD_x q with rfl | rfl
    · rw [x_L_field, g_L_field_0]
      rw [hc_0, e1, cIx_t, thr_x (show clk [("java/lang/IndexOutOfBoundsException", 30, 8), ("java/lang/IllegalArgumentException", 34, 8)] (xnm 0) = some (30, 8) from by decide +kernel)]
      exact congrArg (onlyR 1) (g_L_field_30 S (ex S d) 8 _ _ _ _ _ _ _ _ _ _)
    · rw [x_L_field, g_L_field_0]
      rw [hc_0, e1, cIx_t, thr_x (show clk [("java/lang/IndexOutOfBoundsException", 30, 8), ("java/lang/IllegalArgumentException", 34, 8)] (xnm 1) = some (34, 8) from by decide +kernel)]
      exact congrArg (onlyR 1) (g_L_field_34 S (ex S d) 8 _ _ _ _ _ _ _ _ _ _)
theorem h_rain {x1 x2 x3 : Int32} (p : PK c S d k E A T 35 37 [.int x1, .int x2, .int x3] cdA) : ∀ L, ∃ k' E' A1 L1 T' x, ex S (d + 1) 36 [.ref 0, .int x1, .int x2, .int x3] (Hh k E A L T) = some (.inl (some (.int x)), Hh k' E' A1 L1 T') ∧ ∀ M : fL, ∃ A2 L2, ex S (d + 1) 37 [.ref 39, .int x1, .int x2, .int x3] (Hh k' E' A1 M T') = some (.inl none, Hh k' E' A2 L2 T') ∧ L2 48 = M 48 ∧ A2 39 0 = x ∧ Rel (c + 1) k' E' A2 T' := by
  intro L
  obtain ⟨k', E', A1, L1, T', h⟩ := p L
  rcases h with ⟨v, ok, e1, e2⟩ | ⟨e, q, e1, e2⟩
  · obtain rfl := okI_n rfl ok
    refine ⟨k', E', A1, L1, T', 0, ?_, fun M => ?_⟩
    · rw [x_L_rain, g_L_rain_0]
      rw [hc_0, e1]; rfl
    · obtain ⟨A2, L2, a, b⟩ := e2 M
      exact ⟨A2, L2, ex_up a, b⟩
  · refine ⟨k', E', A1, L1, T', cdA e, ?_, fun M => ?_⟩
    · obtain rfl := cdA_x q
      rw [x_L_rain, g_L_rain_0]
      rw [hc_0, e1, cUx_t, thr_x (show clk [("java/lang/IllegalArgumentException", 12, 4)] (xnm 1) = some (12, 4) from by decide +kernel)]
      exact congrArg (onlyR 1) (g_L_rain_12 S (ex S d) 8 _ _ _ _ _ _)
    · obtain ⟨A2, L2, v, ok, a, b⟩ := e2 M
      obtain rfl := okI_n rfl ok
      exact ⟨A2, L2, ex_up a, b⟩
theorem h_fell {x1 : Int32} (p : PK c S d k E A T 40 44 [.int x1] cdA) : HQ c S d k E A T 41 [.ref 0, .int x1, .ref 48] 44 [.int x1] Int32.toInt64 := by
  refine HQ_of p rfl (fun L k' E' A1 L1 T' y e1 => ?_) (fun L k' E' A1 L1 T' e q e1 => ?_)
  · rw [x_L_fell, g_L_fell_0]
    rw [hc_0, e1]
    unfold cIx
    dsimp only
    rw [show (0 : Int32) = nI 0 from rfl, sn_48 (by decide)]; rfl
  · rcases cdA_x q with rfl
    · rw [x_L_fell, g_L_fell_0]
      rw [hc_0, e1, cIx_t, thr_x (show clk [("java/lang/IllegalArgumentException", 13, 3)] (xnm 1) = some (13, 3) from by decide +kernel)]
      exact congrArg (onlyR 1) (g_L_fell_13 S (ex S d) 8 _ _ _ _ _)
theorem h_price {x1 x2 x3 : Int32} (p : PK c S d k E A T 46 49 [.int x1, .int x2, .int x3] cdA) : HQ c S d k E A T 47 [.ref 0, .int x1, .int x2, .int x3, .ref 48] 49 [.int x1, .int x2, .int x3] Int32.toInt64 := by
  refine HQ_of p rfl (fun L k' E' A1 L1 T' y e1 => ?_) (fun L k' E' A1 L1 T' e q e1 => ?_)
  · rw [x_L_price, g_L_price_0]
    rw [hc_0, e1]
    unfold cIx
    dsimp only
    rw [show (0 : Int32) = nI 0 from rfl, sn_48 (by decide)]; rfl
  · rcases cdA_x q with rfl
    · rw [x_L_price, g_L_price_0]
      rw [hc_0, e1, cIx_t, thr_x (show clk [("java/lang/IllegalArgumentException", 17, 5)] (xnm 1) = some (17, 5) from by decide +kernel)]
      exact congrArg (onlyR 1) (g_L_price_17 S (ex S d) 8 _ _ _ _ _ _ _)
theorem h_known {x1 x2 x3 : Int32} (p : PK c S d k E A T 51 54 [.int x1, .int x2, .int x3] cdA) : HQ c S d k E A T 52 [.ref 0, .int x1, .int x2, .int x3, .ref 48] 54 [.int x1, .int x2, .int x3] Int32.toInt64 := by
  refine HQ_of p rfl (fun L k' E' A1 L1 T' y e1 => ?_) (fun L k' E' A1 L1 T' e q e1 => ?_)
  · rw [x_L_known, g_L_known_0]
    rw [hc_0, e1]
    unfold cIx
    dsimp only
    rw [show (0 : Int32) = nI 0 from rfl, sn_48 (by decide)]; rfl
  · rcases cdA_x q with rfl
    · rw [x_L_known, g_L_known_0]
      rw [hc_0, e1, cIx_t, thr_x (show clk [("java/lang/IllegalArgumentException", 17, 5)] (xnm 1) = some (17, 5) from by decide +kernel)]
      exact congrArg (onlyR 1) (g_L_known_17 S (ex S d) 8 _ _ _ _ _ _ _)
theorem h_let {x1 x2 x3 x4 x5 : Int32} (p : PK c S d k E A T 110 155 [.int x1, .int x2, .int x3, .int x4, .int x5] cdD) : HQ c S d k E A T 111 [.ref 0, .int x1, .int x2, .int x3, .int x4, .int x5, .ref 48] 155 [.int x1, .int x2, .int x3, .int x4, .int x5] Int32.toInt64 := by
  refine HQ_of p rfl (fun L k' E' A1 L1 T' y e1 => ?_) (fun L k' E' A1 L1 T' e q e1 => ?_)
  · rw [x_L_let, g_L_let_0]
    rw [hc_0, e1]
    unfold cIx
    dsimp only
    rw [show (0 : Int32) = nI 0 from rfl, sn_48 (by decide)]; rfl
  · rcases cdD_x q with rfl | rfl
    · rw [x_L_let, g_L_let_0]
      rw [hc_0, e1, cIx_t, thr_x (show clk [("java/lang/IndexOutOfBoundsException", 21, 7), ("java/lang/IllegalArgumentException", 25, 7)] (xnm 0) = some (21, 7) from by decide +kernel)]
      exact congrArg (onlyR 1) (g_L_let_21 S (ex S d) 8 _ _ _ _ _ _ _ _ _)
    · rw [x_L_let, g_L_let_0]
      rw [hc_0, e1, cIx_t, thr_x (show clk [("java/lang/IndexOutOfBoundsException", 21, 7), ("java/lang/IllegalArgumentException", 25, 7)] (xnm 1) = some (25, 7) from by decide +kernel)]
      exact congrArg (onlyR 1) (g_L_let_25 S (ex S d) 8 _ _ _ _ _ _ _ _ _)
theorem h_keep {x1 x2 x3 x4 x5 : Int32} (p : PK c S d k E A T 157 159 [.int x1, .int x2, .int x3, .int x4, .int x5] cdD) : HQ c S d k E A T 158 [.ref 0, .int x1, .int x2, .int x3, .int x4, .int x5, .ref 48] 159 [.int x1, .int x2, .int x3, .int x4, .int x5] Int32.toInt64 := by
  refine HQ_of p rfl (fun L k' E' A1 L1 T' y e1 => ?_) (fun L k' E' A1 L1 T' e q e1 => ?_)
  · rw [x_L_keep, g_L_keep_0]
    rw [hc_0, e1]
    unfold cIx
    dsimp only
    rw [show (0 : Int32) = nI 0 from rfl, sn_48 (by decide)]; rfl
  · rcases cdD_x q with rfl | rfl
    · rw [x_L_keep, g_L_keep_0]
      rw [hc_0, e1, cIx_t, thr_x (show clk [("java/lang/IndexOutOfBoundsException", 21, 7), ("java/lang/IllegalArgumentException", 25, 7)] (xnm 0) = some (21, 7) from by decide +kernel)]
      exact congrArg (onlyR 1) (g_L_keep_21 S (ex S d) 8 _ _ _ _ _ _ _ _ _)
    · rw [x_L_keep, g_L_keep_0]
      rw [hc_0, e1, cIx_t, thr_x (show clk [("java/lang/IndexOutOfBoundsException", 21, 7), ("java/lang/IllegalArgumentException", 25, 7)] (xnm 1) = some (25, 7) from by decide +kernel)]
      exact congrArg (onlyR 1) (g_L_keep_25 S (ex S d) 8 _ _ _ _ _ _ _ _ _)
theorem h_sow {x1 x2 : Int32} (p : PK c S d k E A T 163 167 [.int x1, .int x2] cdE) : HQ c S d k E A T 164 [.ref 0, .int x1, .int x2, .ref 48] 167 [.int x1, .int x2] bj := by
  refine HQ_of p rfl (fun L k' E' A1 L1 T' y e1 => ?_) (fun L k' E' A1 L1 T' e q e1 => ?_)
  · rw [x_L_sow, g_L_sow_0]
    rw [hc_0, e1]
    unfold cIx bj
    dsimp only
    by_cases q : y = 0
    · rw [if_pos q, if_pos q, show (0 : Int32) = nI 0 from rfl, sn_48 (by decide)]; rfl
    · rw [if_neg q, if_neg q, show (0 : Int32) = nI 0 from rfl, sn_48 (by decide)]; rfl
  · rcases cdE_x q with rfl | rfl | rfl
    · rw [x_L_sow, g_L_sow_0]
      rw [hc_0, e1, cIx_t, thr_x (show clk [("java/lang/IndexOutOfBoundsException", 22, 4), ("java/lang/IllegalArgumentException", 26, 4), ("java/lang/ClassCastException", 30, 4)] (xnm 0) = some (22, 4) from by decide +kernel)]
      exact congrArg (onlyR 1) (g_L_sow_22 S (ex S d) 8 _ _ _ _ _ _)
    · rw [x_L_sow, g_L_sow_0]
      rw [hc_0, e1, cIx_t, thr_x (show clk [("java/lang/IndexOutOfBoundsException", 22, 4), ("java/lang/IllegalArgumentException", 26, 4), ("java/lang/ClassCastException", 30, 4)] (xnm 1) = some (26, 4) from by decide +kernel)]
      exact congrArg (onlyR 1) (g_L_sow_26 S (ex S d) 8 _ _ _ _ _ _)
    · rw [x_L_sow, g_L_sow_0]
      rw [hc_0, e1, cIx_t, thr_x (show clk [("java/lang/IndexOutOfBoundsException", 22, 4), ("java/lang/IllegalArgumentException", 26, 4), ("java/lang/ClassCastException", 30, 4)] (xnm 2) = some (30, 4) from by decide +kernel)]
      exact congrArg (onlyR 1) (g_L_sow_30 S (ex S d) 8 _ _ _ _ _ _)
theorem h_notice {x1 : Int32} (p : PK c S d k E A T 169 173 [.int x1] cdF) : HQ c S d k E A T 170 [.ref 0, .int x1, .ref 48] 173 [.int x1] bj := by
  refine HQ_of p rfl (fun L k' E' A1 L1 T' y e1 => ?_) (fun L k' E' A1 L1 T' e q e1 => ?_)
  · rw [x_L_notice, g_L_notice_0]
    rw [hc_0, e1]
    unfold cIx bj
    dsimp only
    by_cases q : y = 0
    · rw [if_pos q, if_pos q, show (0 : Int32) = nI 0 from rfl, sn_48 (by decide)]; rfl
    · rw [if_neg q, if_neg q, show (0 : Int32) = nI 0 from rfl, sn_48 (by decide)]; rfl
  · rcases cdF_x q with rfl | rfl
    · rw [x_L_notice, g_L_notice_0]
      rw [hc_0, e1, cIx_t, thr_x (show clk [("java/lang/IndexOutOfBoundsException", 20, 3), ("java/lang/ClassCastException", 23, 3)] (xnm 0) = some (20, 3) from by decide +kernel)]
      exact congrArg (onlyR 1) (g_L_notice_20 S (ex S d) 8 _ _ _ _ _)
    · rw [x_L_notice, g_L_notice_0]
      rw [hc_0, e1, cIx_t, thr_x (show clk [("java/lang/IndexOutOfBoundsException", 20, 3), ("java/lang/ClassCastException", 23, 3)] (xnm 2) = some (23, 3) from by decide +kernel)]
      exact congrArg (onlyR 1) (g_L_notice_23 S (ex S d) 8 _ _ _ _ _)
theorem h_give {x1 : Int32} (p : PK c S d k E A T 176 180 [.int x1] cdF) : HQ c S d k E A T 177 [.ref 0, .int x1, .ref 48] 180 [.int x1] Int32.toInt64 := by
  refine HQ_of p rfl (fun L k' E' A1 L1 T' y e1 => ?_) (fun L k' E' A1 L1 T' e q e1 => ?_)
  · rw [x_L_give, g_L_give_0]
    rw [hc_0, e1]
    unfold cIx
    dsimp only
    rw [show (0 : Int32) = nI 0 from rfl, sn_48 (by decide)]; rfl
  · rcases cdF_x q with rfl | rfl
    · rw [x_L_give, g_L_give_0]
      rw [hc_0, e1, cIx_t, thr_x (show clk [("java/lang/IndexOutOfBoundsException", 13, 3), ("java/lang/ClassCastException", 16, 3)] (xnm 0) = some (13, 3) from by decide +kernel)]
      exact congrArg (onlyR 1) (g_L_give_13 S (ex S d) 8 _ _ _ _ _)
    · rw [x_L_give, g_L_give_0]
      rw [hc_0, e1, cIx_t, thr_x (show clk [("java/lang/IndexOutOfBoundsException", 13, 3), ("java/lang/ClassCastException", 16, 3)] (xnm 2) = some (16, 3) from by decide +kernel)]
      exact congrArg (onlyR 1) (g_L_give_16 S (ex S d) 8 _ _ _ _ _)
theorem h_seasons {x1 : Int32} (p : PK c S d k E A T 229 256 [.int x1] cdA) : HQ c S d k E A T 230 [.ref 0, .int x1, .ref 48] 256 [.int x1] Int32.toInt64 := by
  refine HQ_of p rfl (fun L k' E' A1 L1 T' y e1 => ?_) (fun L k' E' A1 L1 T' e q e1 => ?_)
  · rw [x_L_seasons, g_L_seasons_0]
    rw [hc_0, e1]
    unfold cIx
    dsimp only
    rw [show (0 : Int32) = nI 0 from rfl, sn_48 (by decide)]; rfl
  · rcases cdA_x q with rfl
    · rw [x_L_seasons, g_L_seasons_0]
      rw [hc_0, e1, cIx_t, thr_x (show clk [("java/lang/IllegalArgumentException", 13, 3)] (xnm 1) = some (13, 3) from by decide +kernel)]
      exact congrArg (onlyR 1) (g_L_seasons_13 S (ex S d) 8 _ _ _ _ _)
theorem h_look {x1 x2 : Int32} (p : PK c S d k E A T 260 263 [.int x1, .int x2] cdB) : HQ c S d k E A T 261 [.ref 0, .int x1, .int x2, .ref 48] 263 [.int x1, .int x2] Int32.toInt64 := by
  refine HQ_of p rfl (fun L k' E' A1 L1 T' y e1 => ?_) (fun L k' E' A1 L1 T' e q e1 => ?_)
  · rw [x_L_look, g_L_look_0]
    rw [hc_0, e1]
    unfold cIx
    dsimp only
    rw [show (0 : Int32) = nI 0 from rfl, sn_48 (by decide)]; rfl
  · rcases cdB_x q with rfl | rfl
    · rw [x_L_look, g_L_look_0]
      rw [hc_0, e1, cIx_t, thr_x (show clk [("java/lang/IndexOutOfBoundsException", 15, 4), ("java/util/NoSuchElementException", 19, 4)] (xnm 0) = some (15, 4) from by decide +kernel)]
      exact congrArg (onlyR 1) (g_L_look_15 S (ex S d) 8 _ _ _ _ _ _)
    · rw [x_L_look, g_L_look_0]
      rw [hc_0, e1, cIx_t, thr_x (show clk [("java/lang/IndexOutOfBoundsException", 15, 4), ("java/util/NoSuchElementException", 19, 4)] (xnm 3) = some (19, 4) from by decide +kernel)]
      exact congrArg (onlyR 1) (g_L_look_19 S (ex S d) 8 _ _ _ _ _ _)
theorem h_led {x1 x2 : Int32} (p : PK c S d k E A T 264 266 [.int x1, .int x2] cdB) : HQ c S d k E A T 265 [.ref 0, .int x1, .int x2, .ref 48] 266 [.int x1, .int x2] Int32.toInt64 := by
  refine HQ_of p rfl (fun L k' E' A1 L1 T' y e1 => ?_) (fun L k' E' A1 L1 T' e q e1 => ?_)
  · rw [x_L_led, g_L_led_0]
    rw [hc_0, e1]
    unfold cIx
    dsimp only
    rw [show (0 : Int32) = nI 0 from rfl, sn_48 (by decide)]; rfl
  · rcases cdB_x q with rfl | rfl
    · rw [x_L_led, g_L_led_0]
      rw [hc_0, e1, cIx_t, thr_x (show clk [("java/lang/IndexOutOfBoundsException", 15, 4), ("java/util/NoSuchElementException", 19, 4)] (xnm 0) = some (15, 4) from by decide +kernel)]
      exact congrArg (onlyR 1) (g_L_led_15 S (ex S d) 8 _ _ _ _ _ _)
    · rw [x_L_led, g_L_led_0]
      rw [hc_0, e1, cIx_t, thr_x (show clk [("java/lang/IndexOutOfBoundsException", 15, 4), ("java/util/NoSuchElementException", 19, 4)] (xnm 3) = some (19, 4) from by decide +kernel)]
      exact congrArg (onlyR 1) (g_L_led_19 S (ex S d) 8 _ _ _ _ _ _)
theorem h_owed {x1 : Int32} (p : PK c S d k E A T 267 269 [.int x1] cdF) : HQ c S d k E A T 268 [.ref 0, .int x1, .ref 48] 269 [.int x1] Int32.toInt64 := by
  refine HQ_of p rfl (fun L k' E' A1 L1 T' y e1 => ?_) (fun L k' E' A1 L1 T' e q e1 => ?_)
  · rw [x_L_owed, g_L_owed_0]
    rw [hc_0, e1]
    unfold cIx
    dsimp only
    rw [show (0 : Int32) = nI 0 from rfl, sn_48 (by decide)]; rfl
  · rcases cdF_x q with rfl | rfl
    · rw [x_L_owed, g_L_owed_0]
      rw [hc_0, e1, cIx_t, thr_x (show clk [("java/lang/IndexOutOfBoundsException", 13, 3), ("java/lang/ClassCastException", 16, 3)] (xnm 0) = some (13, 3) from by decide +kernel)]
      exact congrArg (onlyR 1) (g_L_owed_13 S (ex S d) 8 _ _ _ _ _)
    · rw [x_L_owed, g_L_owed_0]
      rw [hc_0, e1, cIx_t, thr_x (show clk [("java/lang/IndexOutOfBoundsException", 13, 3), ("java/lang/ClassCastException", 16, 3)] (xnm 2) = some (16, 3) from by decide +kernel)]
      exact congrArg (onlyR 1) (g_L_owed_16 S (ex S d) 8 _ _ _ _ _)
theorem h_rent {x1 : Int32} (p : PK c S d k E A T 270 272 [.int x1] cdF) : HQ c S d k E A T 271 [.ref 0, .int x1, .ref 48] 272 [.int x1] Int32.toInt64 := by
  refine HQ_of p rfl (fun L k' E' A1 L1 T' y e1 => ?_) (fun L k' E' A1 L1 T' e q e1 => ?_)
  · rw [x_L_rent, g_L_rent_0]
    rw [hc_0, e1]
    unfold cIx
    dsimp only
    rw [show (0 : Int32) = nI 0 from rfl, sn_48 (by decide)]; rfl
  · rcases cdF_x q with rfl | rfl
    · rw [x_L_rent, g_L_rent_0]
      rw [hc_0, e1, cIx_t, thr_x (show clk [("java/lang/IndexOutOfBoundsException", 13, 3), ("java/lang/ClassCastException", 16, 3)] (xnm 0) = some (13, 3) from by decide +kernel)]
      exact congrArg (onlyR 1) (g_L_rent_13 S (ex S d) 8 _ _ _ _ _)
    · rw [x_L_rent, g_L_rent_0]
      rw [hc_0, e1, cIx_t, thr_x (show clk [("java/lang/IndexOutOfBoundsException", 13, 3), ("java/lang/ClassCastException", 16, 3)] (xnm 2) = some (16, 3) from by decide +kernel)]
      exact congrArg (onlyR 1) (g_L_rent_16 S (ex S d) 8 _ _ _ _ _)
theorem h_words {x1 : Int32} (p : PK c S d k E A T 279 281 [.int x1] cdG) : HQ c S d k E A T 280 [.ref 0, .int x1, .ref 48] 281 [.int x1] Int32.toInt64 := by
  refine HQ_of p rfl (fun L k' E' A1 L1 T' y e1 => ?_) (fun L k' E' A1 L1 T' e q e1 => ?_)
  · rw [x_L_words, g_L_words_0]
    rw [hc_0, e1]
    unfold cIx
    dsimp only
    rw [show (0 : Int32) = nI 0 from rfl, sn_48 (by decide)]; rfl
  · rcases cdG_x q with rfl | rfl
    · rw [x_L_words, g_L_words_0]
      rw [hc_0, e1, cIx_t, thr_x (show clk [("java/lang/IllegalArgumentException", 13, 3), ("java/lang/UnsupportedOperationException", 16, 3)] (xnm 1) = some (13, 3) from by decide +kernel)]
      exact congrArg (onlyR 1) (g_L_words_13 S (ex S d) 8 _ _ _ _ _)
    · rw [x_L_words, g_L_words_0]
      rw [hc_0, e1, cIx_t, thr_x (show clk [("java/lang/IllegalArgumentException", 13, 3), ("java/lang/UnsupportedOperationException", 16, 3)] (xnm 4) = some (16, 3) from by decide +kernel)]
      exact congrArg (onlyR 1) (g_L_words_16 S (ex S d) 8 _ _ _ _ _)
theorem h_may {x1 x2 : Int32} (p : PK c S d k E A T 289 293 [.int x1, .int x2] cdB) : HQ c S d k E A T 290 [.ref 0, .int x1, .int x2, .ref 48] 293 [.int x1, .int x2] Int32.toInt64 := by
  refine HQ_of p rfl (fun L k' E' A1 L1 T' y e1 => ?_) (fun L k' E' A1 L1 T' e q e1 => ?_)
  · rw [x_L_may, g_L_may_0]
    rw [hc_0, e1]
    unfold cIx
    dsimp only
    rw [show (0 : Int32) = nI 0 from rfl, sn_48 (by decide)]; rfl
  · rcases cdB_x q with rfl | rfl
    · rw [x_L_may, g_L_may_0]
      rw [hc_0, e1, cIx_t, thr_x (show clk [("java/lang/IndexOutOfBoundsException", 15, 4), ("java/util/NoSuchElementException", 19, 4)] (xnm 0) = some (15, 4) from by decide +kernel)]
      exact congrArg (onlyR 1) (g_L_may_15 S (ex S d) 8 _ _ _ _ _ _)
    · rw [x_L_may, g_L_may_0]
      rw [hc_0, e1, cIx_t, thr_x (show clk [("java/lang/IndexOutOfBoundsException", 15, 4), ("java/util/NoSuchElementException", 19, 4)] (xnm 3) = some (19, 4) from by decide +kernel)]
      exact congrArg (onlyR 1) (g_L_may_19 S (ex S d) 8 _ _ _ _ _ _)
theorem h_why {x1 x2 : Int32} (p : PK c S d k E A T 295 297 [.int x1, .int x2] cdB) : HQ c S d k E A T 296 [.ref 0, .int x1, .int x2, .ref 48] 297 [.int x1, .int x2] Int32.toInt64 := by
  refine HQ_of p rfl (fun L k' E' A1 L1 T' y e1 => ?_) (fun L k' E' A1 L1 T' e q e1 => ?_)
  · rw [x_L_why, g_L_why_0]
    rw [hc_0, e1]
    unfold cIx
    dsimp only
    rw [show (0 : Int32) = nI 0 from rfl, sn_48 (by decide)]; rfl
  · rcases cdB_x q with rfl | rfl
    · rw [x_L_why, g_L_why_0]
      rw [hc_0, e1, cIx_t, thr_x (show clk [("java/lang/IndexOutOfBoundsException", 15, 4), ("java/util/NoSuchElementException", 19, 4)] (xnm 0) = some (15, 4) from by decide +kernel)]
      exact congrArg (onlyR 1) (g_L_why_15 S (ex S d) 8 _ _ _ _ _ _)
    · rw [x_L_why, g_L_why_0]
      rw [hc_0, e1, cIx_t, thr_x (show clk [("java/lang/IndexOutOfBoundsException", 15, 4), ("java/util/NoSuchElementException", 19, 4)] (xnm 3) = some (19, 4) from by decide +kernel)]
      exact congrArg (onlyR 1) (g_L_why_19 S (ex S d) 8 _ _ _ _ _ _)
theorem h_cut {x1 x2 : Int32} (p : PK c S d k E A T 298 300 [.int x1, .int x2] cdF) : HQ c S d k E A T 299 [.ref 0, .int x1, .int x2, .ref 48] 300 [.int x1, .int x2] Int32.toInt64 := by
  refine HQ_of p rfl (fun L k' E' A1 L1 T' y e1 => ?_) (fun L k' E' A1 L1 T' e q e1 => ?_)
  · rw [x_L_cut, g_L_cut_0]
    rw [hc_0, e1]
    unfold cIx
    dsimp only
    rw [show (0 : Int32) = nI 0 from rfl, sn_48 (by decide)]; rfl
  · rcases cdF_x q with rfl | rfl
    · rw [x_L_cut, g_L_cut_0]
      rw [hc_0, e1, cIx_t, thr_x (show clk [("java/lang/IndexOutOfBoundsException", 15, 4), ("java/lang/ClassCastException", 19, 4)] (xnm 0) = some (15, 4) from by decide +kernel)]
      exact congrArg (onlyR 1) (g_L_cut_15 S (ex S d) 8 _ _ _ _ _ _)
    · rw [x_L_cut, g_L_cut_0]
      rw [hc_0, e1, cIx_t, thr_x (show clk [("java/lang/IndexOutOfBoundsException", 15, 4), ("java/lang/ClassCastException", 19, 4)] (xnm 2) = some (19, 4) from by decide +kernel)]
      exact congrArg (onlyR 1) (g_L_cut_19 S (ex S d) 8 _ _ _ _ _ _)
theorem h_loan {x1 x2 x3 x4 : Int32} (p : PK c S d k E A T 303 306 [.int x1, .int x2, .int x3, .int x4] cdG) : HQ c S d k E A T 304 [.ref 0, .int x1, .int x2, .int x3, .int x4, .ref 48] 306 [.int x1, .int x2, .int x3, .int x4] Int32.toInt64 := by
  refine HQ_of p rfl (fun L k' E' A1 L1 T' y e1 => ?_) (fun L k' E' A1 L1 T' e q e1 => ?_)
  · rw [x_L_loan, g_L_loan_0]
    rw [hc_0, e1]
    unfold cIx
    dsimp only
    rw [show (0 : Int32) = nI 0 from rfl, sn_48 (by decide)]; rfl
  · rcases cdG_x q with rfl | rfl
    · rw [x_L_loan, g_L_loan_0]
      rw [hc_0, e1, cIx_t, thr_x (show clk [("java/lang/IllegalArgumentException", 19, 6), ("java/lang/UnsupportedOperationException", 23, 6)] (xnm 1) = some (19, 6) from by decide +kernel)]
      exact congrArg (onlyR 1) (g_L_loan_19 S (ex S d) 8 _ _ _ _ _ _ _ _)
    · rw [x_L_loan, g_L_loan_0]
      rw [hc_0, e1, cIx_t, thr_x (show clk [("java/lang/IllegalArgumentException", 19, 6), ("java/lang/UnsupportedOperationException", 23, 6)] (xnm 4) = some (23, 6) from by decide +kernel)]
      exact congrArg (onlyR 1) (g_L_loan_23 S (ex S d) 8 _ _ _ _ _ _ _ _)
theorem h_owing {x1 : Int32} (p : PK c S d k E A T 307 309 [.int x1] cdH) : HQ c S d k E A T 308 [.ref 0, .int x1, .ref 48] 309 [.int x1] Int32.toInt64 := by
  refine HQ_of p rfl (fun L k' E' A1 L1 T' y e1 => ?_) (fun L k' E' A1 L1 T' e q e1 => ?_)
  · rw [x_L_owing, g_L_owing_0]
    rw [hc_0, e1]
    unfold cIx
    dsimp only
    rw [show (0 : Int32) = nI 0 from rfl, sn_48 (by decide)]; rfl
  · rcases cdH_x q with rfl
    · rw [x_L_owing, g_L_owing_0]
      rw [hc_0, e1, cIx_t, thr_x (show clk [("java/lang/IndexOutOfBoundsException", 13, 3)] (xnm 0) = some (13, 3) from by decide +kernel)]
      exact congrArg (onlyR 1) (g_L_owing_13 S (ex S d) 8 _ _ _ _ _)
theorem h_work {x1 x2 : Int32} (p : PK c S d k E A T 311 313 [.int x1, .int x2] cdH) : HQ c S d k E A T 312 [.ref 0, .int x1, .int x2, .ref 48] 313 [.int x1, .int x2] bj := by
  refine HQ_of p rfl (fun L k' E' A1 L1 T' y e1 => ?_) (fun L k' E' A1 L1 T' e q e1 => ?_)
  · rw [x_L_work, g_L_work_0]
    rw [hc_0, e1]
    unfold cIx bj
    dsimp only
    by_cases q : y = 0
    · rw [if_pos q, if_pos q, show (0 : Int32) = nI 0 from rfl, sn_48 (by decide)]; rfl
    · rw [if_neg q, if_neg q, show (0 : Int32) = nI 0 from rfl, sn_48 (by decide)]; rfl
  · rcases cdH_x q with rfl
    · rw [x_L_work, g_L_work_0]
      rw [hc_0, e1, cIx_t, thr_x (show clk [("java/lang/IndexOutOfBoundsException", 22, 4)] (xnm 0) = some (22, 4) from by decide +kernel)]
      exact congrArg (onlyR 1) (g_L_work_22 S (ex S d) 8 _ _ _ _ _ _)
theorem h_sell {x1 x2 : Int32} (p : PK c S d k E A T 314 316 [.int x1, .int x2] cdH) : HQ c S d k E A T 315 [.ref 0, .int x1, .int x2, .ref 48] 316 [.int x1, .int x2] Int32.toInt64 := by
  refine HQ_of p rfl (fun L k' E' A1 L1 T' y e1 => ?_) (fun L k' E' A1 L1 T' e q e1 => ?_)
  · rw [x_L_sell, g_L_sell_0]
    rw [hc_0, e1]
    unfold cIx
    dsimp only
    rw [show (0 : Int32) = nI 0 from rfl, sn_48 (by decide)]; rfl
  · rcases cdH_x q with rfl
    · rw [x_L_sell, g_L_sell_0]
      rw [hc_0, e1, cIx_t, thr_x (show clk [("java/lang/IndexOutOfBoundsException", 15, 4)] (xnm 0) = some (15, 4) from by decide +kernel)]
      exact congrArg (onlyR 1) (g_L_sell_15 S (ex S d) 8 _ _ _ _ _ _)
theorem h_wrong {x1 x2 : Int32} (p : PK c S d k E A T 321 323 [.int x1, .int x2] cdC) : HQ c S d k E A T 322 [.ref 0, .int x1, .int x2, .ref 48] 323 [.int x1, .int x2] Int32.toInt64 := by
  refine HQ_of p rfl (fun L k' E' A1 L1 T' y e1 => ?_) (fun L k' E' A1 L1 T' e q e1 => ?_)
  · rw [x_L_wrong, g_L_wrong_0]
    rw [hc_0, e1]
    unfold cIx
    dsimp only
    rw [show (0 : Int32) = nI 0 from rfl, sn_48 (by decide)]; rfl
  · rcases cdC_x q with rfl
    · rw [x_L_wrong, g_L_wrong_0]
      rw [hc_0, e1, cIx_t, thr_x (show clk [("java/util/NoSuchElementException", 15, 4)] (xnm 3) = some (15, 4) from by decide +kernel)]
      exact congrArg (onlyR 1) (g_L_wrong_15 S (ex S d) 8 _ _ _ _ _ _)
theorem h_job {x1 x2 x3 : Int32} (p : PK c S d k E A T 325 327 [.int x1, .int x2, .int x3] cdA) : HQ c S d k E A T 326 [.ref 0, .int x1, .int x2, .int x3, .ref 48] 327 [.int x1, .int x2, .int x3] Int32.toInt64 := by
  refine HQ_of p rfl (fun L k' E' A1 L1 T' y e1 => ?_) (fun L k' E' A1 L1 T' e q e1 => ?_)
  · rw [x_L_job, g_L_job_0]
    rw [hc_0, e1]
    unfold cIx
    dsimp only
    rw [show (0 : Int32) = nI 0 from rfl, sn_48 (by decide)]; rfl
  · rcases cdA_x q with rfl
    · rw [x_L_job, g_L_job_0]
      rw [hc_0, e1, cIx_t, thr_x (show clk [("java/lang/IllegalArgumentException", 17, 5)] (xnm 1) = some (17, 5) from by decide +kernel)]
      exact congrArg (onlyR 1) (g_L_job_17 S (ex S d) 8 _ _ _ _ _ _ _)
theorem h_trouble {x1 x2 : Int32} (p : PK c S d k E A T 329 331 [.int x1, .int x2] cdA) : HQ c S d k E A T 330 [.ref 0, .int x1, .int x2, .ref 48] 331 [.int x1, .int x2] Int32.toInt64 := by
  refine HQ_of p rfl (fun L k' E' A1 L1 T' y e1 => ?_) (fun L k' E' A1 L1 T' e q e1 => ?_)
  · rw [x_L_trouble, g_L_trouble_0]
    rw [hc_0, e1]
    unfold cIx
    dsimp only
    rw [show (0 : Int32) = nI 0 from rfl, sn_48 (by decide)]; rfl
  · rcases cdA_x q with rfl
    · rw [x_L_trouble, g_L_trouble_0]
      rw [hc_0, e1, cIx_t, thr_x (show clk [("java/lang/IllegalArgumentException", 15, 4)] (xnm 1) = some (15, 4) from by decide +kernel)]
      exact congrArg (onlyR 1) (g_L_trouble_15 S (ex S d) 8 _ _ _ _ _ _)
theorem h_worth {x1 x2 x3 : Int32} (p : PK c S d k E A T 335 340 [.int x1, .int x2, .int x3] cdA) : HQ c S d k E A T 336 [.ref 0, .int x1, .int x2, .int x3, .ref 48] 340 [.int x1, .int x2, .int x3] Int32.toInt64 := by
  refine HQ_of p rfl (fun L k' E' A1 L1 T' y e1 => ?_) (fun L k' E' A1 L1 T' e q e1 => ?_)
  · rw [x_L_worth, g_L_worth_0]
    rw [hc_0, e1]
    unfold cIx
    dsimp only
    rw [show (0 : Int32) = nI 0 from rfl, sn_48 (by decide)]; rfl
  · rcases cdA_x q with rfl
    · rw [x_L_worth, g_L_worth_0]
      rw [hc_0, e1, cIx_t, thr_x (show clk [("java/lang/IllegalArgumentException", 17, 5)] (xnm 1) = some (17, 5) from by decide +kernel)]
      exact congrArg (onlyR 1) (g_L_worth_17 S (ex S d) 8 _ _ _ _ _ _ _)
theorem h_best {x1 x2 : Int32} (p : PK c S d k E A T 343 345 [.int x1, .int x2] cdA) : HQ c S d k E A T 344 [.ref 0, .int x1, .int x2, .ref 48] 345 [.int x1, .int x2] Int32.toInt64 := by
  refine HQ_of p rfl (fun L k' E' A1 L1 T' y e1 => ?_) (fun L k' E' A1 L1 T' e q e1 => ?_)
  · rw [x_L_best, g_L_best_0]
    rw [hc_0, e1]
    unfold cIx
    dsimp only
    rw [show (0 : Int32) = nI 0 from rfl, sn_48 (by decide)]; rfl
  · rcases cdA_x q with rfl
    · rw [x_L_best, g_L_best_0]
      rw [hc_0, e1, cIx_t, thr_x (show clk [("java/lang/IllegalArgumentException", 15, 4)] (xnm 1) = some (15, 4) from by decide +kernel)]
      exact congrArg (onlyR 1) (g_L_best_15 S (ex S d) 8 _ _ _ _ _ _)
theorem h_toSell {x1 x2 x3 : Int32} (p : PK c S d k E A T 350 354 [.int x1, .int x2, .int x3] cdD) : HQ c S d k E A T 351 [.ref 0, .int x1, .int x2, .int x3, .ref 48] 354 [.int x1, .int x2, .int x3] Int32.toInt64 := by
  refine HQ_of p rfl (fun L k' E' A1 L1 T' y e1 => ?_) (fun L k' E' A1 L1 T' e q e1 => ?_)
  · rw [x_L_toSell, g_L_toSell_0]
    rw [hc_0, e1]
    unfold cIx
    dsimp only
    rw [show (0 : Int32) = nI 0 from rfl, sn_48 (by decide)]; rfl
  · rcases cdD_x q with rfl | rfl
    · rw [x_L_toSell, g_L_toSell_0]
      rw [hc_0, e1, cIx_t, thr_x (show clk [("java/lang/IndexOutOfBoundsException", 17, 5), ("java/lang/IllegalArgumentException", 21, 5)] (xnm 0) = some (17, 5) from by decide +kernel)]
      exact congrArg (onlyR 1) (g_L_toSell_17 S (ex S d) 8 _ _ _ _ _ _ _)
    · rw [x_L_toSell, g_L_toSell_0]
      rw [hc_0, e1, cIx_t, thr_x (show clk [("java/lang/IndexOutOfBoundsException", 17, 5), ("java/lang/IllegalArgumentException", 21, 5)] (xnm 1) = some (21, 5) from by decide +kernel)]
      exact congrArg (onlyR 1) (g_L_toSell_21 S (ex S d) 8 _ _ _ _ _ _ _)
theorem h_row {x1 x2 : Int32} (p : PK c S d k E A T 355 358 [.int x1, .int x2] cdB) : HQ c S d k E A T 356 [.ref 0, .int x1, .int x2, .ref 48] 358 [.int x1, .int x2] Int32.toInt64 := by
  refine HQ_of p rfl (fun L k' E' A1 L1 T' y e1 => ?_) (fun L k' E' A1 L1 T' e q e1 => ?_)
  · rw [x_L_row, g_L_row_0]
    rw [hc_0, e1]
    unfold cIx
    dsimp only
    rw [show (0 : Int32) = nI 0 from rfl, sn_48 (by decide)]; rfl
  · rcases cdB_x q with rfl | rfl
    · rw [x_L_row, g_L_row_0]
      rw [hc_0, e1, cIx_t, thr_x (show clk [("java/lang/IndexOutOfBoundsException", 15, 4), ("java/util/NoSuchElementException", 19, 4)] (xnm 0) = some (15, 4) from by decide +kernel)]
      exact congrArg (onlyR 1) (g_L_row_15 S (ex S d) 8 _ _ _ _ _ _)
    · rw [x_L_row, g_L_row_0]
      rw [hc_0, e1, cIx_t, thr_x (show clk [("java/lang/IndexOutOfBoundsException", 15, 4), ("java/util/NoSuchElementException", 19, 4)] (xnm 3) = some (19, 4) from by decide +kernel)]
      exact congrArg (onlyR 1) (g_L_row_19 S (ex S d) 8 _ _ _ _ _ _)
theorem h_tear {x1 x2 x3 : Int32} (p : PK c S d k E A T 359 361 [.int x1, .int x2, .int x3] cdB) : HQ c S d k E A T 360 [.ref 0, .int x1, .int x2, .int x3, .ref 48] 361 [.int x1, .int x2, .int x3] Int32.toInt64 := by
  refine HQ_of p rfl (fun L k' E' A1 L1 T' y e1 => ?_) (fun L k' E' A1 L1 T' e q e1 => ?_)
  · rw [x_L_tear, g_L_tear_0]
    rw [hc_0, e1]
    unfold cIx
    dsimp only
    rw [show (0 : Int32) = nI 0 from rfl, sn_48 (by decide)]; rfl
  · rcases cdB_x q with rfl | rfl
    · rw [x_L_tear, g_L_tear_0]
      rw [hc_0, e1, cIx_t, thr_x (show clk [("java/lang/IndexOutOfBoundsException", 17, 5), ("java/util/NoSuchElementException", 21, 5)] (xnm 0) = some (17, 5) from by decide +kernel)]
      exact congrArg (onlyR 1) (g_L_tear_17 S (ex S d) 8 _ _ _ _ _ _ _)
    · rw [x_L_tear, g_L_tear_0]
      rw [hc_0, e1, cIx_t, thr_x (show clk [("java/lang/IndexOutOfBoundsException", 17, 5), ("java/util/NoSuchElementException", 21, 5)] (xnm 3) = some (21, 5) from by decide +kernel)]
      exact congrArg (onlyR 1) (g_L_tear_21 S (ex S d) 8 _ _ _ _ _ _ _)
end Help
