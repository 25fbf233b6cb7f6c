/-! works (laid by gen_work.py) -/
section WorkB
variable {S : sT} {d c : Nat} {k : Value} {E : List dsc} {A : fA} {L : fL} {T : fT} {W : fW}
/-- what a work costs of the capital -/
def wkP (W : fW) (th x : Int32) : Int32 := (x * partW W th) / 100
def wkOk (W : fW) (th x : Int32) : Prop := (wkP W th x ≤ 0 ∨ ¬ W 2 < wkP W th x) ∧ (x - wkP W th x ≤ 0 ∨ x - wkP W th x ≤ W 1)
def wkW (W : fW) (th x : Int32) : fW := upd (upd W 2 (kp ((W 2).toInt64 + (-wkP W th x).toInt64))) 1 (kp ((W 1).toInt64 + (-(x - wkP W th x)).toInt64))
theorem c_payW {th x : Int32} (hI : Iv c W) (h0 : LkA 4 k E A T W) : (¬ wkOk W th x ∧ ex S (d + 5) 310 [.ref 4, .int (th + 12), .int x] (Hh k E A L T) = some (.inl (some (.int 0)), Hh k E A L T)) ∨ (wkOk W th x ∧ ∃ A', ex S (d + 5) 310 [.ref 4, .int (th + 12), .int x] (Hh k E A L T) = some (.inl (some (.int 1)), Hh k E A' L T) ∧ LkA 4 k E A' T (wkW W th x) ∧ Fr A A') := by
  obtain ⟨⟨m0, m1, -⟩, -, -⟩ : LkG (A 22) (A 23) (A 24) (A 25) (A 26) W := h0.2.2.2.1
  have j2 : Iv c (upd W 2 (kp ((W 2).toInt64 + (-wkP W th x).toInt64))) := jG_2 hI (kp_rg _)
  have k2 := kG_1 (x := kp ((W 2).toInt64 + (-wkP W th x).toInt64)) hI h0
  have k1 := kG_0 (x := kp ((W 1).toInt64 + (-(x - wkP W th x)).toInt64)) j2 k2
  have e0 : up A 22 1 (kp ((W 2).toInt64 + (-wkP W th x).toInt64)) 22 0 = W 1 := by rw [up_rr (by decide)]; exact m0
  have pay : ∀ g, bd S (ex S (d + 4)) dflT E_X0_payWork (g + 1) 31 [some (.ref 4), some (.int (th + 12)), some (.int x), some (.int (wkP W th x)), some (.int (x - wkP W th x))] [] (Hh k E A L T) = if x - wkP W th x ≤ 0 ∨ x - wkP W th x ≤ W 1 then some (.inl (some (.int 1)), Hh k E (up (up A 22 1 (kp ((W 2).toInt64 + (-wkP W th x).toInt64))) 22 0 (kp ((W 1).toInt64 + (-(x - wkP W th x)).toInt64))) L T) else some (.inl (some (.int 0)), Hh k E A L T) := by
    intro g
    rw [g_X0_payWork_31]
    simp -implicitDefEqProofs only [hv_4_4, hc_22, c_addC (W := W) m1, c_addI (W := W) e0, q_U, q_z0, q_z1, hg_22_0, m0]
    by_cases q1 : x - wkP W th x ≤ 0
    · rw [if_pos q1, if_pos (Or.inl q1)]
    · rw [if_neg q1]
      by_cases q2 : x - wkP W th x ≤ W 1
      · rw [if_pos q2, if_pos (Or.inr q2)]
      · rw [if_neg q2, if_neg (fun r => r.elim q1 q2)]
  rw [x_X0_payWork, g_X0_payWork_0]
  simp -implicitDefEqProofs only [hc_4, c_part hI h0, q_I, dv_100]
  rw [show (x * partW W th) / 100 = wkP W th x from rfl]
  simp -implicitDefEqProofs only [hv_4_4, hg_22_1, m1, q_z0, pay]
  unfold wkOk
  by_cases q1 : wkP W th x ≤ 0
  · rw [if_pos q1]
    by_cases q2 : x - wkP W th x ≤ 0 ∨ x - wkP W th x ≤ W 1
    · right
      rw [if_pos q2]
      exact ⟨⟨Or.inl q1, q2⟩, _, rfl, k1, Fr_tr (Fr_up (by decide) (by decide)) (Fr_up (by decide) (by decide))⟩
    · left
      rw [if_neg q2]
      exact ⟨fun r => q2 r.2, rfl⟩
  · rw [if_neg q1]
    by_cases q3 : W 2 < wkP W th x
    · left
      rw [if_pos q3]
      exact ⟨fun r => r.1.elim q1 (fun h => h q3), rfl⟩
    · rw [if_neg q3]
      by_cases q2 : x - wkP W th x ≤ 0 ∨ x - wkP W th x ≤ W 1
      · right
        rw [if_pos q2]
        exact ⟨⟨Or.inr q3, q2⟩, _, rfl, k1, Fr_tr (Fr_up (by decide) (by decide)) (Fr_up (by decide) (by decide))⟩
      · left
        rw [if_neg q2]
        exact ⟨fun r => q2 r.2, rfl⟩
def wkOk' (W : fW) (th x : Int32) : Bool := (decide (wkP W th x ≤ 0) || decide (¬ W 2 < wkP W th x)) && (decide (x - wkP W th x ≤ 0) || decide (x - wkP W th x ≤ W 1))
theorem wkOk_b (W : fW) (th x : Int32) : wkOk' W th x = true ↔ wkOk W th x := by unfold wkOk' wkOk; simp
theorem r_work_l {f : Nat} {b : Int32} (hf : f < 48) (hb : ¬ b = 0) (hI : Iv c (A 40)) (hs : A 40 (8 + 14 * f + 11) = 0) (h39 : A 39 0 = 0) : ∃ B, Fg A B ∧ ((¬ wkOk (A 40) 0 8 ∧ bd S (ex S (d + 8)) dflT E_X12_work 99999 53 [some (.ref 39), some (.int (nI f)), some (.int b), some (.int 8), none, none] [.int 0, .ref 39, .int 8] (Hh k E A L T) = some (.inl (some (.int 0)), Hh k E B L T) ∧ B 40 = A 40) ∨ (wkOk (A 40) 0 8 ∧ bd S (ex S (d + 8)) dflT E_X12_work 99999 53 [some (.ref 39), some (.int (nI f)), some (.int b), some (.int 8), none, none] [.int 0, .ref 39, .int 8] (Hh k E A L T) = some (.inl (some (.int 1)), Hh k E B L T) ∧ B 40 = upd (wkW (A 40) 0 8) (8 + 14 * f + 5) 6)) := by
  obtain ⟨B, e1, e2⟩ := r_part (S := S) (d := d + 2) (k := k) (E := E) (L := L) (T := T) (th := 0) hI
  have e40 : B 40 = A 40 := e2.1 40 (by decide) (by decide)
  have pay : ∀ g, bd S (ex S (d + 8)) dflT E_X12_work (g + 1) 102 [some (.ref 39), some (.int (nI f)), some (.int b), some (.int 8), some (.int (wkP (A 40) 0 8)), some (.int (8 - wkP (A 40) 0 8))] [] (Hh k E B L T) = some (.inl (some (.int 1)), Hh k E (up (up (up B 40 2 (kp ((A 40 2).toInt64 + (-wkP (A 40) 0 8).toInt64))) 40 1 (kp ((A 40 1).toInt64 + (-(8 - wkP (A 40) 0 8)).toInt64))) 40 (8 + 14 * f + 5) 6) L T) := by
    intro g
    rw [g_X12_work_102]
    simp -implicitDefEqProofs only [hc_39, r_cap, r_inc, q_U, e40, up_rr (show (1 : Nat) ≠ 2 by decide), hv_39_1, if_neg hb, ra_5, q_I, sn_40 (show 8 + 14 * f + 5 < 35877 by omega), q_z1]
  have h53 : bd S (ex S (d + 8)) dflT E_X12_work 99999 53 [some (.ref 39), some (.int (nI f)), some (.int b), some (.int 8), none, none] [.int 0, .ref 39, .int 8] (Hh k E A L T) = if wkOk' (A 40) 0 8 then some (.inl (some (.int 1)), Hh k E (up (up (up B 40 2 (kp ((A 40 2).toInt64 + (-wkP (A 40) 0 8).toInt64))) 40 1 (kp ((A 40 1).toInt64 + (-(8 - wkP (A 40) 0 8)).toInt64))) 40 (8 + 14 * f + 5) 6) L T) else some (.inl (some (.int 0)), Hh k E B L T) := by
    rw [g_X12_work_53]
    simp -implicitDefEqProofs only [hc_39, e1, q_I, dv_100]
    rw [show ((8 : Int32) * partW (A 40) 0) / 100 = wkP (A 40) 0 8 from rfl]
    simp -implicitDefEqProofs only [hv_39_1, aw_40_1, aw_40_2, e40, pay, q_z0]
    unfold wkOk'
    by_cases q1 : wkP (A 40) 0 8 ≤ 0
    · by_cases q2 : 8 - wkP (A 40) 0 8 ≤ 0
      · simp [q1, q2]
      · by_cases q3 : 8 - wkP (A 40) 0 8 ≤ A 40 1
        · simp [q1, q2, q3]
        · simp [q1, q2, q3]
    · by_cases q4 : A 40 2 < wkP (A 40) 0 8
      · simp [q1, q4]
      · by_cases q2 : 8 - wkP (A 40) 0 8 ≤ 0
        · simp [q1, q2, q4]
        · by_cases q3 : 8 - wkP (A 40) 0 8 ≤ A 40 1
          · simp [q1, q2, q3, q4]
          · simp [q1, q2, q3, q4]
  by_cases q : wkOk (A 40) 0 8
  · refine ⟨up (up (up B 40 2 (kp ((A 40 2).toInt64 + (-wkP (A 40) 0 8).toInt64))) 40 1 (kp ((A 40 1).toInt64 + (-(8 - wkP (A 40) 0 8)).toInt64))) 40 (8 + 14 * f + 5) 6, Fg_tr (Fo_g e2) (Fg_tr Fg_up (Fg_tr Fg_up Fg_up)), Or.inr ⟨q, ?_, ?_⟩⟩
    · rw [h53, if_pos ((wkOk_b _ _ _).mpr q)]
    · rw [up40, up40, up40, e40]; rfl
  · refine ⟨B, Fo_g e2, Or.inl ⟨q, ?_, e40⟩⟩
    rw [h53, if_neg (fun r => q ((wkOk_b _ _ _).mp r))]
theorem r_work_d {f : Nat} {b : Int32} (hf : f < 48) (hb : b = 0) (hI : Iv c (A 40)) (hs : A 40 (8 + 14 * f + 11) = 0) (h39 : A 39 0 = 0) : ∃ B, Fg A B ∧ ((¬ wkOk (A 40) 1 30 ∧ bd S (ex S (d + 8)) dflT E_X12_work 99999 53 [some (.ref 39), some (.int (nI f)), some (.int b), some (.int 30), none, none] [.int 1, .ref 39, .int 30] (Hh k E A L T) = some (.inl (some (.int 0)), Hh k E B L T) ∧ B 40 = A 40) ∨ (wkOk (A 40) 1 30 ∧ bd S (ex S (d + 8)) dflT E_X12_work 99999 53 [some (.ref 39), some (.int (nI f)), some (.int b), some (.int 30), none, none] [.int 1, .ref 39, .int 30] (Hh k E A L T) = some (.inl (some (.int 1)), Hh k E B L T) ∧ B 40 = upd (wkW (A 40) 1 30) (8 + 14 * f + 4) 20)) := by
  obtain ⟨B, e1, e2⟩ := r_part (S := S) (d := d + 2) (k := k) (E := E) (L := L) (T := T) (th := 1) hI
  have e40 : B 40 = A 40 := e2.1 40 (by decide) (by decide)
  have pay : ∀ g, bd S (ex S (d + 8)) dflT E_X12_work (g + 1) 102 [some (.ref 39), some (.int (nI f)), some (.int b), some (.int 30), some (.int (wkP (A 40) 1 30)), some (.int (30 - wkP (A 40) 1 30))] [] (Hh k E B L T) = some (.inl (some (.int 1)), Hh k E (up (up (up B 40 2 (kp ((A 40 2).toInt64 + (-wkP (A 40) 1 30).toInt64))) 40 1 (kp ((A 40 1).toInt64 + (-(30 - wkP (A 40) 1 30)).toInt64))) 40 (8 + 14 * f + 4) 20) L T) := by
    intro g
    rw [g_X12_work_102]
    simp -implicitDefEqProofs only [hc_39, r_cap, r_inc, q_U, e40, up_rr (show (1 : Nat) ≠ 2 by decide), hv_39_1, if_pos hb, ra_4, q_I, sn_40 (show 8 + 14 * f + 4 < 35877 by omega), q_z1]
  have h53 : bd S (ex S (d + 8)) dflT E_X12_work 99999 53 [some (.ref 39), some (.int (nI f)), some (.int b), some (.int 30), none, none] [.int 1, .ref 39, .int 30] (Hh k E A L T) = if wkOk' (A 40) 1 30 then some (.inl (some (.int 1)), Hh k E (up (up (up B 40 2 (kp ((A 40 2).toInt64 + (-wkP (A 40) 1 30).toInt64))) 40 1 (kp ((A 40 1).toInt64 + (-(30 - wkP (A 40) 1 30)).toInt64))) 40 (8 + 14 * f + 4) 20) L T) else some (.inl (some (.int 0)), Hh k E B L T) := by
    rw [g_X12_work_53]
    simp -implicitDefEqProofs only [hc_39, e1, q_I, dv_100]
    rw [show ((30 : Int32) * partW (A 40) 1) / 100 = wkP (A 40) 1 30 from rfl]
    simp -implicitDefEqProofs only [hv_39_1, aw_40_1, aw_40_2, e40, pay, q_z0]
    unfold wkOk'
    by_cases q1 : wkP (A 40) 1 30 ≤ 0
    · by_cases q2 : 30 - wkP (A 40) 1 30 ≤ 0
      · simp [q1, q2]
      · by_cases q3 : 30 - wkP (A 40) 1 30 ≤ A 40 1
        · simp [q1, q2, q3]
        · simp [q1, q2, q3]
    · by_cases q4 : A 40 2 < wkP (A 40) 1 30
      · simp [q1, q4]
      · by_cases q2 : 30 - wkP (A 40) 1 30 ≤ 0
        · simp [q1, q2, q4]
        · by_cases q3 : 30 - wkP (A 40) 1 30 ≤ A 40 1
          · simp [q1, q2, q3, q4]
          · simp [q1, q2, q3, q4]
  by_cases q : wkOk (A 40) 1 30
  · refine ⟨up (up (up B 40 2 (kp ((A 40 2).toInt64 + (-wkP (A 40) 1 30).toInt64))) 40 1 (kp ((A 40 1).toInt64 + (-(30 - wkP (A 40) 1 30)).toInt64))) 40 (8 + 14 * f + 4) 20, Fg_tr (Fo_g e2) (Fg_tr Fg_up (Fg_tr Fg_up Fg_up)), Or.inr ⟨q, ?_, ?_⟩⟩
    · rw [h53, if_pos ((wkOk_b _ _ _).mpr q)]
    · rw [up40, up40, up40, e40]; rfl
  · refine ⟨B, Fo_g e2, Or.inl ⟨q, ?_, e40⟩⟩
    rw [h53, if_neg (fun r => q ((wkOk_b _ _ _).mp r))]
theorem p_work (hR : Rel c k E A T) (x b : Int32) : PK c S (d + 9) k E A T 311 313 [.int x, .int b] cdH := by
  rcases fld_c x with hx | ⟨f, hf, rfl⟩
  · refine PI_K ⟨k, E, A, T, up A 39 0 1, Rel_thr hR 1, Or.inr ⟨0, by decide, fun L => ⟨L, ?_⟩, fun L => ⟨L, some (.int 0), rfl, ?_, rfl⟩, up_ii⟩⟩
    · simp -implicitDefEqProofs only [x_X11_work, g_X11_work_0, c_f0 hx, q_Ue]
    · simp -implicitDefEqProofs only [x_X12_work, g_X12_work_0, hp_39_0, r_f0 hx, q_I, hc_39, r_thr1, i1_0, if_false, q_z0, up_up]
  · have hI := Rel_w hR
    have hF := hI.2.1 f hf
    obtain ⟨-, -, -, -, -, -, -, -, -, -, hs, -⟩ := id hF
    by_cases hs1 : A 40 (8 + 14 * f + 11) = 1
    · refine PI_K ⟨k, E, A, T, up A 39 0 0, Rel_thr hR 0, Or.inl ⟨some (.int 0), rfl, fun L => ⟨L, ?_⟩, fun L => ⟨L, ?_, rfl⟩, up_ii⟩⟩
      · by_cases hb : b = 0
        · simp -implicitDefEqProofs only [x_X11_work, g_X11_work_0, g_X11_work_15, c_f1 hf, q_U, if_pos hb, hv_0_1, hv_4_1, hc_9, c_sold (Rel_l hR) hF hf, hs1, q_I, i1_0, if_false, q_z0]
        · simp -implicitDefEqProofs only [x_X11_work, g_X11_work_0, g_X11_work_15, c_f1 hf, q_U, if_neg hb, hv_0_1, hv_4_1, hc_9, c_sold (Rel_l hR) hF hf, hs1, q_I, i1_0, if_false, q_z0]
      · simp -implicitDefEqProofs only [x_X12_work, g_X12_work_0, hp_39_0, r_f1 hf, q_I, hc_39, r_thr0, i0_0, if_true, ro_11 hf, u40_39, hs1, q_z0]
    · have hs0 : A 40 (8 + 14 * f + 11) = 0 := hs.resolve_right (fun q => hs1 q.1)
      by_cases hb : b = 0
      · intro L
        have cp := c_payW (S := S) (d := d + 3) (L := L) (th := 1) (x := 30) hI hR.2.1
        rw [show (1 : Int32) + 12 = 13 from rfl] at cp
        rcases cp with ⟨nk, run⟩ | ⟨ok, A1, run, hL1, hF1⟩
        · refine ⟨k, E, A, L, T, Or.inl ⟨some (.int 0), rfl, ?_, fun M => ?_⟩⟩
          · simp -implicitDefEqProofs only [x_X11_work, g_X11_work_0, g_X11_work_15, g_X11_work_46, c_f1 hf, q_U, if_pos hb, hv_0_1, hv_4_1, hc_9, c_sold (Rel_l hR) hF hf, hs0, q_I, i0_0, if_true, hc_4, run, q_z0]
          · obtain ⟨B, e1, ⟨-, e2, e3⟩ | ⟨ok, -⟩⟩ := r_work_d (S := S) (d := d) (k := k) (E := E) (L := M) (T := T) (A := up A 39 0 0) hf hb hI hs0 up_ii
            · refine ⟨B, M, ?_, rfl, e1.2.1, Rel_by hR Fr_refl e1 (by rw [e3]; exact hR.2.1) (by rw [e3]; exact Iv_c (Nat.le_succ c) hI)⟩
              rw [x_X12_work, g_X12_work_0]
              simp -implicitDefEqProofs only [hp_39_0, r_f1 hf, q_I, hc_39, r_thr0, i0_0, if_true, ro_11 hf, u40_39, hs0]
              rw [if_neg (by decide)]
              simp -implicitDefEqProofs only [if_pos hb]
              exact e2
            · exact absurd ok nk
        · have hn' : hn (wkW (A 40) 1 30) = hn (A 40) := hn_c (by unfold wkW; rw [upd_o (by decide), upd_o (by decide)])
          have hW : Iv c (wkW (A 40) 1 30) := jG_1 (jG_2 hI (kp_rg _)) (kp_rg _)
          have l10 : LkL (A1 10) (wkW (A 40) 1 30) := hL1.2.1
          have e40 : A1 40 = A 40 := hF1.1 40 (by decide)
          refine ⟨k, E, up A1 10 (192 + f) 20, L, T, Or.inl ⟨some (.int 1), rfl, ?_, fun M => ?_⟩⟩
          · simp -implicitDefEqProofs only [x_X11_work, g_X11_work_0, g_X11_work_15, g_X11_work_46, c_f1 hf, q_U, if_pos hb, hv_0_1, hv_4_1, hc_9, c_sold (Rel_l hR) hF hf, hs0, q_I, i0_0, i1_0, if_true, if_false, hc_4, run, ls_4 hf, q_z1]
          · have w40 : up (up A1 10 (192 + f) 20) 39 0 0 40 = A 40 := by rw [u40_39, u40_10, e40]
            obtain ⟨B, e1, ⟨nk, -⟩ | ⟨-, e2, e3⟩⟩ := r_work_d (S := S) (d := d) (k := k) (E := E) (L := M) (T := T) (A := up (up A1 10 (192 + f) 20) 39 0 0) hf hb (by rw [w40]; exact hI) (by rw [w40]; exact hs0) up_ii
            · rw [w40] at nk; exact absurd ok nk
            · rw [w40] at e3
              refine ⟨B, M, ?_, rfl, e1.2.1, Rel_by hR (Fr_tr hF1 (Fr_up (by decide) (by decide))) e1 (by rw [e3]; exact kL_4 hW hf hL1) (by rw [e3]; exact Iv_c (Nat.le_succ c) (jL_4 hW hf (by unfold rg; decide)))⟩
              rw [x_X12_work, g_X12_work_0]
              simp -implicitDefEqProofs only [hp_39_0, r_f1 hf, q_I, hc_39, r_thr0, i0_0, if_true, ro_11 hf, w40, hs0]
              rw [if_neg (by decide)]
              simp -implicitDefEqProofs only [if_pos hb]
              exact e2
      · intro L
        have cp := c_payW (S := S) (d := d + 3) (L := L) (th := 0) (x := 8) hI hR.2.1
        rw [show (0 : Int32) + 12 = 12 from rfl] at cp
        rcases cp with ⟨nk, run⟩ | ⟨ok, A1, run, hL1, hF1⟩
        · refine ⟨k, E, A, L, T, Or.inl ⟨some (.int 0), rfl, ?_, fun M => ?_⟩⟩
          · simp -implicitDefEqProofs only [x_X11_work, g_X11_work_0, g_X11_work_15, g_X11_work_46, c_f1 hf, q_U, if_neg hb, hv_0_1, hv_4_1, hc_9, c_sold (Rel_l hR) hF hf, hs0, q_I, i0_0, if_true, hc_4, run, q_z0]
          · obtain ⟨B, e1, ⟨-, e2, e3⟩ | ⟨ok, -⟩⟩ := r_work_l (S := S) (d := d) (k := k) (E := E) (L := M) (T := T) (A := up A 39 0 0) hf hb hI hs0 up_ii
            · refine ⟨B, M, ?_, rfl, e1.2.1, Rel_by hR Fr_refl e1 (by rw [e3]; exact hR.2.1) (by rw [e3]; exact Iv_c (Nat.le_succ c) hI)⟩
              rw [x_X12_work, g_X12_work_0]
              simp -implicitDefEqProofs only [hp_39_0, r_f1 hf, q_I, hc_39, r_thr0, i0_0, if_true, ro_11 hf, u40_39, hs0]
              rw [if_neg (by decide)]
              simp -implicitDefEqProofs only [if_neg hb]
              exact e2
            · exact absurd ok nk
        · have hn' : hn (wkW (A 40) 0 8) = hn (A 40) := hn_c (by unfold wkW; rw [upd_o (by decide), upd_o (by decide)])
          have hW : Iv c (wkW (A 40) 0 8) := jG_1 (jG_2 hI (kp_rg _)) (kp_rg _)
          have l10 : LkL (A1 10) (wkW (A 40) 0 8) := hL1.2.1
          have e40 : A1 40 = A 40 := hF1.1 40 (by decide)
          refine ⟨k, E, up A1 10 (240 + f) 6, L, T, Or.inl ⟨some (.int 1), rfl, ?_, fun M => ?_⟩⟩
          · simp -implicitDefEqProofs only [x_X11_work, g_X11_work_0, g_X11_work_15, g_X11_work_46, c_f1 hf, q_U, if_neg hb, hv_0_1, hv_4_1, hc_9, c_sold (Rel_l hR) hF hf, hs0, q_I, i0_0, i1_0, if_true, if_false, hc_4, run, ls_5 hf, q_z1]
          · have w40 : up (up A1 10 (240 + f) 6) 39 0 0 40 = A 40 := by rw [u40_39, u40_10, e40]
            obtain ⟨B, e1, ⟨nk, -⟩ | ⟨-, e2, e3⟩⟩ := r_work_l (S := S) (d := d) (k := k) (E := E) (L := M) (T := T) (A := up (up A1 10 (240 + f) 6) 39 0 0) hf hb (by rw [w40]; exact hI) (by rw [w40]; exact hs0) up_ii
            · rw [w40] at nk; exact absurd ok nk
            · rw [w40] at e3
              refine ⟨B, M, ?_, rfl, e1.2.1, Rel_by hR (Fr_tr hF1 (Fr_up (by decide) (by decide))) e1 (by rw [e3]; exact kL_5 hW hf hL1) (by rw [e3]; exact Iv_c (Nat.le_succ c) (jL_5 hW hf (by unfold rg; decide)))⟩
              rw [x_X12_work, g_X12_work_0]
              simp -implicitDefEqProofs only [hp_39_0, r_f1 hf, q_I, hc_39, r_thr0, i0_0, if_true, ro_11 hf, w40, hs0]
              rw [if_neg (by decide)]
              simp -implicitDefEqProofs only [if_neg hb]
              exact e2
end WorkB
