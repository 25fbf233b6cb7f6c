/-! keep (laid by gen_keep.py) -/
section KeepC
variable {S : sT} {d c : Nat} {k : Value} {E : List dsc} {A : fA} {L : fL} {T : fT} {W : fW}
theorem sm_25 {x : Int32} (h : wi x 2 5) : x = 2 ∨ x = 3 ∨ x = 4 ∨ x = 5 := by
  obtain ⟨n, hn, rfl⟩ := wi_n (M := 5) (by decide) (show wi x 0 5 from ⟨fun q => h.1 (Int32.lt_trans q (by decide)), h.2⟩)
  have h1 := h.1
  match n, hn with
  | 0, _ => exact absurd (by decide) h1
  | 1, _ => exact absurd (by decide) h1
  | 2, _ | 3, _ | 4, _ | 5, _ => decide
theorem kp_w {x : Int32} {b : Int} (h : rg x 0 b) (hb : b ≤ 2000000000) : kp x.toInt64 = x := kp_id ⟨by have := h.1; omega, by have := h.2; omega⟩
theorem p_keep (hR : Rel c k E A T) (x1 x2 kd x y : Int32) : PK c S (d + 8) k E A T 157 159 [.int x1, .int x2, .int kd, .int x, .int y] cdD := by
  have hI := Rel_w hR
  have h1 := hI.2.2.2.2.1.1
  have h24' := hI.2.2.2.2.1.2.1
  have l1 : A 11 0 = nI (hn (A 40)) := (Rel_h hR).1.trans h1
  rcases fld_c x1 with hx | ⟨f1, hf1, rfl⟩
  · refine PI_K ⟨k, E, A, T, up A 39 0 1, Rel_thr hR 1, Or.inr ⟨0, by decide, fun L => ⟨L, ?_⟩, fun L => ⟨L, some (.int 0), rfl, ?_, rfl⟩, up_ii⟩⟩
    · simp -implicitDefEqProofs only [x_X11_keep, g_X11_keep_0, c_f0 hx, q_U, q_Ue]
    · simp -implicitDefEqProofs only [x_X12_keep, g_X12_keep_0, g_X12_keep_25, g_X12_keep_92, g_X12_keep_114, hp_39_0, r_f0 hx, q_I, i0_0, i1_0, if_true, if_false, hc_39, r_thr0, r_thr1, up_up]
  rcases fld_c x2 with hx | ⟨f2, hf2, rfl⟩
  · refine PI_K ⟨k, E, A, T, up A 39 0 1, Rel_thr hR 1, Or.inr ⟨0, by decide, fun L => ⟨L, ?_⟩, fun L => ⟨L, some (.int 0), rfl, ?_, rfl⟩, up_ii⟩⟩
    · simp -implicitDefEqProofs only [x_X11_keep, g_X11_keep_0, c_f1 hf1, c_f0 hx, q_U, q_Ue]
    · simp -implicitDefEqProofs only [x_X12_keep, g_X12_keep_0, g_X12_keep_25, g_X12_keep_92, g_X12_keep_114, hp_39_0, r_f1 hf1, r_f0 hx, q_I, i0_0, i1_0, if_true, if_false, hc_39, r_thr0, r_thr1, up_up]
  have cfr : ∀ L, ex S (d + 7) 96 [.ref 4, .int (nI f1), .int (nI f2)] (Hh k E A L T) = some (.inl (some (.int (frW (A 40) (nI f1) (nI f2)))), Hh k E A L T) := fun L => c_free (Rel_l hR) l1 h24' hI.2.1
  by_cases q : wi kd 2 5
  · rcases sm_25 q with rfl | rfl | rfl | rfl
    · by_cases hfr : hn (A 40) < 24 ∧ frN (A 40) (nI f1) (nI f2) 48 = true
      · obtain ⟨h24, hfr⟩ := hfr
        have e1 : frW (A 40) (nI f1) (nI f2) = 1 := by unfold frW; rw [if_pos h24, if_pos hfr]
        have hV0 : Iv c (begW (A 40) (nI f1) (nI f2) 2) := jBeg hI h24 hfr ⟨f1, hf1, inW_self _⟩ (by unfold rg; decide) (fun q => absurd q (by decide))
        have hV : Iv c (begW (A 40) (nI f1) (nI f2) 2) := hV0
        intro L
        obtain ⟨A1, run, hF1, hL1⟩ := keep_core (S := S) (d := d + 2) (L := L) (kd := 2) (x := x) (y := y) (V' := begW (A 40) (nI f1) (nI f2) 2) hR hf1 h24 hfr (by unfold rg; decide) (fun _ _ _ => rfl) (fun q => absurd q (by decide)) (fun q => absurd q (by decide)) hV
        have e40 : A1 40 = A 40 := hF1.1 40 (by decide)
        refine ⟨k, E, A1, L, T, Or.inl ⟨some (.int (nI (hn (A 40)))), rfl, ?_, fun M => ⟨upR (up A1 39 0 0) 40 (begW (A 40) (nI f1) (nI f2) 2), M, ?_, rfl, rfl, Rel_by hR hF1 Fg_upR (by rw [upR40]; exact hL1) (by rw [upR40]; exact Iv_c (Nat.le_succ c) hV)⟩⟩⟩
        · simp -implicitDefEqProofs only [x_X11_keep, g_X11_keep_0, g_X11_keep_50, c_f1 hf1, c_f1 hf2, c_in1 q, li_2_4, li_2_5, q_U, if_false, hv_0_1, hc_4, cfr, e1, q_I, i1_0, run]
        · have rb := r_begins (S := S) (d := d + 4) (k := k) (E := E) (L := M) (T := T) (a := nI f1) (b := nI f2) (kd := 2) (A := up A1 39 0 0) (by rw [u40_39, e40]; exact h1) (by rw [u40_39, e40]; exact h24)
          have rf := r_free (S := S) (d := d + 4) (k := k) (E := E) (L := M) (T := T) (a := nI f1) (b := nI f2) (A := up A1 39 0 0) (by rw [u40_39, e40]; exact h1) (by rw [u40_39, e40]; omega)
          rw [u40_39, e40] at rb rf
          simp -implicitDefEqProofs only [x_X12_keep, g_X12_keep_0, g_X12_keep_25, g_X12_keep_92, g_X12_keep_114, hp_39_0, r_f1 hf1, r_f1 hf2, r_in1 q, li_2_4, li_2_5, q_I, i0_0, i1_0, if_true, if_false, hc_39, r_thr0, rf, e1, rb, if_pos (show (2 : Int32) < 4 by decide)]
      · have e1 : frW (A 40) (nI f1) (nI f2) = 0 := by
          unfold frW
          by_cases q : hn (A 40) < 24
          · rw [if_pos q, if_neg (fun r => hfr ⟨q, r⟩)]
          · rw [if_neg q]
        have rf : ∀ L, ex S (d + 7) 147 [.ref 39, .int (nI f1), .int (nI f2)] (Hh k E (up A 39 0 0) L T) = some (.inl (some (.int (frW (A 40) (nI f1) (nI f2)))), Hh k E (up A 39 0 0) L T) := fun L => r_free (A := up A 39 0 0) h1 h24'
        refine PI_K ⟨k, E, A, T, up A 39 0 0, Rel_thr hR 0, Or.inl ⟨some (.int (-1)), rfl, fun L => ⟨L, ?_⟩, fun L => ⟨L, ?_, rfl⟩, up_ii⟩⟩
        · simp -implicitDefEqProofs only [x_X11_keep, g_X11_keep_0, g_X11_keep_50, c_f1 hf1, c_f1 hf2, c_in1 q, li_2_4, li_2_5, q_U, if_false, hv_0_1, hc_4, cfr, e1, q_I, i0_0, if_true]
        · simp -implicitDefEqProofs only [x_X12_keep, g_X12_keep_0, g_X12_keep_25, g_X12_keep_92, g_X12_keep_114, hp_39_0, r_f1 hf1, r_f1 hf2, r_in1 q, li_2_4, li_2_5, q_I, i0_0, i1_0, if_true, if_false, hc_39, r_thr0, rf, e1]
    · by_cases hfr : hn (A 40) < 24 ∧ frN (A 40) (nI f1) (nI f2) 48 = true
      · obtain ⟨h24, hfr⟩ := hfr
        have e1 : frW (A 40) (nI f1) (nI f2) = 1 := by unfold frW; rw [if_pos h24, if_pos hfr]
        have hV0 : Iv c (begW (A 40) (nI f1) (nI f2) 3) := jBeg hI h24 hfr ⟨f1, hf1, inW_self _⟩ (by unfold rg; decide) (fun q => absurd q (by decide))
        have hV : Iv c (begW (A 40) (nI f1) (nI f2) 3) := hV0
        intro L
        obtain ⟨A1, run, hF1, hL1⟩ := keep_core (S := S) (d := d + 2) (L := L) (kd := 3) (x := x) (y := y) (V' := begW (A 40) (nI f1) (nI f2) 3) hR hf1 h24 hfr (by unfold rg; decide) (fun _ _ _ => rfl) (fun q => absurd q (by decide)) (fun q => absurd q (by decide)) hV
        have e40 : A1 40 = A 40 := hF1.1 40 (by decide)
        refine ⟨k, E, A1, L, T, Or.inl ⟨some (.int (nI (hn (A 40)))), rfl, ?_, fun M => ⟨upR (up A1 39 0 0) 40 (begW (A 40) (nI f1) (nI f2) 3), M, ?_, rfl, rfl, Rel_by hR hF1 Fg_upR (by rw [upR40]; exact hL1) (by rw [upR40]; exact Iv_c (Nat.le_succ c) hV)⟩⟩⟩
        · simp -implicitDefEqProofs only [x_X11_keep, g_X11_keep_0, g_X11_keep_50, c_f1 hf1, c_f1 hf2, c_in1 q, li_3_4, li_3_5, q_U, if_false, hv_0_1, hc_4, cfr, e1, q_I, i1_0, run]
        · have rb := r_begins (S := S) (d := d + 4) (k := k) (E := E) (L := M) (T := T) (a := nI f1) (b := nI f2) (kd := 3) (A := up A1 39 0 0) (by rw [u40_39, e40]; exact h1) (by rw [u40_39, e40]; exact h24)
          have rf := r_free (S := S) (d := d + 4) (k := k) (E := E) (L := M) (T := T) (a := nI f1) (b := nI f2) (A := up A1 39 0 0) (by rw [u40_39, e40]; exact h1) (by rw [u40_39, e40]; omega)
          rw [u40_39, e40] at rb rf
          simp -implicitDefEqProofs only [x_X12_keep, g_X12_keep_0, g_X12_keep_25, g_X12_keep_92, g_X12_keep_114, hp_39_0, r_f1 hf1, r_f1 hf2, r_in1 q, li_3_4, li_3_5, q_I, i0_0, i1_0, if_true, if_false, hc_39, r_thr0, rf, e1, rb, if_pos (show (3 : Int32) < 4 by decide)]
      · have e1 : frW (A 40) (nI f1) (nI f2) = 0 := by
          unfold frW
          by_cases q : hn (A 40) < 24
          · rw [if_pos q, if_neg (fun r => hfr ⟨q, r⟩)]
          · rw [if_neg q]
        have rf : ∀ L, ex S (d + 7) 147 [.ref 39, .int (nI f1), .int (nI f2)] (Hh k E (up A 39 0 0) L T) = some (.inl (some (.int (frW (A 40) (nI f1) (nI f2)))), Hh k E (up A 39 0 0) L T) := fun L => r_free (A := up A 39 0 0) h1 h24'
        refine PI_K ⟨k, E, A, T, up A 39 0 0, Rel_thr hR 0, Or.inl ⟨some (.int (-1)), rfl, fun L => ⟨L, ?_⟩, fun L => ⟨L, ?_, rfl⟩, up_ii⟩⟩
        · simp -implicitDefEqProofs only [x_X11_keep, g_X11_keep_0, g_X11_keep_50, c_f1 hf1, c_f1 hf2, c_in1 q, li_3_4, li_3_5, q_U, if_false, hv_0_1, hc_4, cfr, e1, q_I, i0_0, if_true]
        · simp -implicitDefEqProofs only [x_X12_keep, g_X12_keep_0, g_X12_keep_25, g_X12_keep_92, g_X12_keep_114, hp_39_0, r_f1 hf1, r_f1 hf2, r_in1 q, li_3_4, li_3_5, q_I, i0_0, i1_0, if_true, if_false, hc_39, r_thr0, rf, e1]
    · by_cases q4 : wi x 0 2000
      · by_cases q5 : wi y 0 100
        · by_cases hfr : hn (A 40) < 24 ∧ frN (A 40) (nI f1) (nI f2) 48 = true
          · obtain ⟨h24, hfr⟩ := hfr
            have e1 : frW (A 40) (nI f1) (nI f2) = 1 := by unfold frW; rw [if_pos h24, if_pos hfr]
            have hV0 : Iv c (begW (A 40) (nI f1) (nI f2) 4) := jBeg hI h24 hfr ⟨f1, hf1, inW_self _⟩ (by unfold rg; decide) (fun q => absurd q (by decide))
            have hhn : hn (A 40) < hn (begW (A 40) (nI f1) (nI f2) 4) := by rw [beg_hn h24]; omega
            have hV1 : Iv c (upd (begW (A 40) (nI f1) (nI f2) 4) (1684 + 11 * hn (A 40) + 9) x) := jH_9 hV0 hhn (rg_wi q4)
            have hV : Iv c (upd (upd (begW (A 40) (nI f1) (nI f2) 4) (1684 + 11 * hn (A 40) + 9) x) (1684 + 11 * hn (A 40) + 10) y) := jH_10 hV1 (by rw [hn_c (upd_o (by omega))]; exact hhn) (rg_wi q5)
            intro L
            obtain ⟨A1, run, hF1, hL1⟩ := keep_core (S := S) (d := d + 2) (L := L) (kd := 4) (x := x) (y := y) (V' := upd (upd (begW (A 40) (nI f1) (nI f2) 4) (1684 + 11 * hn (A 40) + 9) x) (1684 + 11 * hn (A 40) + 10) y) hR hf1 h24 hfr (by unfold rg; decide) (fun j j1 j2 => (upd_o j2).trans (upd_o j1)) (fun _ => (upd_o (by omega)).trans (upd_s _ _ _)) (fun _ => upd_s _ _ _) hV
            have e40 : A1 40 = A 40 := hF1.1 40 (by decide)
            refine ⟨k, E, A1, L, T, Or.inl ⟨some (.int (nI (hn (A 40)))), rfl, ?_, fun M => ⟨up (up (upR (up A1 39 0 0) 40 (begW (A 40) (nI f1) (nI f2) 4)) 40 (1684 + 11 * hn (A 40) + 9) x) 40 (1684 + 11 * hn (A 40) + 10) y, M, ?_, rfl, rfl, Rel_by hR hF1 (Fg_tr Fg_upR (Fg_tr Fg_up Fg_up)) (by rw [up40, up40, upR40]; exact hL1) (by rw [up40, up40, upR40]; exact Iv_c (Nat.le_succ c) hV)⟩⟩⟩
            · simp -implicitDefEqProofs only [x_X11_keep, g_X11_keep_0, g_X11_keep_50, c_f1 hf1, c_f1 hf2, c_in1 q, c_in1 q4, c_in1 q5, li_4_5, if_true, q_U, if_false, hv_0_1, hc_4, cfr, e1, q_I, i1_0, run]
            · have rb := r_begins (S := S) (d := d + 4) (k := k) (E := E) (L := M) (T := T) (a := nI f1) (b := nI f2) (kd := 4) (A := up A1 39 0 0) (by rw [u40_39, e40]; exact h1) (by rw [u40_39, e40]; exact h24)
              have rf := r_free (S := S) (d := d + 4) (k := k) (E := E) (L := M) (T := T) (a := nI f1) (b := nI f2) (A := up A1 39 0 0) (by rw [u40_39, e40]; exact h1) (by rw [u40_39, e40]; omega)
              rw [u40_39, e40] at rb rf
              have kx : kp x.toInt64 = x := kp_w (rg_wi q4) (by decide)
              have ky : kp y.toInt64 = y := kp_w (rg_wi q5) (by decide)
              simp -implicitDefEqProofs only [x_X12_keep, g_X12_keep_0, g_X12_keep_25, g_X12_keep_92, g_X12_keep_114, hp_39_0, r_f1 hf1, r_f1 hf2, r_in1 q, r_in1 q4, r_in1 q5, li_4_5, q_I, i0_0, i1_0, if_true, if_false, hc_39, r_thr0, rf, e1, rb, if_neg (show ¬ (4 : Int32) < 4 by decide), rs_9 h24, rs_10 h24, q_U, kx, ky]
          · have e1 : frW (A 40) (nI f1) (nI f2) = 0 := by
              unfold frW
              by_cases q : hn (A 40) < 24
              · rw [if_pos q, if_neg (fun r => hfr ⟨q, r⟩)]
              · rw [if_neg q]
            have rf : ∀ L, ex S (d + 7) 147 [.ref 39, .int (nI f1), .int (nI f2)] (Hh k E (up A 39 0 0) L T) = some (.inl (some (.int (frW (A 40) (nI f1) (nI f2)))), Hh k E (up A 39 0 0) L T) := fun L => r_free (A := up A 39 0 0) h1 h24'
            refine PI_K ⟨k, E, A, T, up A 39 0 0, Rel_thr hR 0, Or.inl ⟨some (.int (-1)), rfl, fun L => ⟨L, ?_⟩, fun L => ⟨L, ?_, rfl⟩, up_ii⟩⟩
            · simp -implicitDefEqProofs only [x_X11_keep, g_X11_keep_0, g_X11_keep_50, c_f1 hf1, c_f1 hf2, c_in1 q, c_in1 q4, c_in1 q5, li_4_5, if_true, q_U, if_false, hv_0_1, hc_4, cfr, e1, q_I, i0_0, if_true]
            · simp -implicitDefEqProofs only [x_X12_keep, g_X12_keep_0, g_X12_keep_25, g_X12_keep_92, g_X12_keep_114, hp_39_0, r_f1 hf1, r_f1 hf2, r_in1 q, r_in1 q4, r_in1 q5, li_4_5, q_I, i0_0, i1_0, if_true, if_false, hc_39, r_thr0, rf, e1]
        · refine PI_K ⟨k, E, A, T, up A 39 0 2, Rel_thr hR 2, Or.inr ⟨1, by decide, fun L => ⟨L, ?_⟩, fun L => ⟨L, some (.int 0), rfl, ?_, rfl⟩, up_ii⟩⟩
          · simp -implicitDefEqProofs only [x_X11_keep, g_X11_keep_0, c_f1 hf1, c_f1 hf2, c_in1 q, c_in1 q4, c_in0 q5, if_true, q_U, q_Ue]
          · simp -implicitDefEqProofs only [x_X12_keep, g_X12_keep_0, g_X12_keep_25, g_X12_keep_92, g_X12_keep_114, hp_39_0, r_f1 hf1, r_f1 hf2, r_in1 q, r_in1 q4, r_in0 q5, q_I, i0_0, i1_0, if_true, if_false, hc_39, r_thr0, r_thr1, up_up]
      · refine PI_K ⟨k, E, A, T, up A 39 0 2, Rel_thr hR 2, Or.inr ⟨1, by decide, fun L => ⟨L, ?_⟩, fun L => ⟨L, some (.int 0), rfl, ?_, rfl⟩, up_ii⟩⟩
        · simp -implicitDefEqProofs only [x_X11_keep, g_X11_keep_0, c_f1 hf1, c_f1 hf2, c_in1 q, c_in0 q4, if_true, q_U, q_Ue]
        · simp -implicitDefEqProofs only [x_X12_keep, g_X12_keep_0, g_X12_keep_25, g_X12_keep_92, g_X12_keep_114, hp_39_0, r_f1 hf1, r_f1 hf2, r_in1 q, r_in0 q4, q_I, i0_0, i1_0, if_true, if_false, hc_39, r_thr0, r_thr1, up_up]
    · by_cases q4 : wi x 0 1000
      · by_cases hfr : hn (A 40) < 24 ∧ frN (A 40) (nI f1) (nI f2) 48 = true
        · obtain ⟨h24, hfr⟩ := hfr
          have e1 : frW (A 40) (nI f1) (nI f2) = 1 := by unfold frW; rw [if_pos h24, if_pos hfr]
          have hV0 : Iv c (begW (A 40) (nI f1) (nI f2) 5) := jBeg hI h24 hfr ⟨f1, hf1, inW_self _⟩ (by unfold rg; decide) (fun q => absurd q (by decide))
          have hhn : hn (A 40) < hn (begW (A 40) (nI f1) (nI f2) 5) := by rw [beg_hn h24]; omega
          have hV : Iv c (upd (begW (A 40) (nI f1) (nI f2) 5) (1684 + 11 * hn (A 40) + 9) x) := jH_9 hV0 hhn ⟨(rg_wi q4).1, Int.le_trans (rg_wi q4).2 (by decide)⟩
          intro L
          obtain ⟨A1, run, hF1, hL1⟩ := keep_core (S := S) (d := d + 2) (L := L) (kd := 5) (x := x) (y := y) (V' := upd (begW (A 40) (nI f1) (nI f2) 5) (1684 + 11 * hn (A 40) + 9) x) hR hf1 h24 hfr (by unfold rg; decide) (fun j j1 _ => upd_o j1) (fun _ => upd_s _ _ _) (fun q => absurd q (by decide)) hV
          have e40 : A1 40 = A 40 := hF1.1 40 (by decide)
          refine ⟨k, E, A1, L, T, Or.inl ⟨some (.int (nI (hn (A 40)))), rfl, ?_, fun M => ⟨up (upR (up A1 39 0 0) 40 (begW (A 40) (nI f1) (nI f2) 5)) 40 (1684 + 11 * hn (A 40) + 9) x, M, ?_, rfl, rfl, Rel_by hR hF1 (Fg_tr Fg_upR Fg_up) (by rw [up40, upR40]; exact hL1) (by rw [up40, upR40]; exact Iv_c (Nat.le_succ c) hV)⟩⟩⟩
          · simp -implicitDefEqProofs only [x_X11_keep, g_X11_keep_0, g_X11_keep_50, c_f1 hf1, c_f1 hf2, c_in1 q, c_in1 q4, li_5_4, if_true, q_U, if_false, hv_0_1, hc_4, cfr, e1, q_I, i1_0, run]
          · have rb := r_begins (S := S) (d := d + 4) (k := k) (E := E) (L := M) (T := T) (a := nI f1) (b := nI f2) (kd := 5) (A := up A1 39 0 0) (by rw [u40_39, e40]; exact h1) (by rw [u40_39, e40]; exact h24)
            have rf := r_free (S := S) (d := d + 4) (k := k) (E := E) (L := M) (T := T) (a := nI f1) (b := nI f2) (A := up A1 39 0 0) (by rw [u40_39, e40]; exact h1) (by rw [u40_39, e40]; omega)
            rw [u40_39, e40] at rb rf
            have kx : kp x.toInt64 = x := kp_w (rg_wi q4) (by decide)
            simp -implicitDefEqProofs only [x_X12_keep, g_X12_keep_0, g_X12_keep_25, g_X12_keep_92, g_X12_keep_114, hp_39_0, r_f1 hf1, r_f1 hf2, r_in1 q, r_in1 q4, li_5_4, q_I, i0_0, i1_0, if_true, if_false, hc_39, r_thr0, rf, e1, rb, if_neg (show ¬ (5 : Int32) < 4 by decide), rs_9 h24, q_U, kx]
        · have e1 : frW (A 40) (nI f1) (nI f2) = 0 := by
            unfold frW
            by_cases q : hn (A 40) < 24
            · rw [if_pos q, if_neg (fun r => hfr ⟨q, r⟩)]
            · rw [if_neg q]
          have rf : ∀ L, ex S (d + 7) 147 [.ref 39, .int (nI f1), .int (nI f2)] (Hh k E (up A 39 0 0) L T) = some (.inl (some (.int (frW (A 40) (nI f1) (nI f2)))), Hh k E (up A 39 0 0) L T) := fun L => r_free (A := up A 39 0 0) h1 h24'
          refine PI_K ⟨k, E, A, T, up A 39 0 0, Rel_thr hR 0, Or.inl ⟨some (.int (-1)), rfl, fun L => ⟨L, ?_⟩, fun L => ⟨L, ?_, rfl⟩, up_ii⟩⟩
          · simp -implicitDefEqProofs only [x_X11_keep, g_X11_keep_0, g_X11_keep_50, c_f1 hf1, c_f1 hf2, c_in1 q, c_in1 q4, li_5_4, if_true, q_U, if_false, hv_0_1, hc_4, cfr, e1, q_I, i0_0, if_true]
          · simp -implicitDefEqProofs only [x_X12_keep, g_X12_keep_0, g_X12_keep_25, g_X12_keep_92, g_X12_keep_114, hp_39_0, r_f1 hf1, r_f1 hf2, r_in1 q, r_in1 q4, li_5_4, q_I, i0_0, i1_0, if_true, if_false, hc_39, r_thr0, rf, e1]
      · refine PI_K ⟨k, E, A, T, up A 39 0 2, Rel_thr hR 2, Or.inr ⟨1, by decide, fun L => ⟨L, ?_⟩, fun L => ⟨L, some (.int 0), rfl, ?_, rfl⟩, up_ii⟩⟩
        · simp -implicitDefEqProofs only [x_X11_keep, g_X11_keep_0, c_f1 hf1, c_f1 hf2, c_in1 q, c_in0 q4, li_5_4, if_false, if_true, q_U, q_Ue]
        · simp -implicitDefEqProofs only [x_X12_keep, g_X12_keep_0, g_X12_keep_25, g_X12_keep_92, g_X12_keep_114, hp_39_0, r_f1 hf1, r_f1 hf2, r_in1 q, r_in0 q4, li_5_4, q_I, i0_0, i1_0, if_true, if_false, hc_39, r_thr0, r_thr1, up_up]
  · have n4 : ¬ kd = 4 := fun e => q (by rw [e]; exact ⟨by decide, by decide⟩)
    have n5 : ¬ kd = 5 := fun e => q (by rw [e]; exact ⟨by decide, by decide⟩)
    refine PI_K ⟨k, E, A, T, up A 39 0 2, Rel_thr hR 2, Or.inr ⟨1, by decide, fun L => ⟨L, ?_⟩, fun L => ⟨L, some (.int 0), rfl, ?_, rfl⟩, up_ii⟩⟩
    · simp -implicitDefEqProofs only [x_X11_keep, g_X11_keep_0, c_f1 hf1, c_f1 hf2, c_in0 q, q_U, q_Ue]
    · simp -implicitDefEqProofs only [x_X12_keep, g_X12_keep_0, g_X12_keep_25, g_X12_keep_92, g_X12_keep_114, hp_39_0, r_f1 hf1, r_f1 hf2, if_neg n4, if_neg n5, r_in0 q, q_I, i0_0, i1_0, if_true, if_false, hc_39, r_thr0, r_thr1, up_up]
end KeepC
