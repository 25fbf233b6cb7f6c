/-! a field is told; it is sown; notice; what stands of a holding (laid by gen_field.py) -/
section FieldB
variable {S : sT} {d c : Nat} {k : Value} {E : List dsc} {A : fA} {L : fL} {T : fT} {W : fW}
theorem p_field (hR : Rel c k E A T) (x a b e g y : Int32) : PI c S (d + 6) k E A T 26 32 [.int x, .int a, .int b, .int e, .int g, .int y] cdD := by
  rcases fld_c x with hx | ⟨f, hf, rfl⟩
  · refine ⟨k, E, A, T, up A 39 0 1, Rel_thr hR 1, Or.inr ⟨0, by decide, fun L => ⟨L, ?_⟩, fun L => ⟨L, some (.int 0), rfl, ?_, rfl⟩, up_ii⟩⟩
    · simp -implicitDefEqProofs only [x_X11_field, g_X11_field_0, c_f0 hx, q_Ue]
    · simp -implicitDefEqProofs only [x_X12_field, g_X12_field_0, hp_39_0, r_f0 hx, q_I, hc_39, r_thr1, i1_0, if_false, q_z0, up_up]
  · by_cases q0 : wi a 0 9
    · by_cases q1 : wi b 0 9
      · by_cases q2 : wi e 0 20
        · by_cases q3 : wi g 0 99
          · by_cases q4 : wi y 0 300
            · have hI := Rel_w hR
              have hF := hI.2.1 f hf
              obtain ⟨-, -, -, -, -, -, -, -, -, -, hs, -⟩ := id hF
              by_cases hs1 : A 40 (8 + 14 * f + 11) = 1
              · refine ⟨k, E, A, T, up A 39 0 0, Rel_thr hR 0, Or.inl ⟨some (.int 0), rfl, fun L => ⟨L, ?_⟩, fun L => ⟨L, ?_, rfl⟩, up_ii⟩⟩
                · simp -implicitDefEqProofs only [x_X11_field, g_X11_field_0, c_f1 hf, c_in1 q0, c_in1 q1, c_in1 q2, c_in1 q3, c_in1 q4, q_U, hv_0_1, hv_4_1, hc_9, c_sold (Rel_l hR) hF hf, hs1, q_I, i1_0, if_false, q_z0]
                · have w1 : up A 39 0 0 40 (8 + 14 * f + 11) = 1 := hs1
                  simp -implicitDefEqProofs only [x_X12_field, g_X12_field_0, g_X12_field_77, hp_39_0, r_f1 hf, q_I, hc_39, r_thr0, i0_0, if_true, r_in1 q0, r_in1 q1, r_in1 q2, r_in1 q3, r_in1 q4, i1_0, if_false, ro_11 hf, w1, q_z0]
              · have hs0 : A 40 (8 + 14 * f + 11) = 0 := hs.resolve_right (fun q => hs1 q.1)
                have w1 : ∀ B : fA, B 40 = A 40 → ¬ B 40 (8 + 14 * f + 11) = 1 := fun B hB => by rw [hB]; exact hs1
                have j0 := jL_0 (x := a) hI hf (rg_wi q0)
                have j1 := jL_1 (x := b) j0 hf (rg_wi q1)
                have j2 := jL_2 (x := e) j1 hf (rg_wi q2)
                have j6 := jL_6 (x := g) j2 hf (rg_wi q3)
                have j7 := jL_7 (x := y) j6 hf (b32 y)
                refine ⟨k, E, up (up (up (up (up A 10 (0 + f) a) 10 (48 + f) b) 10 (96 + f) e) 10 (288 + f) g) 10 (336 + f) y, T, up (up (up (up (up (up (up (up (up (up (up A 10 (0 + f) a) 10 (48 + f) b) 10 (96 + f) e) 10 (288 + f) g) 10 (336 + f) y) 39 0 0) 40 (8 + 14 * f + 0) a) 40 (8 + 14 * f + 1) b) 40 (8 + 14 * f + 2) e) 40 (8 + 14 * f + 6) g) 40 (8 + 14 * f + 7) y, Rel_by hR (Fr_tr (Fr_up (by decide) (by decide)) (Fr_tr (Fr_up (by decide) (by decide)) (Fr_tr (Fr_up (by decide) (by decide)) (Fr_tr (Fr_up (by decide) (by decide)) (Fr_up (by decide) (by decide)))))) (Fg_tr Fg_up (Fg_tr Fg_up (Fg_tr Fg_up (Fg_tr Fg_up Fg_up)))) ?_ ?_, Or.inl ⟨some (.int 1), rfl, fun L => ⟨L, ?_⟩, fun L => ⟨L, ?_, rfl⟩, rfl⟩⟩
                · rw [up40, up40, up40, up40, up40]
                  exact kL_7 j6 hf (kL_6 j2 hf (kL_2 j1 hf (kL_1 j0 hf (kL_0 hI hf hR.2.1))))
                · rw [up40, up40, up40, up40, up40]
                  exact Iv_c (Nat.le_succ c) j7
                · simp -implicitDefEqProofs only [x_X11_field, g_X11_field_0, c_f1 hf, c_in1 q0, c_in1 q1, c_in1 q2, c_in1 q3, c_in1 q4, q_U, hv_0_1, hv_4_1, hc_9, c_sold (Rel_l hR) hF hf, hs0, q_I, i0_0, if_true, ls_0 hf, ls_1 hf, ls_2 hf, ls_6 hf, ls_7 hf, q_z1]
                · simp -implicitDefEqProofs only [x_X12_field, g_X12_field_0, g_X12_field_77, hp_39_0, r_f1 hf, q_I, hc_39, r_thr0, i0_0, if_true, r_in1 q0, r_in1 q1, r_in1 q2, r_in1 q3, r_in1 q4, i1_0, if_false, ro_11 hf]
                  refine (if_neg hs1).trans ?_
                  simp -implicitDefEqProofs only [hv_39_1, ra_0, ra_1, ra_2, ra_6, ra_7, q_I, sn_40 (show 8 + 14 * f + 0 < 35877 by omega), sn_40 (show 8 + 14 * f + 1 < 35877 by omega), sn_40 (show 8 + 14 * f + 2 < 35877 by omega), sn_40 (show 8 + 14 * f + 6 < 35877 by omega), sn_40 (show 8 + 14 * f + 7 < 35877 by omega), q_z1]
            · refine ⟨k, E, A, T, up A 39 0 2, Rel_thr hR 2, Or.inr ⟨1, by decide, fun L => ⟨L, ?_⟩, fun L => ⟨L, some (.int 0), rfl, ?_, rfl⟩, up_ii⟩⟩
              · simp -implicitDefEqProofs only [x_X11_field, g_X11_field_0, c_f1 hf, c_in1 q0, c_in1 q1, c_in1 q2, c_in1 q3, c_in0 q4, q_U, q_Ue]
              · simp -implicitDefEqProofs only [x_X12_field, g_X12_field_0, g_X12_field_77, hp_39_0, r_f1 hf, q_I, hc_39, r_thr0, r_thr1, i0_0, if_true, r_in1 q0, r_in1 q1, r_in1 q2, r_in1 q3, r_in0 q4, i1_0, if_false, q_z0, up_up]
          · refine ⟨k, E, A, T, up A 39 0 2, Rel_thr hR 2, Or.inr ⟨1, by decide, fun L => ⟨L, ?_⟩, fun L => ⟨L, some (.int 0), rfl, ?_, rfl⟩, up_ii⟩⟩
            · simp -implicitDefEqProofs only [x_X11_field, g_X11_field_0, c_f1 hf, c_in1 q0, c_in1 q1, c_in1 q2, c_in0 q3, q_U, q_Ue]
            · simp -implicitDefEqProofs only [x_X12_field, g_X12_field_0, g_X12_field_77, hp_39_0, r_f1 hf, q_I, hc_39, r_thr0, r_thr1, i0_0, if_true, r_in1 q0, r_in1 q1, r_in1 q2, r_in0 q3, i1_0, if_false, q_z0, up_up]
        · refine ⟨k, E, A, T, up A 39 0 2, Rel_thr hR 2, Or.inr ⟨1, by decide, fun L => ⟨L, ?_⟩, fun L => ⟨L, some (.int 0), rfl, ?_, rfl⟩, up_ii⟩⟩
          · simp -implicitDefEqProofs only [x_X11_field, g_X11_field_0, c_f1 hf, c_in1 q0, c_in1 q1, c_in0 q2, q_U, q_Ue]
          · simp -implicitDefEqProofs only [x_X12_field, g_X12_field_0, g_X12_field_77, hp_39_0, r_f1 hf, q_I, hc_39, r_thr0, r_thr1, i0_0, if_true, r_in1 q0, r_in1 q1, r_in0 q2, i1_0, if_false, q_z0, up_up]
      · refine ⟨k, E, A, T, up A 39 0 2, Rel_thr hR 2, Or.inr ⟨1, by decide, fun L => ⟨L, ?_⟩, fun L => ⟨L, some (.int 0), rfl, ?_, rfl⟩, up_ii⟩⟩
        · simp -implicitDefEqProofs only [x_X11_field, g_X11_field_0, c_f1 hf, c_in1 q0, c_in0 q1, q_U, q_Ue]
        · simp -implicitDefEqProofs only [x_X12_field, g_X12_field_0, g_X12_field_77, hp_39_0, r_f1 hf, q_I, hc_39, r_thr0, r_thr1, i0_0, if_true, r_in1 q0, r_in0 q1, i1_0, if_false, q_z0, up_up]
    · refine ⟨k, E, A, T, up A 39 0 2, Rel_thr hR 2, Or.inr ⟨1, by decide, fun L => ⟨L, ?_⟩, fun L => ⟨L, some (.int 0), rfl, ?_, rfl⟩, up_ii⟩⟩
      · simp -implicitDefEqProofs only [x_X11_field, g_X11_field_0, c_f1 hf, c_in0 q0, q_U, q_Ue]
      · simp -implicitDefEqProofs only [x_X12_field, g_X12_field_0, g_X12_field_77, hp_39_0, r_f1 hf, q_I, hc_39, r_thr0, r_thr1, i0_0, if_true, r_in0 q0, i1_0, if_false, q_z0, up_up]
theorem c_hand {x : Int32} {h : pH} : ex S (d + 1) 161 [.int x] h = some (.inl (some (.int (if x = 2 then 1 else if x = 3 then 1 else 0))), h) := by
  simp -implicitDefEqProofs only [x_X1_isHand, g_X1_isHand_0, q_z0, q_z1]
  split
  · rfl
  · split <;> rfl
theorem c_kd1 {h : pH} : ex S (d + 1) 162 [.int 1] h = some (.inl none, h) := by
  rw [x_X11_needKind, g_X11_needKind_0, if_neg (by decide)]
theorem c_kd0 {h : pH} : ex S (d + 1) 162 [.int 0] h = some (.inr (xnm 2), h) := by
  rw [x_X11_needKind, g_X11_needKind_0, if_pos rfl]
theorem p_sow (hR : Rel c k E A T) (x y : Int32) : PI c S (d + 6) k E A T 163 167 [.int x, .int y] cdE := by
  rcases fld_c x with hx | ⟨f, hf, rfl⟩
  · refine ⟨k, E, A, T, up A 39 0 1, Rel_thr hR 1, Or.inr ⟨0, by decide, fun L => ⟨L, ?_⟩, fun L => ⟨L, some (.int 0), rfl, ?_, rfl⟩, up_ii⟩⟩
    · simp -implicitDefEqProofs only [x_X11_sow, g_X11_sow_0, c_f0 hx, q_Ue]
    · simp -implicitDefEqProofs only [x_X12_sow, g_X12_sow_0, hp_39_0, r_f0 hx, q_I, hc_39, r_thr1, i1_0, if_false, q_z0, up_up]
  · by_cases q : wi y 0 5
    · have hI := Rel_w hR
      have hF := hI.2.1 f hf
      have h24 := hI.2.2.2.2.1.2.1
      have hC := (Rel_h hR).2.1
      have ck : ∀ L, ex S (d + 5) 160 [.ref 4, .int (nI f)] (Hh k E A L T) = some (.inl (some (.int (kindW (A 40) f))), Hh k E A L T) := fun L => c_kindAt (Rel_l hR) hC hF h24 hf
      by_cases hk : kindW (A 40) f = 2 ∨ kindW (A 40) f = 3
      · have e1 : (if kindW (A 40) f = 2 then (1 : Int32) else if kindW (A 40) f = 3 then 1 else 0) = 1 := by
          rcases hk with hk | hk <;> rw [hk] <;> decide
        have hx : rg y 0 5 ∧ (A 40 (8 + 14 * f + 10) = -1 → y = 0) ∧ ∀ h, h < hn (A 40) → A 40 (8 + 14 * f + 10) = nI h → (A 40 (1684 + 11 * h + 0) = 4 ∨ A 40 (1684 + 11 * h + 0) = 5) → y = 0 := by
          refine ⟨rg_wi q, ?_⟩
          rcases hol_c hF h24 with ⟨b1, b2, b3⟩ | ⟨h, b1, b2, b3, b4⟩
          · unfold kindW at hk; rw [b2] at hk; simp only at hk; exact absurd hk (by decide)
          · unfold kindW at hk; rw [b4] at hk
            simp only at hk
            refine ⟨fun e => ?_, fun g hg e1 e2 => ?_⟩
            · rw [b3] at e; exact absurd (e ▸ nI_pos' (show h < 2 ^ 31 by omega)) (by decide)
            · exfalso
              rw [b3] at e1
              have hgh : h = g := (nI_eq (by omega) (by omega)).mp e1
              subst hgh
              rcases hk with hk | hk <;> rw [hk] at e2 <;> exact absurd e2 (by decide)
        refine ⟨k, E, up A 10 (144 + f) y, T, up (up (up A 10 (144 + f) y) 39 0 0) 40 (8 + 14 * f + 3) y, Rel_by hR (Fr_up (by decide) (by decide)) Fg_up ?_ ?_, Or.inl ⟨some (.int (if A 40 (8 + 14 * f + 3) = y then 0 else 1)), rfl, fun L => ⟨L, ?_⟩, fun L => ⟨L, ?_, rfl⟩, rfl⟩⟩
        · rw [up40]; exact kL_3 hI hf hR.2.1
        · rw [up40]; exact Iv_c (Nat.le_succ c) (jL_3 hI hf hx)
        · simp -implicitDefEqProofs only [x_X11_sow, g_X11_sow_0, c_f1 hf, c_in1 q, q_U, hv_0_1, hc_4, ck, q_I, c_hand, e1, c_kd1, hv_4_1, hc_9, gL_3 (Rel_l hR) hf, ls_3 hf, q_z0, q_z1]
          split <;> rfl
        · have rk : ex S (d + 5) 166 [.ref 39, .int (nI f)] (Hh k E (up (up A 10 (144 + f) y) 39 0 0) L T) = some (.inl (some (.int (kindW (A 40) f))), Hh k E (up (up A 10 (144 + f) y) 39 0 0) L T) := r_kindOf (A := up (up A 10 (144 + f) y) 39 0 0) hF h24 hf
          rw [x_X12_sow, g_X12_sow_0]
          simp -implicitDefEqProofs only [hp_39_0, r_f1 hf, q_I, hc_39, r_thr0, i0_0, if_true, r_in1 q, i1_0, if_false]
          rw [g_X12_sow_32]
          simp -implicitDefEqProofs only [hc_39, r_thr0, q_I, i0_0, if_true, rk, g_X12_sow_63, r_thr0, ro_3 hf, u40_39, u40_10, hv_39_1, ra_3, sn_40 (show 8 + 14 * f + 3 < 35877 by omega), q_z0, q_z1]
          by_cases h2 : kindW (A 40) f = 2
          · simp -implicitDefEqProofs only [if_pos h2]
            split <;> rfl
          · simp -implicitDefEqProofs only [if_neg h2, if_pos (hk.resolve_left h2)]
            split <;> rfl
      · have h2 : ¬ kindW (A 40) f = 2 := fun q => hk (Or.inl q)
        have h3 : ¬ kindW (A 40) f = 3 := fun q => hk (Or.inr q)
        have rk : ∀ L, ex S (d + 5) 166 [.ref 39, .int (nI f)] (Hh k E (up A 39 0 0) L T) = some (.inl (some (.int (kindW (A 40) f))), Hh k E (up A 39 0 0) L T) := fun L => r_kindOf (A := up A 39 0 0) hF h24 hf
        refine ⟨k, E, A, T, up A 39 0 3, Rel_thr hR 3, Or.inr ⟨2, by decide, fun L => ⟨L, ?_⟩, fun L => ⟨L, some (.int 0), rfl, ?_, rfl⟩, up_ii⟩⟩
        · simp -implicitDefEqProofs only [x_X11_sow, g_X11_sow_0, c_f1 hf, c_in1 q, q_U, hv_0_1, hc_4, ck, q_I, c_hand, if_neg h2, if_neg h3, c_kd0, q_Ue]
        · simp -implicitDefEqProofs only [x_X12_sow, g_X12_sow_0, g_X12_sow_32, g_X12_sow_63, hp_39_0, r_f1 hf, q_I, hc_39, r_thr0, r_thr1, i0_0, if_true, r_in1 q, i1_0, if_false, rk, if_neg h2, if_neg h3, q_z0, up_up]
    · refine ⟨k, E, A, T, up A 39 0 2, Rel_thr hR 2, Or.inr ⟨1, by decide, fun L => ⟨L, ?_⟩, fun L => ⟨L, some (.int 0), rfl, ?_, rfl⟩, up_ii⟩⟩
      · simp -implicitDefEqProofs only [x_X11_sow, g_X11_sow_0, c_f1 hf, c_in0 q, q_U, q_Ue]
      · simp -implicitDefEqProofs only [x_X12_sow, g_X12_sow_0, g_X12_sow_32, hp_39_0, r_f1 hf, q_I, hc_39, r_thr0, i0_0, if_true, r_in0 q, r_thr1, i1_0, if_false, q_z0, up_up]
end FieldB
