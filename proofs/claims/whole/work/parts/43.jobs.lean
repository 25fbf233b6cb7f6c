/-! jobs and troubles are told; rows -/
section JobsB
variable {S : sT} {d c : Nat} {k : Value} {E : List dsc} {A : fA} {L : fL} {T : fT} {W : fW}
def jbC (A : fA) (n : Nat) (x1 x2 x3 : Int32) : fA := up (up (up (up A 28 n x1) 29 n x2) 30 n x3) 27 0 (nI (n + 1))
def jbR (A : fA) (n : Nat) (x1 x2 x3 : Int32) : fA := up (up (up (up (up A 39 0 0) 40 (2238 + 3 * n) x1) 40 (2238 + 3 * n + 1) x2) 40 (2238 + 3 * n + 2) x3) 40 2237 (nI (n + 1))
theorem Rel_job (hR : Rel c k E A T) {x1 x2 x3 : Int32} (h1 : rg x1 0 100000) (h2 : rg x2 0 10000) {n : Nat} (hN : jn (A 40) = n) (hn : n < 6) : Rel (c + 1) k E (jbR (jbC A n x1 x2 x3) n x1 x2 x3) T := by
  obtain ⟨i0, i1, i2, i3, i4, i5, i6, i7, i8, i9, i10⟩ := Rel_w hR
  obtain ⟨l0, l1, l2, l3, l4, l5, l6, l7⟩ := hR.2.1
  have e : ∀ j, (j < 2237 ∨ 2256 ≤ j ∨ 2238 ≤ j ∧ j < 2238 + 3 * n ∨ 2238 + 3 * n + 3 ≤ j) → jbR (jbC A n x1 x2 x3) n x1 x2 x3 40 j = A 40 j := by intro j hj; simp -implicitDefEqProofs only [jbR, jbC, up]; (repeat rw [if_neg (by omega)])
  have hA : ∀ r, 49 ≤ r → jbR (jbC A n x1 x2 x3) n x1 x2 x3 r = A r := by intro r hr; funext j; simp -implicitDefEqProofs only [jbR, jbC, up]; (repeat rw [if_neg (by omega)])
  have e0 : jbR (jbC A n x1 x2 x3) n x1 x2 x3 40 2237 = nI (n + 1) := up_ii
  have e1 : jbR (jbC A n x1 x2 x3) n x1 x2 x3 40 (2238 + 3 * n) = x1 := by simp -implicitDefEqProofs only [jbR, jbC, up]; (repeat rw [if_neg (by omega)]); rw [if_pos (by simp)]
  have e2 : jbR (jbC A n x1 x2 x3) n x1 x2 x3 40 (2238 + 3 * n + 1) = x2 := by simp -implicitDefEqProofs only [jbR, jbC, up]; (repeat rw [if_neg (by omega)]); rw [if_pos (by simp)]
  have e3 : jbR (jbC A n x1 x2 x3) n x1 x2 x3 40 (2238 + 3 * n + 2) = x3 := by simp -implicitDefEqProofs only [jbR, jbC, up]; (repeat rw [if_neg (by omega)]); rw [if_pos (by simp)]
  have ep : jn (jbR (jbC A n x1 x2 x3) n x1 x2 x3 40) = n + 1 := by unfold jn; rw [e0, nI_clamp (by omega)]
  have r27 : jbR (jbC A n x1 x2 x3) n x1 x2 x3 27 = upd (A 27) 0 (nI (n + 1)) := by funext i; simp [jbR, jbC, up, upd]
  have r28 : jbR (jbC A n x1 x2 x3) n x1 x2 x3 28 = upd (A 28) n x1 := by funext i; simp [jbR, jbC, up, upd]
  have r29 : jbR (jbC A n x1 x2 x3) n x1 x2 x3 29 = upd (A 29) n x2 := by funext i; simp [jbR, jbC, up, upd]
  have r30 : jbR (jbC A n x1 x2 x3) n x1 x2 x3 30 = upd (A 30) n x3 := by funext i; simp [jbR, jbC, up, upd]
  refine Rel_new hR ⟨Iv0_c (e 0 (by omega)) i0, IvF_c (fun i hi => e i (by omega)) i4.2.1 i1, IvRn_c (fun i h1 h2 => e i (by omega)) i2, IvPr_c (by rw [e 0 (by omega)]; exact Int32.lt_irrefl) (fun i h1 h2 => e i (by omega)) i3, IvHs_c (fun i hi => e i (by omega)) i4, IvGs_c (fun i h1 h2 => e i (by omega)) i5, IvLn_c (fun i h1 h2 => e i (by omega)) i6, ?_, IvTb_c (fun i h1 h2 => e i (by omega)) i8, IvRw_c (e _ (by omega)) i9, IvXs_c (fun i h1 h2 => e i (by omega)) i10⟩ ⟨l0.trans (e 0 (by omega)).symm, LkL_c (fun i h1 h2 => e i (by omega)) l1, LkM_c i3.2.1 (fun i h1 h2 => e i (by omega)) l2, LkG_c (fun i hi => e i (by omega)) l3, ?_, LkR_c (fun i h1 h2 => e i (by omega)) l5, LkH_A (LkH_c i4.2.1 (fun i hi => e i (by omega)) l6) (fun r hr => hA r hr.1), LkX_A (LkX_c i10.2.1 (fun i h1 h2 => e i (by omega)) l7) (fun r hr => hA r hr.1)⟩ rfl rfl rfl rfl rfl rfl ⟨rfl, rfl⟩ rfl hA
  · obtain ⟨a1, a2, a3⟩ := i7
    unfold IvJb
    rw [ep, e0]
    refine ⟨rfl, by omega, fun j hj => ?_⟩
    by_cases q : j = n
    · subst q; rw [e1, e2]; exact ⟨h1, h2⟩
    · rw [e _ (by omega), e _ (by omega)]; exact a3 j hj
  · obtain ⟨p1, p2, p3, p4⟩ := l4
    refine ⟨?_, ?_, fun j hj => ?_, fun t ht => ?_⟩
    · rw [show jbR (jbC A n x1 x2 x3) n x1 x2 x3 (4 + 23) = _ from r27, upd_s, e0]
    · rw [show jbR (jbC A n x1 x2 x3) n x1 x2 x3 (4 + 23) = _ from r27, upd_o (by decide), e _ (by omega)]; exact p2
    · rw [show jbR (jbC A n x1 x2 x3) n x1 x2 x3 (4 + 24) = _ from r28, show jbR (jbC A n x1 x2 x3) n x1 x2 x3 (4 + 25) = _ from r29, show jbR (jbC A n x1 x2 x3) n x1 x2 x3 (4 + 26) = _ from r30]
      by_cases q : j = n
      · subst q; rw [e1, e2, e3, upd_s, upd_s, upd_s]; exact ⟨rfl, rfl, rfl⟩
      · rw [e _ (by omega), e _ (by omega), e _ (by omega), upd_o q, upd_o q, upd_o q]; exact p3 j hj
    · rw [e _ (by omega), e _ (by omega)]; exact p4 t ht
theorem p_job (hR : Rel c k E A T) (x1 x2 x3 : Int32) : PI c S (d + 5) k E A T 325 327 [.int x1, .int x2, .int x3] cdA := by
  have hp : A 40 2237 = nI (jn (A 40)) := (Rel_w hR).2.2.2.2.2.2.2.1.1
  have hp2 : jn (A 40) ≤ 6 := (Rel_w hR).2.2.2.2.2.2.2.1.2.1
  have h27 : A 27 0 = nI (jn (A 40)) := (Rel_p hR).1.trans hp
  by_cases q : wi x1 0 100000
  · by_cases q2 : wi x2 0 10000
    · by_cases q3 : wi x3 0 29
      · by_cases hn : jn (A 40) < 6
        · refine ⟨k, E, jbC A (jn (A 40)) x1 x2 x3, T, _, Rel_job hR (x3 := x3) (rg_wi q) (rg_wi q2) rfl hn, Or.inl ⟨some (.int (nI (jn (A 40) + 1))), rfl, fun L => ⟨L, ?_⟩, fun L => ⟨L, ?_, rfl⟩, rfl⟩⟩
          · have g0 : nI (jn (A 40)) < 6 := nI_lt (b := 6) hn (by decide)
            simp -implicitDefEqProofs only [x_X11_job, g_X11_job_0, c_in1 q, c_in1 q2, c_in1 q3, q_U, hv_0_1, hv_4_5, hc_27, x_X5_addJob, g_X5_addJob_0, hg_27_0, h27, if_pos g0, hv_27_2, hv_27_3, hv_27_4, sn_28 hn, sn_29 hn, sn_30 hn, hp_27_0, up_ne (show (27 : Nat) ≠ 28 by decide), up_ne (show (27 : Nat) ≠ 29 by decide), up_ne (show (27 : Nat) ≠ 30 by decide), up_ii, nI_p1, q_I, jbC]
          · have g0 : ¬ nI (jn (A 40)) = 6 := fun q => by rw [show (6 : Int32) = nI 6 from rfl, nI_eq (by omega) (by omega)] at q; omega
            have f0 : up (jbC A (jn (A 40)) x1 x2 x3) 39 0 0 40 2237 = nI (jn (A 40)) := hp
            have f2 : up (up (up (up (jbC A (jn (A 40)) x1 x2 x3) 39 0 0) 40 (2238 + 3 * jn (A 40)) x1) 40 (2238 + 3 * jn (A 40) + 1) x2) 40 (2238 + 3 * jn (A 40) + 2) x3 40 2237 = nI (jn (A 40)) := by
              rw [up_rr (by omega), up_rr (by omega), up_rr (by omega)]; exact hp
            simp -implicitDefEqProofs only [x_X12_job, g_X12_job_0, g_X12_job_43, hp_39_0, r_in1 q, r_in1 q2, r_in1 q3, q_I, i1_0, if_false, hc_39, r_thr0, i0_0, if_true, hv_39_1, aw_40_2237, sw_40_2237, f0, if_neg g0, ix_2238, nI_p1, nI_p2, sn_40 (show 2238 + 3 * jn (A 40) < 35877 by omega), sn_40 (show 2238 + 3 * jn (A 40) + 1 < 35877 by omega), sn_40 (show 2238 + 3 * jn (A 40) + 2 < 35877 by omega), q_nr, f2, jbR]
        · have hn' : jn (A 40) = 6 := by omega
          refine ⟨k, E, A, T, up A 39 0 0, Rel_thr hR 0, Or.inl ⟨some (.int (-1)), rfl, fun L => ⟨L, ?_⟩, fun L => ⟨L, ?_, rfl⟩, up_ii⟩⟩
          · have g0 : ¬ nI (jn (A 40)) < 6 := nI_nlt (b := 6) (by omega) (by omega)
            simp -implicitDefEqProofs only [x_X11_job, g_X11_job_0, c_in1 q, c_in1 q2, c_in1 q3, q_U, hv_0_1, hv_4_5, hc_27, x_X5_addJob, g_X5_addJob_0, hg_27_0, h27, if_neg g0, q_I]
          · have f0 : up A 39 0 0 40 2237 = 6 := by rw [show up A 39 0 0 40 2237 = A 40 2237 from rfl, hp, hn']; rfl
            simp -implicitDefEqProofs only [x_X12_job, g_X12_job_0, g_X12_job_43, hp_39_0, r_in1 q, r_in1 q2, r_in1 q3, q_I, i1_0, if_false, hc_39, r_thr0, i0_0, if_true, hv_39_1, aw_40_2237, f0]
      · refine ⟨k, E, A, T, up A 39 0 1, Rel_thr hR 1, Or.inr ⟨1, by decide, fun L => ⟨L, ?_⟩, fun L => ⟨L, some (.int 0), rfl, ?_, rfl⟩, up_ii⟩⟩
        · simp -implicitDefEqProofs only [x_X11_job, g_X11_job_0, c_in1 q, c_in1 q2, c_in0 q3, q_U, q_Ue]
        · simp -implicitDefEqProofs only [x_X12_job, g_X12_job_0, g_X12_job_43, hp_39_0, r_in1 q, r_in1 q2, r_in0 q3, q_I, i0_0, if_true, hc_39, r_thr1, i1_0, if_false, up_up]
    · refine ⟨k, E, A, T, up A 39 0 1, Rel_thr hR 1, Or.inr ⟨1, by decide, fun L => ⟨L, ?_⟩, fun L => ⟨L, some (.int 0), rfl, ?_, rfl⟩, up_ii⟩⟩
      · simp -implicitDefEqProofs only [x_X11_job, g_X11_job_0, c_in1 q, c_in0 q2, q_U, q_Ue]
      · simp -implicitDefEqProofs only [x_X12_job, g_X12_job_0, g_X12_job_43, hp_39_0, r_in1 q, r_in0 q2, q_I, i0_0, if_true, hc_39, r_thr1, i1_0, if_false, up_up]
  · refine ⟨k, E, A, T, up A 39 0 1, Rel_thr hR 1, Or.inr ⟨1, by decide, fun L => ⟨L, ?_⟩, fun L => ⟨L, some (.int 0), rfl, ?_, rfl⟩, up_ii⟩⟩
    · simp -implicitDefEqProofs only [x_X11_job, g_X11_job_0, c_in0 q, q_Ue]
    · simp -implicitDefEqProofs only [x_X12_job, g_X12_job_0, g_X12_job_43, hp_39_0, r_in0 q, q_I, i0_0, if_true, hc_39, r_thr1, i1_0, if_false, up_up]
def tbC (A : fA) (n : Nat) (x1 x2 : Int32) : fA := up (up (up A 31 n x1) 32 n x2) 27 1 (nI (n + 1))
def tbR (A : fA) (n : Nat) (x1 x2 : Int32) : fA := up (up (up (up A 39 0 0) 40 (2257 + 2 * n) x1) 40 (2257 + 2 * n + 1) x2) 40 2256 (nI (n + 1))
theorem Rel_trouble (hR : Rel c k E A T) {x1 x2 : Int32} (h1 : rg x1 (-100000) 100000) (h2 : rg x2 (-1000) 1000) {n : Nat} (hN : tn (A 40) = n) (hn : n < 4) : Rel (c + 1) k E (tbR (tbC A n x1 x2) n x1 x2) T := by
  obtain ⟨i0, i1, i2, i3, i4, i5, i6, i7, i8, i9, i10⟩ := Rel_w hR
  obtain ⟨l0, l1, l2, l3, l4, l5, l6, l7⟩ := hR.2.1
  have e : ∀ j, (j < 2256 ∨ 2265 ≤ j ∨ 2257 ≤ j ∧ j < 2257 + 2 * n ∨ 2257 + 2 * n + 2 ≤ j) → tbR (tbC A n x1 x2) n x1 x2 40 j = A 40 j := by intro j hj; simp -implicitDefEqProofs only [tbR, tbC, up]; (repeat rw [if_neg (by omega)])
  have hA : ∀ r, 49 ≤ r → tbR (tbC A n x1 x2) n x1 x2 r = A r := by intro r hr; funext j; simp -implicitDefEqProofs only [tbR, tbC, up]; (repeat rw [if_neg (by omega)])
  have e0 : tbR (tbC A n x1 x2) n x1 x2 40 2256 = nI (n + 1) := up_ii
  have e1 : tbR (tbC A n x1 x2) n x1 x2 40 (2257 + 2 * n) = x1 := by simp -implicitDefEqProofs only [tbR, tbC, up]; (repeat rw [if_neg (by omega)]); rw [if_pos (by simp)]
  have e2 : tbR (tbC A n x1 x2) n x1 x2 40 (2257 + 2 * n + 1) = x2 := by simp -implicitDefEqProofs only [tbR, tbC, up]; (repeat rw [if_neg (by omega)]); rw [if_pos (by simp)]
  have ep : tn (tbR (tbC A n x1 x2) n x1 x2 40) = n + 1 := by unfold tn; rw [e0, nI_clamp (by omega)]
  have r27 : tbR (tbC A n x1 x2) n x1 x2 27 = upd (A 27) 1 (nI (n + 1)) := by funext i; simp [tbR, tbC, up, upd]
  have r31 : tbR (tbC A n x1 x2) n x1 x2 31 = upd (A 31) n x1 := by funext i; simp [tbR, tbC, up, upd]
  have r32 : tbR (tbC A n x1 x2) n x1 x2 32 = upd (A 32) n x2 := by funext i; simp [tbR, tbC, up, upd]
  refine Rel_new hR ⟨Iv0_c (e 0 (by omega)) i0, IvF_c (fun i hi => e i (by omega)) i4.2.1 i1, IvRn_c (fun i h1 h2 => e i (by omega)) i2, IvPr_c (by rw [e 0 (by omega)]; exact Int32.lt_irrefl) (fun i h1 h2 => e i (by omega)) i3, IvHs_c (fun i hi => e i (by omega)) i4, IvGs_c (fun i h1 h2 => e i (by omega)) i5, IvLn_c (fun i h1 h2 => e i (by omega)) i6, IvJb_c (fun i h1 h2 => e i (by omega)) i7, ?_, IvRw_c (e _ (by omega)) i9, IvXs_c (fun i h1 h2 => e i (by omega)) i10⟩ ⟨l0.trans (e 0 (by omega)).symm, LkL_c (fun i h1 h2 => e i (by omega)) l1, LkM_c i3.2.1 (fun i h1 h2 => e i (by omega)) l2, LkG_c (fun i hi => e i (by omega)) l3, ?_, LkR_c (fun i h1 h2 => e i (by omega)) l5, LkH_A (LkH_c i4.2.1 (fun i hi => e i (by omega)) l6) (fun r hr => hA r hr.1), LkX_A (LkX_c i10.2.1 (fun i h1 h2 => e i (by omega)) l7) (fun r hr => hA r hr.1)⟩ rfl rfl rfl rfl rfl rfl ⟨rfl, rfl⟩ rfl hA
  · obtain ⟨a1, a2, a3⟩ := i8
    unfold IvTb
    rw [ep, e0]
    refine ⟨rfl, by omega, fun j hj => ?_⟩
    by_cases q : j = n
    · subst q; rw [e1, e2]; exact ⟨h1, h2⟩
    · rw [e _ (by omega), e _ (by omega)]; exact a3 j hj
  · obtain ⟨p1, p2, p3, p4⟩ := l4
    refine ⟨?_, ?_, fun j hj => ?_, fun t ht => ?_⟩
    · rw [show tbR (tbC A n x1 x2) n x1 x2 (4 + 23) = _ from r27, upd_o (by decide), e _ (by omega)]; exact p1
    · rw [show tbR (tbC A n x1 x2) n x1 x2 (4 + 23) = _ from r27, upd_s, e0]
    · rw [e _ (by omega), e _ (by omega), e _ (by omega)]; exact p3 j hj
    · rw [show tbR (tbC A n x1 x2) n x1 x2 (4 + 27) = _ from r31, show tbR (tbC A n x1 x2) n x1 x2 (4 + 28) = _ from r32]
      by_cases q : t = n
      · subst q; rw [e1, e2, upd_s, upd_s]; exact ⟨rfl, rfl⟩
      · rw [e _ (by omega), e _ (by omega), upd_o q, upd_o q]; exact p4 t ht
theorem p_trouble (hR : Rel c k E A T) (x1 x2 : Int32) : PI c S (d + 5) k E A T 329 331 [.int x1, .int x2] cdA := by
  have hp : A 40 2256 = nI (tn (A 40)) := (Rel_w hR).2.2.2.2.2.2.2.2.1.1
  have hp2 : tn (A 40) ≤ 4 := (Rel_w hR).2.2.2.2.2.2.2.2.1.2.1
  have h27 : A 27 1 = nI (tn (A 40)) := (Rel_p hR).2.1.trans hp
  by_cases q : wi x1 (-100000) 100000
  · by_cases q2 : wi x2 (-1000) 1000
    · by_cases hn : tn (A 40) < 4
      · refine ⟨k, E, tbC A (tn (A 40)) x1 x2, T, _, Rel_trouble hR (rg_wi q) (rg_wi q2) rfl hn, Or.inl ⟨some (.int (nI (tn (A 40) + 1))), rfl, fun L => ⟨L, ?_⟩, fun L => ⟨L, ?_, rfl⟩, rfl⟩⟩
        · have g0 : nI (tn (A 40)) < 4 := nI_lt (b := 4) hn (by decide)
          simp -implicitDefEqProofs only [x_X11_trouble, g_X11_trouble_0, c_in1 q, c_in1 q2, q_U, hv_0_1, hv_4_5, hc_27, x_X5_addTrouble, g_X5_addTrouble_0, hg_27_1, h27, if_pos g0, hv_27_5, hv_27_6, sn_31 hn, sn_32 hn, hp_27_1, up_ne (show (27 : Nat) ≠ 31 by decide), up_ne (show (27 : Nat) ≠ 32 by decide), up_ii, nI_p1, q_I, tbC]
        · have g0 : ¬ nI (tn (A 40)) = 4 := fun q => by rw [show (4 : Int32) = nI 4 from rfl, nI_eq (by omega) (by omega)] at q; omega
          have f0 : up (tbC A (tn (A 40)) x1 x2) 39 0 0 40 2256 = nI (tn (A 40)) := hp
          have f2 : up (up (up (tbC A (tn (A 40)) x1 x2) 39 0 0) 40 (2257 + 2 * tn (A 40)) x1) 40 (2257 + 2 * tn (A 40) + 1) x2 40 2256 = nI (tn (A 40)) := by
            rw [up_rr (by omega), up_rr (by omega)]; exact hp
          simp -implicitDefEqProofs only [x_X12_trouble, g_X12_trouble_0, g_X12_trouble_37, hp_39_0, r_in1 q, r_in1 q2, q_I, i1_0, if_false, hc_39, r_thr0, i0_0, if_true, hv_39_1, aw_40_2256, sw_40_2256, f0, if_neg g0, ix_2257, nI_p1, sn_40 (show 2257 + 2 * tn (A 40) < 35877 by omega), sn_40 (show 2257 + 2 * tn (A 40) + 1 < 35877 by omega), q_nr, f2, tbR]
      · have hn' : tn (A 40) = 4 := by omega
        refine ⟨k, E, A, T, up A 39 0 0, Rel_thr hR 0, Or.inl ⟨some (.int (-1)), rfl, fun L => ⟨L, ?_⟩, fun L => ⟨L, ?_, rfl⟩, up_ii⟩⟩
        · have g0 : ¬ nI (tn (A 40)) < 4 := nI_nlt (b := 4) (by omega) (by omega)
          simp -implicitDefEqProofs only [x_X11_trouble, g_X11_trouble_0, c_in1 q, c_in1 q2, q_U, hv_0_1, hv_4_5, hc_27, x_X5_addTrouble, g_X5_addTrouble_0, hg_27_1, h27, if_neg g0, q_I]
        · have f0 : up A 39 0 0 40 2256 = 4 := by rw [show up A 39 0 0 40 2256 = A 40 2256 from rfl, hp, hn']; rfl
          simp -implicitDefEqProofs only [x_X12_trouble, g_X12_trouble_0, g_X12_trouble_37, hp_39_0, r_in1 q, r_in1 q2, q_I, i1_0, if_false, hc_39, r_thr0, i0_0, if_true, hv_39_1, aw_40_2256, f0]
    · refine ⟨k, E, A, T, up A 39 0 1, Rel_thr hR 1, Or.inr ⟨1, by decide, fun L => ⟨L, ?_⟩, fun L => ⟨L, some (.int 0), rfl, ?_, rfl⟩, up_ii⟩⟩
      · simp -implicitDefEqProofs only [x_X11_trouble, g_X11_trouble_0, c_in1 q, c_in0 q2, q_U, q_Ue]
      · simp -implicitDefEqProofs only [x_X12_trouble, g_X12_trouble_0, g_X12_trouble_37, hp_39_0, r_in1 q, r_in0 q2, q_I, i0_0, if_true, hc_39, r_thr1, i1_0, if_false, up_up]
  · refine ⟨k, E, A, T, up A 39 0 1, Rel_thr hR 1, Or.inr ⟨1, by decide, fun L => ⟨L, ?_⟩, fun L => ⟨L, some (.int 0), rfl, ?_, rfl⟩, up_ii⟩⟩
    · simp -implicitDefEqProofs only [x_X11_trouble, g_X11_trouble_0, c_in0 q, q_Ue]
    · simp -implicitDefEqProofs only [x_X12_trouble, g_X12_trouble_0, g_X12_trouble_37, hp_39_0, r_in0 q, q_I, i0_0, if_true, hc_39, r_thr1, i1_0, if_false, up_up]
end JobsB
