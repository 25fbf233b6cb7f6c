/-! prices are told, and learnt -/
section PriceB
variable {S : sT} {d c : Nat} {k : Value} {E : List dsc} {A : fA} {L : fL} {T : fT}
def prA (A : fA) (n : Nat) (x1 x2 x3 s : Int32) : fA := up (up (up (up (up A 18 n x1) 19 n x2) 20 n x3) 21 n s) 16 0 (nI (n + 1))
def prB (A : fA) (n : Nat) (x1 x2 x3 s : Int32) : fA := up (up (up (up (up (up A 39 0 0) 40 (883 + 4 * n) x1) 40 (883 + 4 * n + 1) x2) 40 (883 + 4 * n + 2) x3) 40 (883 + 4 * n + 3) s) 40 882 (nI (n + 1))
theorem Rel_price (hR : Rel c k E A T) {x1 x2 x3 : Int32} (h1 : rg x1 1 4) (h3 : rg x3 0 100) (hn : pn (A 40) < 200) : Rel (c + 1) k E (prB (prA A (pn (A 40)) x1 x2 x3 (A 40 0)) (pn (A 40)) x1 x2 x3 (A 40 0)) T := by
  obtain ⟨i0, i1, i2, i3, i4, i5, i6, i7, i8, i9, i10⟩ := Rel_w hR
  obtain ⟨l0, l1, l2, l3, l4, l5, l6, l7⟩ := hR.2.1
  generalize hN : pn (A 40) = n at *
  generalize hA' : prB (prA A n x1 x2 x3 (A 40 0)) n x1 x2 x3 (A 40 0) = A'
  have e : ∀ j, (j < 882 ∨ 1683 ≤ j ∨ 883 ≤ j ∧ j < 883 + 4 * n) → A' 40 j = A 40 j := by
    intro j hj; subst hA'; unfold prB prA
    rw [up_rr (by omega), up_rr (by omega), up_rr (by omega), up_rr (by omega), up_rr (by omega), up_ne (by omega), up_ne (by omega), up_ne (by omega), up_ne (by omega), up_ne (by omega), up_ne (by omega)]
  have hA : ∀ r, 49 ≤ r → A' r = A r := by
    intro r hr; subst hA'; unfold prB prA; rw [up_ne (by omega), up_ne (by omega), up_ne (by omega), up_ne (by omega), up_ne (by omega), up_ne (by omega), up_ne (by omega), up_ne (by omega), up_ne (by omega), up_ne (by omega), up_ne (by omega)]
  have e0 : A' 40 882 = nI (n + 1) := by subst hA'; exact up_ii
  have e1 : A' 40 (883 + 4 * n) = x1 := by subst hA'; unfold prB; rw [up_rr (by omega), up_rr (by omega), up_rr (by omega), up_rr (by omega), up_ii]
  have e2 : A' 40 (883 + 4 * n + 1) = x2 := by subst hA'; unfold prB; rw [up_rr (by omega), up_rr (by omega), up_rr (by omega), up_ii]
  have e3 : A' 40 (883 + 4 * n + 2) = x3 := by subst hA'; unfold prB; rw [up_rr (by omega), up_rr (by omega), up_ii]
  have e4 : A' 40 (883 + 4 * n + 3) = A 40 0 := by subst hA'; unfold prB; rw [up_rr (by omega), up_ii]
  have ep : pn (A' 40) = n + 1 := by unfold pn; rw [e0, nI_clamp (by omega)]
  have r16 : A' 16 = upd (A 16) 0 (nI (n + 1)) := by subst hA'; unfold prB prA; rw [up_ne (by omega), up_ne (by omega), up_ne (by omega), up_ne (by omega), up_ne (by omega), up_ne (by omega), up_eq]; rw [up_ne (by omega), up_ne (by omega), up_ne (by omega), up_ne (by omega)]
  have r18 : A' 18 = upd (A 18) n x1 := by subst hA'; unfold prB prA; rw [up_ne (by omega), up_ne (by omega), up_ne (by omega), up_ne (by omega), up_ne (by omega), up_ne (by omega), up_ne (by omega), up_ne (by omega), up_ne (by omega), up_ne (by omega), up_eq]
  have r19 : A' 19 = upd (A 19) n x2 := by subst hA'; unfold prB prA; rw [up_ne (by omega), up_ne (by omega), up_ne (by omega), up_ne (by omega), up_ne (by omega), up_ne (by omega), up_ne (by omega), up_ne (by omega), up_ne (by omega), up_eq, up_ne (by omega)]
  have r20 : A' 20 = upd (A 20) n x3 := by subst hA'; unfold prB prA; rw [up_ne (by omega), up_ne (by omega), up_ne (by omega), up_ne (by omega), up_ne (by omega), up_ne (by omega), up_ne (by omega), up_ne (by omega), up_eq, up_ne (by omega), up_ne (by omega)]
  have r21 : A' 21 = upd (A 21) n (A 40 0) := by subst hA'; unfold prB prA; rw [up_ne (by omega), up_ne (by omega), up_ne (by omega), up_ne (by omega), up_ne (by omega), up_ne (by omega), up_ne (by omega), up_eq, up_ne (by omega), up_ne (by omega), up_ne (by omega)]
  have rr : ∀ r, r < 39 → r ≠ 16 → r ≠ 18 → r ≠ 19 → r ≠ 20 → r ≠ 21 → A' r = A r := by
    intro r h1 h2 h3 h4 h5 h6; subst hA'; unfold prB prA; rw [up_ne (by omega), up_ne (by omega), up_ne (by omega), up_ne (by omega), up_ne (by omega), up_ne (by omega), up_ne (by omega), up_ne (by omega), up_ne (by omega), up_ne (by omega), up_ne (by omega)]
  have r39 : ∀ j, j ≠ 0 → A' 39 j = A 39 j := by
    intro j hj; subst hA'; unfold prB prA; rw [up_ne (by omega), up_ne (by omega), up_ne (by omega), up_ne (by omega), up_ne (by omega), up_rr hj, up_ne (by omega), up_ne (by omega), up_ne (by omega), up_ne (by omega), up_ne (by omega)]
  have r41 : A' 41 = A 41 := by subst hA'; rfl
  have r42 : A' 42 = A 42 := by subst hA'; rfl
  have fr : ∀ r, r < 12 ∨ 18 ≤ r → r < 35 → A' (4 + r) = A (4 + r) := fun r h1 h2 => rr _ (by omega) (by omega) (by omega) (by omega) (by omega) (by omega)
  refine Rel_new hR ⟨Iv0_c (e 0 (by omega)) i0, IvF_c (fun i hi => e i (by omega)) i4.2.1 i1, IvRn_c (fun i h1 h2 => e i (by omega)) i2, ?_, IvHs_c (fun i hi => e i (by omega)) i4, IvGs_c (fun i h1 h2 => e i (by omega)) i5, IvLn_c (fun i h1 h2 => e i (by omega)) i6, IvJb_c (fun i h1 h2 => e i (by omega)) i7, IvTb_c (fun i h1 h2 => e i (by omega)) i8, IvRw_c (e _ (by omega)) i9, IvXs_c (fun i h1 h2 => e i (by omega)) i10⟩ ?_ (rr 1 (by decide) (by decide) (by decide) (by decide) (by decide) (by decide)) (rr 2 (by decide) (by decide) (by decide) (by decide) (by decide) (by decide)) r42 (r39 3 (by decide)) (r39 5 (by decide)) (r39 10 (by decide)) (by rw [rr 36 (by decide) (by decide) (by decide) (by decide) (by decide) (by decide)]; exact ⟨rfl, rfl⟩) r41 hA
  · unfold IvPr
    rw [ep, e0, e 0 (by omega)]
    refine ⟨rfl, by omega, fun j hj => ?_⟩
    by_cases q : j = n
    · subst q
      rw [e1, e3, e4]
      exact ⟨h1, h3, Int32.lt_irrefl⟩
    · rw [e _ (by omega), e _ (by omega), e _ (by omega)]
      exact i3.2.2 j (by omega)
  · unfold LkA
    rw [show A' 4 = A 4 from fr 0 (by omega) (by omega), fr 6 (by omega) (by omega), fr 18 (by omega) (by omega), fr 19 (by omega) (by omega), fr 20 (by omega) (by omega), fr 21 (by omega) (by omega), fr 22 (by omega) (by omega), fr 23 (by omega) (by omega), fr 24 (by omega) (by omega), fr 25 (by omega) (by omega), fr 26 (by omega) (by omega), fr 27 (by omega) (by omega), fr 28 (by omega) (by omega), fr 29 (by omega) (by omega), fr 30 (by omega) (by omega), fr 31 (by omega) (by omega), fr 7 (by omega) (by omega), fr 8 (by omega) (by omega), fr 1 (by omega) (by omega), fr 3 (by omega) (by omega), fr 4 (by omega) (by omega)]
    refine ⟨l0.trans (e 0 (by omega)).symm, LkL_c (fun i h1 h2 => e i (by omega)) l1, ?_, LkG_c (fun i hi => e i (by omega)) l3, LkP_c (fun i h1 h2 => e i (by omega)) l4, LkR_c (fun i h1 h2 => e i (by omega)) l5, LkH_A (LkH_c i4.2.1 (fun i hi => e i (by omega)) l6) (fun r hr => hA r hr.1), LkX_A (LkX_c i10.2.1 (fun i h1 h2 => e i (by omega)) l7) (fun r hr => hA r hr.1)⟩
    obtain ⟨m1, m2, m3⟩ := l2
    refine ⟨?_, fun z hz => ?_, fun j hj => ?_⟩
    · rw [show A' (4 + 12) = _ from r16, upd_s, e0]
    · rw [e _ (by omega), e _ (by omega), show A' (4 + 13) = A 17 from rr 17 (by decide) (by decide) (by decide) (by decide) (by decide) (by decide)]; exact m2 z hz
    · rw [ep] at hj
      rw [show A' (4 + 14) = _ from r18, show A' (4 + 15) = _ from r19, show A' (4 + 16) = _ from r20, show A' (4 + 17) = _ from r21]
      by_cases q : j = n
      · subst q
        rw [e1, e2, e3, e4, upd_s, upd_s, upd_s, upd_s]
        exact ⟨rfl, rfl, rfl, rfl⟩
      · rw [e _ (by omega), e _ (by omega), e _ (by omega), e _ (by omega), upd_o q, upd_o q, upd_o q, upd_o q]
        exact m3 j (by omega)
theorem p_price (hR : Rel c k E A T) (x1 x2 x3 : Int32) : PI c S (d + 5) k E A T 46 49 [.int x1, .int x2, .int x3] cdA := by
  have hp : A 40 882 = nI (pn (A 40)) := (Rel_w hR).2.2.2.1.1
  have hp2 : pn (A 40) ≤ 200 := (Rel_w hR).2.2.2.1.2.1
  have h16 : A 16 0 = nI (pn (A 40)) := (Rel_m hR).1.trans hp
  have hs := Rel_s hR
  by_cases q : wi x1 1 4
  · by_cases q2 : wi x2 0 100
    · by_cases q3 : wi x3 0 100
      · by_cases hn : pn (A 40) < 200
        · refine ⟨k, E, prA A (pn (A 40)) x1 x2 x3 (A 40 0), T, _, Rel_price hR (x2 := x2) (rg_wi q) (rg_wi q3) hn, Or.inl ⟨some (.int (nI (pn (A 40) + 1))), rfl, fun L => ⟨L, ?_⟩, fun L => ⟨L, ?_, rfl⟩, rfl⟩⟩
          · have g0 : nI (pn (A 40)) < 200 := nI_lt (b := 200) hn (by decide)
            simp -implicitDefEqProofs only [x_X11_price, g_X11_price_0, c_in1 q, c_in1 q2, c_in1 q3, q_U, hv_0_1, hv_4_3, hg_4_7, hc_16, hs, x_X4_tell, g_X4_tell_0, hg_16_0, h16, if_pos g0, hv_16_2, hv_16_3, hv_16_4, hv_16_5, sn_18 hn, sn_19 hn, sn_20 hn, sn_21 hn, hp_16_0, up_ne (show (16 : Nat) ≠ 18 by decide), up_ne (show (16 : Nat) ≠ 19 by decide), up_ne (show (16 : Nat) ≠ 20 by decide), up_ne (show (16 : Nat) ≠ 21 by decide), up_ii, nI_p1, q_I, prA]
          · have g0 : ¬ nI (pn (A 40)) = 200 := fun q => by rw [show (200 : Int32) = nI 200 from rfl, nI_eq (by omega) (by omega)] at q; omega
            simp -implicitDefEqProofs only [x_X12_price, g_X12_price_0, g_X12_price_40, hp_39_0, r_in1 q, r_in1 q2, r_in1 q3, q_I, i1_0, if_false, hc_39, r_thr0, i0_0, if_true, hv_39_1, aw_40_882, sw_40_882]
            have f0 : up (prA A (pn (A 40)) x1 x2 x3 (A 40 0)) 39 0 0 40 882 = nI (pn (A 40)) := hp
            have f1 : ∀ y, up (up (up (up (prA A (pn (A 40)) x1 x2 x3 (A 40 0)) 39 0 0) 40 (883 + 4 * pn (A 40)) x1) 40 (883 + 4 * pn (A 40) + 1) x2) 40 (883 + 4 * pn (A 40) + 2) y 40 0 = A 40 0 := fun y => by
              rw [up_rr (by omega), up_rr (by omega), up_rr (by omega)]; rfl
            have f2 : ∀ y, up (up (up (up (up (prA A (pn (A 40)) x1 x2 x3 (A 40 0)) 39 0 0) 40 (883 + 4 * pn (A 40)) x1) 40 (883 + 4 * pn (A 40) + 1) x2) 40 (883 + 4 * pn (A 40) + 2) x3) 40 (883 + 4 * pn (A 40) + 3) y 40 882 = nI (pn (A 40)) := fun y => by
              rw [up_rr (by omega), up_rr (by omega), up_rr (by omega), up_rr (by omega)]; exact hp
            simp -implicitDefEqProofs only [f0, if_neg g0, ix_883, nI_p1, nI_p2, nI_p3, sn_40 (show 883 + 4 * pn (A 40) < 35877 by omega), sn_40 (show 883 + 4 * pn (A 40) + 1 < 35877 by omega), sn_40 (show 883 + 4 * pn (A 40) + 2 < 35877 by omega), sn_40 (show 883 + 4 * pn (A 40) + 3 < 35877 by omega), hv_39_1, hc_39, r_season, q_I, f1, q_nr, aw_40_882, sw_40_882, f2, prB]
        · have hn' : pn (A 40) = 200 := by omega
          refine ⟨k, E, A, T, up A 39 0 0, Rel_thr hR 0, Or.inl ⟨some (.int (-1)), rfl, fun L => ⟨L, ?_⟩, fun L => ⟨L, ?_, rfl⟩, up_ii⟩⟩
          · have g0 : ¬ nI (pn (A 40)) < 200 := nI_nlt (b := 200) (by omega) (by omega)
            simp -implicitDefEqProofs only [x_X11_price, g_X11_price_0, c_in1 q, c_in1 q2, c_in1 q3, q_U, hv_0_1, hv_4_3, hg_4_7, hc_16, hs, x_X4_tell, g_X4_tell_0, hg_16_0, h16, if_neg g0, q_I]
          · have f0 : up A 39 0 0 40 882 = 200 := by rw [show up A 39 0 0 40 882 = A 40 882 from rfl, hp, hn']; rfl
            simp -implicitDefEqProofs only [x_X12_price, g_X12_price_0, g_X12_price_40, hp_39_0, r_in1 q, r_in1 q2, r_in1 q3, q_I, i1_0, if_false, hc_39, r_thr0, i0_0, if_true, hv_39_1, aw_40_882, f0]
      · refine ⟨k, E, A, T, up A 39 0 1, Rel_thr hR 1, Or.inr ⟨1, by decide, fun L => ⟨L, ?_⟩, fun L => ⟨L, some (.int 0), rfl, ?_, rfl⟩, up_ii⟩⟩
        · simp -implicitDefEqProofs only [x_X11_price, g_X11_price_0, c_in1 q, c_in1 q2, c_in0 q3, q_U, q_Ue]
        · simp -implicitDefEqProofs only [x_X12_price, g_X12_price_0, g_X12_price_40, hp_39_0, r_in1 q, r_in1 q2, r_in0 q3, q_I, i0_0, if_true, hc_39, r_thr1, i1_0, if_false, up_up]
    · refine ⟨k, E, A, T, up A 39 0 1, Rel_thr hR 1, Or.inr ⟨1, by decide, fun L => ⟨L, ?_⟩, fun L => ⟨L, some (.int 0), rfl, ?_, rfl⟩, up_ii⟩⟩
      · simp -implicitDefEqProofs only [x_X11_price, g_X11_price_0, c_in1 q, c_in0 q2, q_U, q_Ue]
      · simp -implicitDefEqProofs only [x_X12_price, g_X12_price_0, g_X12_price_40, hp_39_0, r_in1 q, r_in0 q2, q_I, i0_0, if_true, hc_39, r_thr1, i1_0, if_false, up_up]
  · refine ⟨k, E, A, T, up A 39 0 1, Rel_thr hR 1, Or.inr ⟨1, by decide, fun L => ⟨L, ?_⟩, fun L => ⟨L, some (.int 0), rfl, ?_, rfl⟩, up_ii⟩⟩
    · simp -implicitDefEqProofs only [x_X11_price, g_X11_price_0, c_in0 q, q_Ue]
    · simp -implicitDefEqProofs only [x_X12_price, g_X12_price_0, g_X12_price_40, hp_39_0, r_in0 q, q_I, i0_0, if_true, hc_39, r_thr1, i1_0, if_false, up_up]
end PriceB
