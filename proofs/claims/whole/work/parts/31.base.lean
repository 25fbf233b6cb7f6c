/-! by program: what lies where; reading and writing there -/
section Base
def D0 (k : Value) : List dsc := [.inr (14, [some (.ref 1), some (.ref 4), some (.ref 38), some k]), .inr (9, [some (.ref 2), none, none, none, none, none, none, none, some (.ref 3), none, none, none]), .inl (1, 400), .inl (0, 496), .inr (3, [some (.ref 5), some (.ref 9), some (.ref 11), some (.ref 16), some (.ref 22), some (.ref 27), some (.ref 33), none, some (.ref 36), some (.ref 37)]), .inr (12, [none, some (.ref 6), some (.ref 7), some (.ref 8)]), .inl (4, 12), .inl (0, 12), .inl (0, 12), .inr (5, [some (.ref 10)]), .inl (0, 672), .inr (4, [none, some (.ref 12), some (.ref 13), some (.ref 14)]), .inl (0, 312), .inl (4, 24), .inr (11, [none, some (.ref 15)]), .inl (0, 0), .inr (7, [none, some (.ref 17), some (.ref 18), some (.ref 19), some (.ref 20), some (.ref 21)]), .inl (0, 101), .inl (0, 200), .inl (0, 200), .inl (0, 200), .inl (0, 200), .inr (6, [none, none, none, none, none, none, none, some (.ref 23), none, some (.ref 24), some (.ref 25), some (.ref 26)]), .inl (0, 240), .inl (0, 12), .inl (0, 12), .inl (0, 12), .inr (8, [none, none, some (.ref 28), some (.ref 29), some (.ref 30), some (.ref 31), some (.ref 32)]), .inl (0, 6), .inl (0, 6), .inl (0, 6), .inl (0, 4), .inl (0, 4), .inr (10, [none, some (.ref 34), some (.ref 35)]), .inl (0, 192), .inl (0, 192), .inl (0, 6), .inl (3, 51), .inr (13, [some (.ref 4), some (.ref 9), some (.ref 11), some (.ref 22)]), .inr (15, [none, some (.ref 40), some (.ref 41), none, some (.ref 42), none, none, none, none, none, none, some (.ref 43), none, some (.ref 44), some (.ref 45), some (.ref 46), none, some (.ref 47)]), .inl (0, 35877), .inl (0, 34979), .inl (1, 400), .inl (0, 5), .inl (3, 400), .inl (3, 11), .inl (0, 12), .inl (2, 24), .inl (3, 1)]
def Hh (k : Value) (E : List dsc) (A : fA) (L : fL) (T : fT) : pH := HP (D0 k ++ E) A L T
variable {k : Value} {E : List dsc} {A : fA} {L : fL} {T : fT}
theorem dd_0 : (D0 k ++ E)[0]? = some (.inr (14, [some (.ref 1), some (.ref 4), some (.ref 38), some k])) := rfl
theorem hc_0 {κ : rO} : rC (Hh k E A L T) (.ref 0) 14 κ = κ := rC_H dd_0
theorem hv_0_0 {κ : Value → rO} : gV (Hh k E A L T) (.ref 0) 14 0 κ = κ (.ref 1) := gV_H dd_0 rfl rfl
theorem hv_0_1 {κ : Value → rO} : gV (Hh k E A L T) (.ref 0) 14 1 κ = κ (.ref 4) := gV_H dd_0 rfl rfl
theorem hv_0_2 {κ : Value → rO} : gV (Hh k E A L T) (.ref 0) 14 2 κ = κ (.ref 38) := gV_H dd_0 rfl rfl
theorem dd_1 : (D0 k ++ E)[1]? = some (.inr (9, [some (.ref 2), none, none, none, none, none, none, none, some (.ref 3), none, none, none])) := rfl
theorem hc_1 {κ : rO} : rC (Hh k E A L T) (.ref 1) 9 κ = κ := rC_H dd_1
theorem hv_1_0 {κ : Value → rO} : gV (Hh k E A L T) (.ref 1) 9 0 κ = κ (.ref 2) := gV_H dd_1 rfl rfl
theorem hg_1_1 {κ : Int32 → rO} : gI (Hh k E A L T) (.ref 1) 9 1 κ = κ (A 1 1) := gI_H dd_1 rfl
theorem hp_1_1 {x : Int32} {κ : pH → rO} : pF (Hh k E A L T) (.ref 1) 9 1 (.int x) κ = κ (Hh k E (up A 1 1 x) L T) := pF_H dd_1 rfl
theorem hg_1_2 {κ : Int32 → rO} : gI (Hh k E A L T) (.ref 1) 9 2 κ = κ (A 1 2) := gI_H dd_1 rfl
theorem hp_1_2 {x : Int32} {κ : pH → rO} : pF (Hh k E A L T) (.ref 1) 9 2 (.int x) κ = κ (Hh k E (up A 1 2 x) L T) := pF_H dd_1 rfl
theorem hg_1_3 {κ : Int32 → rO} : gI (Hh k E A L T) (.ref 1) 9 3 κ = κ (A 1 3) := gI_H dd_1 rfl
theorem hp_1_3 {x : Int32} {κ : pH → rO} : pF (Hh k E A L T) (.ref 1) 9 3 (.int x) κ = κ (Hh k E (up A 1 3 x) L T) := pF_H dd_1 rfl
theorem hg_1_4 {κ : Int32 → rO} : gI (Hh k E A L T) (.ref 1) 9 4 κ = κ (A 1 4) := gI_H dd_1 rfl
theorem hp_1_4 {x : Int32} {κ : pH → rO} : pF (Hh k E A L T) (.ref 1) 9 4 (.int x) κ = κ (Hh k E (up A 1 4 x) L T) := pF_H dd_1 rfl
theorem hg_1_5 {κ : Int32 → rO} : gI (Hh k E A L T) (.ref 1) 9 5 κ = κ (A 1 5) := gI_H dd_1 rfl
theorem hp_1_5 {x : Int32} {κ : pH → rO} : pF (Hh k E A L T) (.ref 1) 9 5 (.int x) κ = κ (Hh k E (up A 1 5 x) L T) := pF_H dd_1 rfl
theorem hg_1_6 {κ : Int32 → rO} : gI (Hh k E A L T) (.ref 1) 9 6 κ = κ (A 1 6) := gI_H dd_1 rfl
theorem hp_1_6 {x : Int32} {κ : pH → rO} : pF (Hh k E A L T) (.ref 1) 9 6 (.int x) κ = κ (Hh k E (up A 1 6 x) L T) := pF_H dd_1 rfl
theorem hg_1_7 {κ : Int32 → rO} : gI (Hh k E A L T) (.ref 1) 9 7 κ = κ (A 1 7) := gI_H dd_1 rfl
theorem hp_1_7 {x : Int32} {κ : pH → rO} : pF (Hh k E A L T) (.ref 1) 9 7 (.int x) κ = κ (Hh k E (up A 1 7 x) L T) := pF_H dd_1 rfl
theorem hv_1_8 {κ : Value → rO} : gV (Hh k E A L T) (.ref 1) 9 8 κ = κ (.ref 3) := gV_H dd_1 rfl rfl
theorem hg_1_9 {κ : Int32 → rO} : gI (Hh k E A L T) (.ref 1) 9 9 κ = κ (A 1 9) := gI_H dd_1 rfl
theorem hp_1_9 {x : Int32} {κ : pH → rO} : pF (Hh k E A L T) (.ref 1) 9 9 (.int x) κ = κ (Hh k E (up A 1 9 x) L T) := pF_H dd_1 rfl
theorem hg_1_10 {κ : Int32 → rO} : gI (Hh k E A L T) (.ref 1) 9 10 κ = κ (A 1 10) := gI_H dd_1 rfl
theorem hp_1_10 {x : Int32} {κ : pH → rO} : pF (Hh k E A L T) (.ref 1) 9 10 (.int x) κ = κ (Hh k E (up A 1 10 x) L T) := pF_H dd_1 rfl
theorem hg_1_11 {κ : Int32 → rO} : gI (Hh k E A L T) (.ref 1) 9 11 κ = κ (A 1 11) := gI_H dd_1 rfl
theorem hp_1_11 {x : Int32} {κ : pH → rO} : pF (Hh k E A L T) (.ref 1) 9 11 (.int x) κ = κ (Hh k E (up A 1 11 x) L T) := pF_H dd_1 rfl
theorem dd_2 : (D0 k ++ E)[2]? = some (.inl (1, 400)) := rfl
theorem hl_2 {κ : Int32 → rO} : aLen (Hh k E A L T) (.ref 2) κ = κ (nI 400) := aLen_H dd_2 (by decide)
theorem ha_2 {i : Int32} {κ : Int32 → rO} (h0 : ¬ i < 0) (h1 : i.toNatClampNeg < 400) : aI (Hh k E A L T) (.ref 2) 1 i κ = κ (A 2 i.toNatClampNeg) := aI_H dd_2 (by decide) h0 h1
theorem hs_2 {i x : Int32} {κ : pH → rO} (h0 : ¬ i < 0) (h1 : i.toNatClampNeg < 400) : sI (Hh k E A L T) (.ref 2) 1 i x κ = κ (Hh k E (up A 2 i.toNatClampNeg x) L T) := sI_H dd_2 (by decide) h0 h1
theorem an_2 {j : Nat} {κ : Int32 → rO} (h1 : j < 400) : aI (Hh k E A L T) (.ref 2) 1 (nI j) κ = κ (A 2 j) := by rw [ha_2 (nI_pos (by omega)) (by rw [nI_clamp (by omega)]; exact h1), nI_clamp (by omega)]
theorem sn_2 {j : Nat} {x : Int32} {κ : pH → rO} (h1 : j < 400) : sI (Hh k E A L T) (.ref 2) 1 (nI j) x κ = κ (Hh k E (up A 2 j x) L T) := by rw [hs_2 (nI_pos (by omega)) (by rw [nI_clamp (by omega)]; exact h1), nI_clamp (by omega)]
theorem dd_3 : (D0 k ++ E)[3]? = some (.inl (0, 496)) := rfl
theorem hl_3 {κ : Int32 → rO} : aLen (Hh k E A L T) (.ref 3) κ = κ (nI 496) := aLen_H dd_3 (by decide)
theorem ha_3 {i : Int32} {κ : Int32 → rO} (h0 : ¬ i < 0) (h1 : i.toNatClampNeg < 496) : aI (Hh k E A L T) (.ref 3) 0 i κ = κ (A 3 i.toNatClampNeg) := aI_H dd_3 (by decide) h0 h1
theorem hs_3 {i x : Int32} {κ : pH → rO} (h0 : ¬ i < 0) (h1 : i.toNatClampNeg < 496) : sI (Hh k E A L T) (.ref 3) 0 i x κ = κ (Hh k E (up A 3 i.toNatClampNeg x) L T) := sI_H dd_3 (by decide) h0 h1
theorem an_3 {j : Nat} {κ : Int32 → rO} (h1 : j < 496) : aI (Hh k E A L T) (.ref 3) 0 (nI j) κ = κ (A 3 j) := by rw [ha_3 (nI_pos (by omega)) (by rw [nI_clamp (by omega)]; exact h1), nI_clamp (by omega)]
theorem sn_3 {j : Nat} {x : Int32} {κ : pH → rO} (h1 : j < 496) : sI (Hh k E A L T) (.ref 3) 0 (nI j) x κ = κ (Hh k E (up A 3 j x) L T) := by rw [hs_3 (nI_pos (by omega)) (by rw [nI_clamp (by omega)]; exact h1), nI_clamp (by omega)]
theorem dd_4 : (D0 k ++ E)[4]? = some (.inr (3, [some (.ref 5), some (.ref 9), some (.ref 11), some (.ref 16), some (.ref 22), some (.ref 27), some (.ref 33), none, some (.ref 36), some (.ref 37)])) := rfl
theorem hc_4 {κ : rO} : rC (Hh k E A L T) (.ref 4) 3 κ = κ := rC_H dd_4
theorem hv_4_0 {κ : Value → rO} : gV (Hh k E A L T) (.ref 4) 3 0 κ = κ (.ref 5) := gV_H dd_4 rfl rfl
theorem hv_4_1 {κ : Value → rO} : gV (Hh k E A L T) (.ref 4) 3 1 κ = κ (.ref 9) := gV_H dd_4 rfl rfl
theorem hv_4_2 {κ : Value → rO} : gV (Hh k E A L T) (.ref 4) 3 2 κ = κ (.ref 11) := gV_H dd_4 rfl rfl
theorem hv_4_3 {κ : Value → rO} : gV (Hh k E A L T) (.ref 4) 3 3 κ = κ (.ref 16) := gV_H dd_4 rfl rfl
theorem hv_4_4 {κ : Value → rO} : gV (Hh k E A L T) (.ref 4) 3 4 κ = κ (.ref 22) := gV_H dd_4 rfl rfl
theorem hv_4_5 {κ : Value → rO} : gV (Hh k E A L T) (.ref 4) 3 5 κ = κ (.ref 27) := gV_H dd_4 rfl rfl
theorem hv_4_6 {κ : Value → rO} : gV (Hh k E A L T) (.ref 4) 3 6 κ = κ (.ref 33) := gV_H dd_4 rfl rfl
theorem hg_4_7 {κ : Int32 → rO} : gI (Hh k E A L T) (.ref 4) 3 7 κ = κ (A 4 7) := gI_H dd_4 rfl
theorem hp_4_7 {x : Int32} {κ : pH → rO} : pF (Hh k E A L T) (.ref 4) 3 7 (.int x) κ = κ (Hh k E (up A 4 7 x) L T) := pF_H dd_4 rfl
theorem hv_4_8 {κ : Value → rO} : gV (Hh k E A L T) (.ref 4) 3 8 κ = κ (.ref 36) := gV_H dd_4 rfl rfl
theorem hv_4_9 {κ : Value → rO} : gV (Hh k E A L T) (.ref 4) 3 9 κ = κ (.ref 37) := gV_H dd_4 rfl rfl
theorem dd_5 : (D0 k ++ E)[5]? = some (.inr (12, [none, some (.ref 6), some (.ref 7), some (.ref 8)])) := rfl
theorem hc_5 {κ : rO} : rC (Hh k E A L T) (.ref 5) 12 κ = κ := rC_H dd_5
theorem hg_5_0 {κ : Int32 → rO} : gI (Hh k E A L T) (.ref 5) 12 0 κ = κ (A 5 0) := gI_H dd_5 rfl
theorem hp_5_0 {x : Int32} {κ : pH → rO} : pF (Hh k E A L T) (.ref 5) 12 0 (.int x) κ = κ (Hh k E (up A 5 0 x) L T) := pF_H dd_5 rfl
theorem hv_5_1 {κ : Value → rO} : gV (Hh k E A L T) (.ref 5) 12 1 κ = κ (.ref 6) := gV_H dd_5 rfl rfl
theorem hv_5_2 {κ : Value → rO} : gV (Hh k E A L T) (.ref 5) 12 2 κ = κ (.ref 7) := gV_H dd_5 rfl rfl
theorem hv_5_3 {κ : Value → rO} : gV (Hh k E A L T) (.ref 5) 12 3 κ = κ (.ref 8) := gV_H dd_5 rfl rfl
theorem dd_6 : (D0 k ++ E)[6]? = some (.inl (4, 12)) := rfl
theorem hl_6 {κ : Int32 → rO} : aLen (Hh k E A L T) (.ref 6) κ = κ (nI 12) := aLen_H dd_6 (by decide)
theorem an_6 {j : Nat} {κ : Value → rO} (h1 : j < 12) : aT (Hh k E A L T) (.ref 6) (nI j) κ = κ (va_rf (T 6 j)) := by rw [Hh, aT_H dd_6 (nI_pos (by omega)) (by rw [nI_clamp (by omega)]; exact h1), nI_clamp (by omega)]
theorem sn_6 {j q : Nat} {ks : List (Option Value)} {κ : pH → rO} (h1 : j < 12) (hq : (D0 k ++ E)[q]? = some (.inr (11, ks))) : sTx (Hh k E A L T) (.ref 6) (nI j) (.ref q) κ = κ (Hh k E A L (upT T 6 j (some q))) := by rw [Hh, sTx_H dd_6 hq (nI_pos (by omega)) (by rw [nI_clamp (by omega)]; exact h1), nI_clamp (by omega), Hh]
theorem sz_6 {j : Nat} {κ : pH → rO} (h1 : j < 12) : sTx (Hh k E A L T) (.ref 6) (nI j) .null κ = κ (Hh k E A L (upT T 6 j none)) := by rw [Hh, sTx_N dd_6 (nI_pos (by omega)) (by rw [nI_clamp (by omega)]; exact h1), nI_clamp (by omega), Hh]
theorem dd_7 : (D0 k ++ E)[7]? = some (.inl (0, 12)) := rfl
theorem hl_7 {κ : Int32 → rO} : aLen (Hh k E A L T) (.ref 7) κ = κ (nI 12) := aLen_H dd_7 (by decide)
theorem ha_7 {i : Int32} {κ : Int32 → rO} (h0 : ¬ i < 0) (h1 : i.toNatClampNeg < 12) : aI (Hh k E A L T) (.ref 7) 0 i κ = κ (A 7 i.toNatClampNeg) := aI_H dd_7 (by decide) h0 h1
theorem hs_7 {i x : Int32} {κ : pH → rO} (h0 : ¬ i < 0) (h1 : i.toNatClampNeg < 12) : sI (Hh k E A L T) (.ref 7) 0 i x κ = κ (Hh k E (up A 7 i.toNatClampNeg x) L T) := sI_H dd_7 (by decide) h0 h1
theorem an_7 {j : Nat} {κ : Int32 → rO} (h1 : j < 12) : aI (Hh k E A L T) (.ref 7) 0 (nI j) κ = κ (A 7 j) := by rw [ha_7 (nI_pos (by omega)) (by rw [nI_clamp (by omega)]; exact h1), nI_clamp (by omega)]
theorem sn_7 {j : Nat} {x : Int32} {κ : pH → rO} (h1 : j < 12) : sI (Hh k E A L T) (.ref 7) 0 (nI j) x κ = κ (Hh k E (up A 7 j x) L T) := by rw [hs_7 (nI_pos (by omega)) (by rw [nI_clamp (by omega)]; exact h1), nI_clamp (by omega)]
theorem dd_8 : (D0 k ++ E)[8]? = some (.inl (0, 12)) := rfl
theorem hl_8 {κ : Int32 → rO} : aLen (Hh k E A L T) (.ref 8) κ = κ (nI 12) := aLen_H dd_8 (by decide)
theorem ha_8 {i : Int32} {κ : Int32 → rO} (h0 : ¬ i < 0) (h1 : i.toNatClampNeg < 12) : aI (Hh k E A L T) (.ref 8) 0 i κ = κ (A 8 i.toNatClampNeg) := aI_H dd_8 (by decide) h0 h1
theorem hs_8 {i x : Int32} {κ : pH → rO} (h0 : ¬ i < 0) (h1 : i.toNatClampNeg < 12) : sI (Hh k E A L T) (.ref 8) 0 i x κ = κ (Hh k E (up A 8 i.toNatClampNeg x) L T) := sI_H dd_8 (by decide) h0 h1
theorem an_8 {j : Nat} {κ : Int32 → rO} (h1 : j < 12) : aI (Hh k E A L T) (.ref 8) 0 (nI j) κ = κ (A 8 j) := by rw [ha_8 (nI_pos (by omega)) (by rw [nI_clamp (by omega)]; exact h1), nI_clamp (by omega)]
theorem sn_8 {j : Nat} {x : Int32} {κ : pH → rO} (h1 : j < 12) : sI (Hh k E A L T) (.ref 8) 0 (nI j) x κ = κ (Hh k E (up A 8 j x) L T) := by rw [hs_8 (nI_pos (by omega)) (by rw [nI_clamp (by omega)]; exact h1), nI_clamp (by omega)]
theorem dd_9 : (D0 k ++ E)[9]? = some (.inr (5, [some (.ref 10)])) := rfl
theorem hc_9 {κ : rO} : rC (Hh k E A L T) (.ref 9) 5 κ = κ := rC_H dd_9
theorem hv_9_0 {κ : Value → rO} : gV (Hh k E A L T) (.ref 9) 5 0 κ = κ (.ref 10) := gV_H dd_9 rfl rfl
theorem dd_10 : (D0 k ++ E)[10]? = some (.inl (0, 672)) := rfl
theorem hl_10 {κ : Int32 → rO} : aLen (Hh k E A L T) (.ref 10) κ = κ (nI 672) := aLen_H dd_10 (by decide)
theorem ha_10 {i : Int32} {κ : Int32 → rO} (h0 : ¬ i < 0) (h1 : i.toNatClampNeg < 672) : aI (Hh k E A L T) (.ref 10) 0 i κ = κ (A 10 i.toNatClampNeg) := aI_H dd_10 (by decide) h0 h1
theorem hs_10 {i x : Int32} {κ : pH → rO} (h0 : ¬ i < 0) (h1 : i.toNatClampNeg < 672) : sI (Hh k E A L T) (.ref 10) 0 i x κ = κ (Hh k E (up A 10 i.toNatClampNeg x) L T) := sI_H dd_10 (by decide) h0 h1
theorem an_10 {j : Nat} {κ : Int32 → rO} (h1 : j < 672) : aI (Hh k E A L T) (.ref 10) 0 (nI j) κ = κ (A 10 j) := by rw [ha_10 (nI_pos (by omega)) (by rw [nI_clamp (by omega)]; exact h1), nI_clamp (by omega)]
theorem sn_10 {j : Nat} {x : Int32} {κ : pH → rO} (h1 : j < 672) : sI (Hh k E A L T) (.ref 10) 0 (nI j) x κ = κ (Hh k E (up A 10 j x) L T) := by rw [hs_10 (nI_pos (by omega)) (by rw [nI_clamp (by omega)]; exact h1), nI_clamp (by omega)]
theorem dd_11 : (D0 k ++ E)[11]? = some (.inr (4, [none, some (.ref 12), some (.ref 13), some (.ref 14)])) := rfl
theorem hc_11 {κ : rO} : rC (Hh k E A L T) (.ref 11) 4 κ = κ := rC_H dd_11
theorem hg_11_0 {κ : Int32 → rO} : gI (Hh k E A L T) (.ref 11) 4 0 κ = κ (A 11 0) := gI_H dd_11 rfl
theorem hp_11_0 {x : Int32} {κ : pH → rO} : pF (Hh k E A L T) (.ref 11) 4 0 (.int x) κ = κ (Hh k E (up A 11 0 x) L T) := pF_H dd_11 rfl
theorem hv_11_1 {κ : Value → rO} : gV (Hh k E A L T) (.ref 11) 4 1 κ = κ (.ref 12) := gV_H dd_11 rfl rfl
theorem hv_11_2 {κ : Value → rO} : gV (Hh k E A L T) (.ref 11) 4 2 κ = κ (.ref 13) := gV_H dd_11 rfl rfl
theorem hv_11_3 {κ : Value → rO} : gV (Hh k E A L T) (.ref 11) 4 3 κ = κ (.ref 14) := gV_H dd_11 rfl rfl
theorem dd_12 : (D0 k ++ E)[12]? = some (.inl (0, 312)) := rfl
theorem hl_12 {κ : Int32 → rO} : aLen (Hh k E A L T) (.ref 12) κ = κ (nI 312) := aLen_H dd_12 (by decide)
theorem ha_12 {i : Int32} {κ : Int32 → rO} (h0 : ¬ i < 0) (h1 : i.toNatClampNeg < 312) : aI (Hh k E A L T) (.ref 12) 0 i κ = κ (A 12 i.toNatClampNeg) := aI_H dd_12 (by decide) h0 h1
theorem hs_12 {i x : Int32} {κ : pH → rO} (h0 : ¬ i < 0) (h1 : i.toNatClampNeg < 312) : sI (Hh k E A L T) (.ref 12) 0 i x κ = κ (Hh k E (up A 12 i.toNatClampNeg x) L T) := sI_H dd_12 (by decide) h0 h1
theorem an_12 {j : Nat} {κ : Int32 → rO} (h1 : j < 312) : aI (Hh k E A L T) (.ref 12) 0 (nI j) κ = κ (A 12 j) := by rw [ha_12 (nI_pos (by omega)) (by rw [nI_clamp (by omega)]; exact h1), nI_clamp (by omega)]
theorem sn_12 {j : Nat} {x : Int32} {κ : pH → rO} (h1 : j < 312) : sI (Hh k E A L T) (.ref 12) 0 (nI j) x κ = κ (Hh k E (up A 12 j x) L T) := by rw [hs_12 (nI_pos (by omega)) (by rw [nI_clamp (by omega)]; exact h1), nI_clamp (by omega)]
theorem dd_13 : (D0 k ++ E)[13]? = some (.inl (4, 24)) := rfl
theorem hl_13 {κ : Int32 → rO} : aLen (Hh k E A L T) (.ref 13) κ = κ (nI 24) := aLen_H dd_13 (by decide)
theorem an_13 {j : Nat} {κ : Value → rO} (h1 : j < 24) : aT (Hh k E A L T) (.ref 13) (nI j) κ = κ (va_rf (T 13 j)) := by rw [Hh, aT_H dd_13 (nI_pos (by omega)) (by rw [nI_clamp (by omega)]; exact h1), nI_clamp (by omega)]
theorem sn_13 {j q : Nat} {ks : List (Option Value)} {κ : pH → rO} (h1 : j < 24) (hq : (D0 k ++ E)[q]? = some (.inr (11, ks))) : sTx (Hh k E A L T) (.ref 13) (nI j) (.ref q) κ = κ (Hh k E A L (upT T 13 j (some q))) := by rw [Hh, sTx_H dd_13 hq (nI_pos (by omega)) (by rw [nI_clamp (by omega)]; exact h1), nI_clamp (by omega), Hh]
theorem sz_13 {j : Nat} {κ : pH → rO} (h1 : j < 24) : sTx (Hh k E A L T) (.ref 13) (nI j) .null κ = κ (Hh k E A L (upT T 13 j none)) := by rw [Hh, sTx_N dd_13 (nI_pos (by omega)) (by rw [nI_clamp (by omega)]; exact h1), nI_clamp (by omega), Hh]
theorem dd_14 : (D0 k ++ E)[14]? = some (.inr (11, [none, some (.ref 15)])) := rfl
theorem hc_14 {κ : rO} : rC (Hh k E A L T) (.ref 14) 11 κ = κ := rC_H dd_14
theorem hg_14_0 {κ : Int32 → rO} : gI (Hh k E A L T) (.ref 14) 11 0 κ = κ (A 14 0) := gI_H dd_14 rfl
theorem hp_14_0 {x : Int32} {κ : pH → rO} : pF (Hh k E A L T) (.ref 14) 11 0 (.int x) κ = κ (Hh k E (up A 14 0 x) L T) := pF_H dd_14 rfl
theorem hv_14_1 {κ : Value → rO} : gV (Hh k E A L T) (.ref 14) 11 1 κ = κ (.ref 15) := gV_H dd_14 rfl rfl
theorem dd_15 : (D0 k ++ E)[15]? = some (.inl (0, 0)) := rfl
theorem hl_15 {κ : Int32 → rO} : aLen (Hh k E A L T) (.ref 15) κ = κ (nI 0) := aLen_H dd_15 (by decide)
theorem ha_15 {i : Int32} {κ : Int32 → rO} (h0 : ¬ i < 0) (h1 : i.toNatClampNeg < 0) : aI (Hh k E A L T) (.ref 15) 0 i κ = κ (A 15 i.toNatClampNeg) := aI_H dd_15 (by decide) h0 h1
theorem hs_15 {i x : Int32} {κ : pH → rO} (h0 : ¬ i < 0) (h1 : i.toNatClampNeg < 0) : sI (Hh k E A L T) (.ref 15) 0 i x κ = κ (Hh k E (up A 15 i.toNatClampNeg x) L T) := sI_H dd_15 (by decide) h0 h1
theorem an_15 {j : Nat} {κ : Int32 → rO} (h1 : j < 0) : aI (Hh k E A L T) (.ref 15) 0 (nI j) κ = κ (A 15 j) := by rw [ha_15 (nI_pos (by omega)) (by rw [nI_clamp (by omega)]; exact h1), nI_clamp (by omega)]
theorem sn_15 {j : Nat} {x : Int32} {κ : pH → rO} (h1 : j < 0) : sI (Hh k E A L T) (.ref 15) 0 (nI j) x κ = κ (Hh k E (up A 15 j x) L T) := by rw [hs_15 (nI_pos (by omega)) (by rw [nI_clamp (by omega)]; exact h1), nI_clamp (by omega)]
theorem dd_16 : (D0 k ++ E)[16]? = some (.inr (7, [none, some (.ref 17), some (.ref 18), some (.ref 19), some (.ref 20), some (.ref 21)])) := rfl
theorem hc_16 {κ : rO} : rC (Hh k E A L T) (.ref 16) 7 κ = κ := rC_H dd_16
theorem hg_16_0 {κ : Int32 → rO} : gI (Hh k E A L T) (.ref 16) 7 0 κ = κ (A 16 0) := gI_H dd_16 rfl
theorem hp_16_0 {x : Int32} {κ : pH → rO} : pF (Hh k E A L T) (.ref 16) 7 0 (.int x) κ = κ (Hh k E (up A 16 0 x) L T) := pF_H dd_16 rfl
theorem hv_16_1 {κ : Value → rO} : gV (Hh k E A L T) (.ref 16) 7 1 κ = κ (.ref 17) := gV_H dd_16 rfl rfl
theorem hv_16_2 {κ : Value → rO} : gV (Hh k E A L T) (.ref 16) 7 2 κ = κ (.ref 18) := gV_H dd_16 rfl rfl
theorem hv_16_3 {κ : Value → rO} : gV (Hh k E A L T) (.ref 16) 7 3 κ = κ (.ref 19) := gV_H dd_16 rfl rfl
theorem hv_16_4 {κ : Value → rO} : gV (Hh k E A L T) (.ref 16) 7 4 κ = κ (.ref 20) := gV_H dd_16 rfl rfl
theorem hv_16_5 {κ : Value → rO} : gV (Hh k E A L T) (.ref 16) 7 5 κ = κ (.ref 21) := gV_H dd_16 rfl rfl
theorem dd_17 : (D0 k ++ E)[17]? = some (.inl (0, 101)) := rfl
theorem hl_17 {κ : Int32 → rO} : aLen (Hh k E A L T) (.ref 17) κ = κ (nI 101) := aLen_H dd_17 (by decide)
theorem ha_17 {i : Int32} {κ : Int32 → rO} (h0 : ¬ i < 0) (h1 : i.toNatClampNeg < 101) : aI (Hh k E A L T) (.ref 17) 0 i κ = κ (A 17 i.toNatClampNeg) := aI_H dd_17 (by decide) h0 h1
theorem hs_17 {i x : Int32} {κ : pH → rO} (h0 : ¬ i < 0) (h1 : i.toNatClampNeg < 101) : sI (Hh k E A L T) (.ref 17) 0 i x κ = κ (Hh k E (up A 17 i.toNatClampNeg x) L T) := sI_H dd_17 (by decide) h0 h1
theorem an_17 {j : Nat} {κ : Int32 → rO} (h1 : j < 101) : aI (Hh k E A L T) (.ref 17) 0 (nI j) κ = κ (A 17 j) := by rw [ha_17 (nI_pos (by omega)) (by rw [nI_clamp (by omega)]; exact h1), nI_clamp (by omega)]
theorem sn_17 {j : Nat} {x : Int32} {κ : pH → rO} (h1 : j < 101) : sI (Hh k E A L T) (.ref 17) 0 (nI j) x κ = κ (Hh k E (up A 17 j x) L T) := by rw [hs_17 (nI_pos (by omega)) (by rw [nI_clamp (by omega)]; exact h1), nI_clamp (by omega)]
theorem dd_18 : (D0 k ++ E)[18]? = some (.inl (0, 200)) := rfl
theorem hl_18 {κ : Int32 → rO} : aLen (Hh k E A L T) (.ref 18) κ = κ (nI 200) := aLen_H dd_18 (by decide)
theorem ha_18 {i : Int32} {κ : Int32 → rO} (h0 : ¬ i < 0) (h1 : i.toNatClampNeg < 200) : aI (Hh k E A L T) (.ref 18) 0 i κ = κ (A 18 i.toNatClampNeg) := aI_H dd_18 (by decide) h0 h1
theorem hs_18 {i x : Int32} {κ : pH → rO} (h0 : ¬ i < 0) (h1 : i.toNatClampNeg < 200) : sI (Hh k E A L T) (.ref 18) 0 i x κ = κ (Hh k E (up A 18 i.toNatClampNeg x) L T) := sI_H dd_18 (by decide) h0 h1
theorem an_18 {j : Nat} {κ : Int32 → rO} (h1 : j < 200) : aI (Hh k E A L T) (.ref 18) 0 (nI j) κ = κ (A 18 j) := by rw [ha_18 (nI_pos (by omega)) (by rw [nI_clamp (by omega)]; exact h1), nI_clamp (by omega)]
theorem sn_18 {j : Nat} {x : Int32} {κ : pH → rO} (h1 : j < 200) : sI (Hh k E A L T) (.ref 18) 0 (nI j) x κ = κ (Hh k E (up A 18 j x) L T) := by rw [hs_18 (nI_pos (by omega)) (by rw [nI_clamp (by omega)]; exact h1), nI_clamp (by omega)]
theorem dd_19 : (D0 k ++ E)[19]? = some (.inl (0, 200)) := rfl
theorem hl_19 {κ : Int32 → rO} : aLen (Hh k E A L T) (.ref 19) κ = κ (nI 200) := aLen_H dd_19 (by decide)
theorem ha_19 {i : Int32} {κ : Int32 → rO} (h0 : ¬ i < 0) (h1 : i.toNatClampNeg < 200) : aI (Hh k E A L T) (.ref 19) 0 i κ = κ (A 19 i.toNatClampNeg) := aI_H dd_19 (by decide) h0 h1
theorem hs_19 {i x : Int32} {κ : pH → rO} (h0 : ¬ i < 0) (h1 : i.toNatClampNeg < 200) : sI (Hh k E A L T) (.ref 19) 0 i x κ = κ (Hh k E (up A 19 i.toNatClampNeg x) L T) := sI_H dd_19 (by decide) h0 h1
theorem an_19 {j : Nat} {κ : Int32 → rO} (h1 : j < 200) : aI (Hh k E A L T) (.ref 19) 0 (nI j) κ = κ (A 19 j) := by rw [ha_19 (nI_pos (by omega)) (by rw [nI_clamp (by omega)]; exact h1), nI_clamp (by omega)]
theorem sn_19 {j : Nat} {x : Int32} {κ : pH → rO} (h1 : j < 200) : sI (Hh k E A L T) (.ref 19) 0 (nI j) x κ = κ (Hh k E (up A 19 j x) L T) := by rw [hs_19 (nI_pos (by omega)) (by rw [nI_clamp (by omega)]; exact h1), nI_clamp (by omega)]
theorem dd_20 : (D0 k ++ E)[20]? = some (.inl (0, 200)) := rfl
theorem hl_20 {κ : Int32 → rO} : aLen (Hh k E A L T) (.ref 20) κ = κ (nI 200) := aLen_H dd_20 (by decide)
theorem ha_20 {i : Int32} {κ : Int32 → rO} (h0 : ¬ i < 0) (h1 : i.toNatClampNeg < 200) : aI (Hh k E A L T) (.ref 20) 0 i κ = κ (A 20 i.toNatClampNeg) := aI_H dd_20 (by decide) h0 h1
theorem hs_20 {i x : Int32} {κ : pH → rO} (h0 : ¬ i < 0) (h1 : i.toNatClampNeg < 200) : sI (Hh k E A L T) (.ref 20) 0 i x κ = κ (Hh k E (up A 20 i.toNatClampNeg x) L T) := sI_H dd_20 (by decide) h0 h1
theorem an_20 {j : Nat} {κ : Int32 → rO} (h1 : j < 200) : aI (Hh k E A L T) (.ref 20) 0 (nI j) κ = κ (A 20 j) := by rw [ha_20 (nI_pos (by omega)) (by rw [nI_clamp (by omega)]; exact h1), nI_clamp (by omega)]
theorem sn_20 {j : Nat} {x : Int32} {κ : pH → rO} (h1 : j < 200) : sI (Hh k E A L T) (.ref 20) 0 (nI j) x κ = κ (Hh k E (up A 20 j x) L T) := by rw [hs_20 (nI_pos (by omega)) (by rw [nI_clamp (by omega)]; exact h1), nI_clamp (by omega)]
theorem dd_21 : (D0 k ++ E)[21]? = some (.inl (0, 200)) := rfl
theorem hl_21 {κ : Int32 → rO} : aLen (Hh k E A L T) (.ref 21) κ = κ (nI 200) := aLen_H dd_21 (by decide)
theorem ha_21 {i : Int32} {κ : Int32 → rO} (h0 : ¬ i < 0) (h1 : i.toNatClampNeg < 200) : aI (Hh k E A L T) (.ref 21) 0 i κ = κ (A 21 i.toNatClampNeg) := aI_H dd_21 (by decide) h0 h1
theorem hs_21 {i x : Int32} {κ : pH → rO} (h0 : ¬ i < 0) (h1 : i.toNatClampNeg < 200) : sI (Hh k E A L T) (.ref 21) 0 i x κ = κ (Hh k E (up A 21 i.toNatClampNeg x) L T) := sI_H dd_21 (by decide) h0 h1
theorem an_21 {j : Nat} {κ : Int32 → rO} (h1 : j < 200) : aI (Hh k E A L T) (.ref 21) 0 (nI j) κ = κ (A 21 j) := by rw [ha_21 (nI_pos (by omega)) (by rw [nI_clamp (by omega)]; exact h1), nI_clamp (by omega)]
theorem sn_21 {j : Nat} {x : Int32} {κ : pH → rO} (h1 : j < 200) : sI (Hh k E A L T) (.ref 21) 0 (nI j) x κ = κ (Hh k E (up A 21 j x) L T) := by rw [hs_21 (nI_pos (by omega)) (by rw [nI_clamp (by omega)]; exact h1), nI_clamp (by omega)]
theorem dd_22 : (D0 k ++ E)[22]? = some (.inr (6, [none, none, none, none, none, none, none, some (.ref 23), none, some (.ref 24), some (.ref 25), some (.ref 26)])) := rfl
theorem hc_22 {κ : rO} : rC (Hh k E A L T) (.ref 22) 6 κ = κ := rC_H dd_22
theorem hg_22_0 {κ : Int32 → rO} : gI (Hh k E A L T) (.ref 22) 6 0 κ = κ (A 22 0) := gI_H dd_22 rfl
theorem hp_22_0 {x : Int32} {κ : pH → rO} : pF (Hh k E A L T) (.ref 22) 6 0 (.int x) κ = κ (Hh k E (up A 22 0 x) L T) := pF_H dd_22 rfl
theorem hg_22_1 {κ : Int32 → rO} : gI (Hh k E A L T) (.ref 22) 6 1 κ = κ (A 22 1) := gI_H dd_22 rfl
theorem hp_22_1 {x : Int32} {κ : pH → rO} : pF (Hh k E A L T) (.ref 22) 6 1 (.int x) κ = κ (Hh k E (up A 22 1 x) L T) := pF_H dd_22 rfl
theorem hg_22_2 {κ : Int32 → rO} : gI (Hh k E A L T) (.ref 22) 6 2 κ = κ (A 22 2) := gI_H dd_22 rfl
theorem hp_22_2 {x : Int32} {κ : pH → rO} : pF (Hh k E A L T) (.ref 22) 6 2 (.int x) κ = κ (Hh k E (up A 22 2 x) L T) := pF_H dd_22 rfl
theorem hg_22_3 {κ : Int32 → rO} : gI (Hh k E A L T) (.ref 22) 6 3 κ = κ (A 22 3) := gI_H dd_22 rfl
theorem hp_22_3 {x : Int32} {κ : pH → rO} : pF (Hh k E A L T) (.ref 22) 6 3 (.int x) κ = κ (Hh k E (up A 22 3 x) L T) := pF_H dd_22 rfl
theorem hg_22_4 {κ : Int32 → rO} : gI (Hh k E A L T) (.ref 22) 6 4 κ = κ (A 22 4) := gI_H dd_22 rfl
theorem hp_22_4 {x : Int32} {κ : pH → rO} : pF (Hh k E A L T) (.ref 22) 6 4 (.int x) κ = κ (Hh k E (up A 22 4 x) L T) := pF_H dd_22 rfl
theorem hg_22_5 {κ : Int32 → rO} : gI (Hh k E A L T) (.ref 22) 6 5 κ = κ (A 22 5) := gI_H dd_22 rfl
theorem hp_22_5 {x : Int32} {κ : pH → rO} : pF (Hh k E A L T) (.ref 22) 6 5 (.int x) κ = κ (Hh k E (up A 22 5 x) L T) := pF_H dd_22 rfl
theorem hg_22_6 {κ : Int32 → rO} : gI (Hh k E A L T) (.ref 22) 6 6 κ = κ (A 22 6) := gI_H dd_22 rfl
theorem hp_22_6 {x : Int32} {κ : pH → rO} : pF (Hh k E A L T) (.ref 22) 6 6 (.int x) κ = κ (Hh k E (up A 22 6 x) L T) := pF_H dd_22 rfl
theorem hv_22_7 {κ : Value → rO} : gV (Hh k E A L T) (.ref 22) 6 7 κ = κ (.ref 23) := gV_H dd_22 rfl rfl
theorem hg_22_8 {κ : Int32 → rO} : gI (Hh k E A L T) (.ref 22) 6 8 κ = κ (A 22 8) := gI_H dd_22 rfl
theorem hp_22_8 {x : Int32} {κ : pH → rO} : pF (Hh k E A L T) (.ref 22) 6 8 (.int x) κ = κ (Hh k E (up A 22 8 x) L T) := pF_H dd_22 rfl
theorem hv_22_9 {κ : Value → rO} : gV (Hh k E A L T) (.ref 22) 6 9 κ = κ (.ref 24) := gV_H dd_22 rfl rfl
theorem hv_22_10 {κ : Value → rO} : gV (Hh k E A L T) (.ref 22) 6 10 κ = κ (.ref 25) := gV_H dd_22 rfl rfl
theorem hv_22_11 {κ : Value → rO} : gV (Hh k E A L T) (.ref 22) 6 11 κ = κ (.ref 26) := gV_H dd_22 rfl rfl
theorem dd_23 : (D0 k ++ E)[23]? = some (.inl (0, 240)) := rfl
theorem hl_23 {κ : Int32 → rO} : aLen (Hh k E A L T) (.ref 23) κ = κ (nI 240) := aLen_H dd_23 (by decide)
theorem ha_23 {i : Int32} {κ : Int32 → rO} (h0 : ¬ i < 0) (h1 : i.toNatClampNeg < 240) : aI (Hh k E A L T) (.ref 23) 0 i κ = κ (A 23 i.toNatClampNeg) := aI_H dd_23 (by decide) h0 h1
theorem hs_23 {i x : Int32} {κ : pH → rO} (h0 : ¬ i < 0) (h1 : i.toNatClampNeg < 240) : sI (Hh k E A L T) (.ref 23) 0 i x κ = κ (Hh k E (up A 23 i.toNatClampNeg x) L T) := sI_H dd_23 (by decide) h0 h1
theorem an_23 {j : Nat} {κ : Int32 → rO} (h1 : j < 240) : aI (Hh k E A L T) (.ref 23) 0 (nI j) κ = κ (A 23 j) := by rw [ha_23 (nI_pos (by omega)) (by rw [nI_clamp (by omega)]; exact h1), nI_clamp (by omega)]
theorem sn_23 {j : Nat} {x : Int32} {κ : pH → rO} (h1 : j < 240) : sI (Hh k E A L T) (.ref 23) 0 (nI j) x κ = κ (Hh k E (up A 23 j x) L T) := by rw [hs_23 (nI_pos (by omega)) (by rw [nI_clamp (by omega)]; exact h1), nI_clamp (by omega)]
theorem dd_24 : (D0 k ++ E)[24]? = some (.inl (0, 12)) := rfl
theorem hl_24 {κ : Int32 → rO} : aLen (Hh k E A L T) (.ref 24) κ = κ (nI 12) := aLen_H dd_24 (by decide)
theorem ha_24 {i : Int32} {κ : Int32 → rO} (h0 : ¬ i < 0) (h1 : i.toNatClampNeg < 12) : aI (Hh k E A L T) (.ref 24) 0 i κ = κ (A 24 i.toNatClampNeg) := aI_H dd_24 (by decide) h0 h1
theorem hs_24 {i x : Int32} {κ : pH → rO} (h0 : ¬ i < 0) (h1 : i.toNatClampNeg < 12) : sI (Hh k E A L T) (.ref 24) 0 i x κ = κ (Hh k E (up A 24 i.toNatClampNeg x) L T) := sI_H dd_24 (by decide) h0 h1
theorem an_24 {j : Nat} {κ : Int32 → rO} (h1 : j < 12) : aI (Hh k E A L T) (.ref 24) 0 (nI j) κ = κ (A 24 j) := by rw [ha_24 (nI_pos (by omega)) (by rw [nI_clamp (by omega)]; exact h1), nI_clamp (by omega)]
theorem sn_24 {j : Nat} {x : Int32} {κ : pH → rO} (h1 : j < 12) : sI (Hh k E A L T) (.ref 24) 0 (nI j) x κ = κ (Hh k E (up A 24 j x) L T) := by rw [hs_24 (nI_pos (by omega)) (by rw [nI_clamp (by omega)]; exact h1), nI_clamp (by omega)]
theorem dd_25 : (D0 k ++ E)[25]? = some (.inl (0, 12)) := rfl
theorem hl_25 {κ : Int32 → rO} : aLen (Hh k E A L T) (.ref 25) κ = κ (nI 12) := aLen_H dd_25 (by decide)
theorem ha_25 {i : Int32} {κ : Int32 → rO} (h0 : ¬ i < 0) (h1 : i.toNatClampNeg < 12) : aI (Hh k E A L T) (.ref 25) 0 i κ = κ (A 25 i.toNatClampNeg) := aI_H dd_25 (by decide) h0 h1
theorem hs_25 {i x : Int32} {κ : pH → rO} (h0 : ¬ i < 0) (h1 : i.toNatClampNeg < 12) : sI (Hh k E A L T) (.ref 25) 0 i x κ = κ (Hh k E (up A 25 i.toNatClampNeg x) L T) := sI_H dd_25 (by decide) h0 h1
theorem an_25 {j : Nat} {κ : Int32 → rO} (h1 : j < 12) : aI (Hh k E A L T) (.ref 25) 0 (nI j) κ = κ (A 25 j) := by rw [ha_25 (nI_pos (by omega)) (by rw [nI_clamp (by omega)]; exact h1), nI_clamp (by omega)]
theorem sn_25 {j : Nat} {x : Int32} {κ : pH → rO} (h1 : j < 12) : sI (Hh k E A L T) (.ref 25) 0 (nI j) x κ = κ (Hh k E (up A 25 j x) L T) := by rw [hs_25 (nI_pos (by omega)) (by rw [nI_clamp (by omega)]; exact h1), nI_clamp (by omega)]
theorem dd_26 : (D0 k ++ E)[26]? = some (.inl (0, 12)) := rfl
theorem hl_26 {κ : Int32 → rO} : aLen (Hh k E A L T) (.ref 26) κ = κ (nI 12) := aLen_H dd_26 (by decide)
theorem ha_26 {i : Int32} {κ : Int32 → rO} (h0 : ¬ i < 0) (h1 : i.toNatClampNeg < 12) : aI (Hh k E A L T) (.ref 26) 0 i κ = κ (A 26 i.toNatClampNeg) := aI_H dd_26 (by decide) h0 h1
theorem hs_26 {i x : Int32} {κ : pH → rO} (h0 : ¬ i < 0) (h1 : i.toNatClampNeg < 12) : sI (Hh k E A L T) (.ref 26) 0 i x κ = κ (Hh k E (up A 26 i.toNatClampNeg x) L T) := sI_H dd_26 (by decide) h0 h1
theorem an_26 {j : Nat} {κ : Int32 → rO} (h1 : j < 12) : aI (Hh k E A L T) (.ref 26) 0 (nI j) κ = κ (A 26 j) := by rw [ha_26 (nI_pos (by omega)) (by rw [nI_clamp (by omega)]; exact h1), nI_clamp (by omega)]
theorem sn_26 {j : Nat} {x : Int32} {κ : pH → rO} (h1 : j < 12) : sI (Hh k E A L T) (.ref 26) 0 (nI j) x κ = κ (Hh k E (up A 26 j x) L T) := by rw [hs_26 (nI_pos (by omega)) (by rw [nI_clamp (by omega)]; exact h1), nI_clamp (by omega)]
theorem dd_27 : (D0 k ++ E)[27]? = some (.inr (8, [none, none, some (.ref 28), some (.ref 29), some (.ref 30), some (.ref 31), some (.ref 32)])) := rfl
theorem hc_27 {κ : rO} : rC (Hh k E A L T) (.ref 27) 8 κ = κ := rC_H dd_27
theorem hg_27_0 {κ : Int32 → rO} : gI (Hh k E A L T) (.ref 27) 8 0 κ = κ (A 27 0) := gI_H dd_27 rfl
theorem hp_27_0 {x : Int32} {κ : pH → rO} : pF (Hh k E A L T) (.ref 27) 8 0 (.int x) κ = κ (Hh k E (up A 27 0 x) L T) := pF_H dd_27 rfl
theorem hg_27_1 {κ : Int32 → rO} : gI (Hh k E A L T) (.ref 27) 8 1 κ = κ (A 27 1) := gI_H dd_27 rfl
theorem hp_27_1 {x : Int32} {κ : pH → rO} : pF (Hh k E A L T) (.ref 27) 8 1 (.int x) κ = κ (Hh k E (up A 27 1 x) L T) := pF_H dd_27 rfl
theorem hv_27_2 {κ : Value → rO} : gV (Hh k E A L T) (.ref 27) 8 2 κ = κ (.ref 28) := gV_H dd_27 rfl rfl
theorem hv_27_3 {κ : Value → rO} : gV (Hh k E A L T) (.ref 27) 8 3 κ = κ (.ref 29) := gV_H dd_27 rfl rfl
theorem hv_27_4 {κ : Value → rO} : gV (Hh k E A L T) (.ref 27) 8 4 κ = κ (.ref 30) := gV_H dd_27 rfl rfl
theorem hv_27_5 {κ : Value → rO} : gV (Hh k E A L T) (.ref 27) 8 5 κ = κ (.ref 31) := gV_H dd_27 rfl rfl
theorem hv_27_6 {κ : Value → rO} : gV (Hh k E A L T) (.ref 27) 8 6 κ = κ (.ref 32) := gV_H dd_27 rfl rfl
theorem dd_28 : (D0 k ++ E)[28]? = some (.inl (0, 6)) := rfl
theorem hl_28 {κ : Int32 → rO} : aLen (Hh k E A L T) (.ref 28) κ = κ (nI 6) := aLen_H dd_28 (by decide)
theorem ha_28 {i : Int32} {κ : Int32 → rO} (h0 : ¬ i < 0) (h1 : i.toNatClampNeg < 6) : aI (Hh k E A L T) (.ref 28) 0 i κ = κ (A 28 i.toNatClampNeg) := aI_H dd_28 (by decide) h0 h1
theorem hs_28 {i x : Int32} {κ : pH → rO} (h0 : ¬ i < 0) (h1 : i.toNatClampNeg < 6) : sI (Hh k E A L T) (.ref 28) 0 i x κ = κ (Hh k E (up A 28 i.toNatClampNeg x) L T) := sI_H dd_28 (by decide) h0 h1
theorem an_28 {j : Nat} {κ : Int32 → rO} (h1 : j < 6) : aI (Hh k E A L T) (.ref 28) 0 (nI j) κ = κ (A 28 j) := by rw [ha_28 (nI_pos (by omega)) (by rw [nI_clamp (by omega)]; exact h1), nI_clamp (by omega)]
theorem sn_28 {j : Nat} {x : Int32} {κ : pH → rO} (h1 : j < 6) : sI (Hh k E A L T) (.ref 28) 0 (nI j) x κ = κ (Hh k E (up A 28 j x) L T) := by rw [hs_28 (nI_pos (by omega)) (by rw [nI_clamp (by omega)]; exact h1), nI_clamp (by omega)]
theorem dd_29 : (D0 k ++ E)[29]? = some (.inl (0, 6)) := rfl
theorem hl_29 {κ : Int32 → rO} : aLen (Hh k E A L T) (.ref 29) κ = κ (nI 6) := aLen_H dd_29 (by decide)
theorem ha_29 {i : Int32} {κ : Int32 → rO} (h0 : ¬ i < 0) (h1 : i.toNatClampNeg < 6) : aI (Hh k E A L T) (.ref 29) 0 i κ = κ (A 29 i.toNatClampNeg) := aI_H dd_29 (by decide) h0 h1
theorem hs_29 {i x : Int32} {κ : pH → rO} (h0 : ¬ i < 0) (h1 : i.toNatClampNeg < 6) : sI (Hh k E A L T) (.ref 29) 0 i x κ = κ (Hh k E (up A 29 i.toNatClampNeg x) L T) := sI_H dd_29 (by decide) h0 h1
theorem an_29 {j : Nat} {κ : Int32 → rO} (h1 : j < 6) : aI (Hh k E A L T) (.ref 29) 0 (nI j) κ = κ (A 29 j) := by rw [ha_29 (nI_pos (by omega)) (by rw [nI_clamp (by omega)]; exact h1), nI_clamp (by omega)]
theorem sn_29 {j : Nat} {x : Int32} {κ : pH → rO} (h1 : j < 6) : sI (Hh k E A L T) (.ref 29) 0 (nI j) x κ = κ (Hh k E (up A 29 j x) L T) := by rw [hs_29 (nI_pos (by omega)) (by rw [nI_clamp (by omega)]; exact h1), nI_clamp (by omega)]
theorem dd_30 : (D0 k ++ E)[30]? = some (.inl (0, 6)) := rfl
theorem hl_30 {κ : Int32 → rO} : aLen (Hh k E A L T) (.ref 30) κ = κ (nI 6) := aLen_H dd_30 (by decide)
theorem ha_30 {i : Int32} {κ : Int32 → rO} (h0 : ¬ i < 0) (h1 : i.toNatClampNeg < 6) : aI (Hh k E A L T) (.ref 30) 0 i κ = κ (A 30 i.toNatClampNeg) := aI_H dd_30 (by decide) h0 h1
theorem hs_30 {i x : Int32} {κ : pH → rO} (h0 : ¬ i < 0) (h1 : i.toNatClampNeg < 6) : sI (Hh k E A L T) (.ref 30) 0 i x κ = κ (Hh k E (up A 30 i.toNatClampNeg x) L T) := sI_H dd_30 (by decide) h0 h1
theorem an_30 {j : Nat} {κ : Int32 → rO} (h1 : j < 6) : aI (Hh k E A L T) (.ref 30) 0 (nI j) κ = κ (A 30 j) := by rw [ha_30 (nI_pos (by omega)) (by rw [nI_clamp (by omega)]; exact h1), nI_clamp (by omega)]
theorem sn_30 {j : Nat} {x : Int32} {κ : pH → rO} (h1 : j < 6) : sI (Hh k E A L T) (.ref 30) 0 (nI j) x κ = κ (Hh k E (up A 30 j x) L T) := by rw [hs_30 (nI_pos (by omega)) (by rw [nI_clamp (by omega)]; exact h1), nI_clamp (by omega)]
theorem dd_31 : (D0 k ++ E)[31]? = some (.inl (0, 4)) := rfl
theorem hl_31 {κ : Int32 → rO} : aLen (Hh k E A L T) (.ref 31) κ = κ (nI 4) := aLen_H dd_31 (by decide)
theorem ha_31 {i : Int32} {κ : Int32 → rO} (h0 : ¬ i < 0) (h1 : i.toNatClampNeg < 4) : aI (Hh k E A L T) (.ref 31) 0 i κ = κ (A 31 i.toNatClampNeg) := aI_H dd_31 (by decide) h0 h1
theorem hs_31 {i x : Int32} {κ : pH → rO} (h0 : ¬ i < 0) (h1 : i.toNatClampNeg < 4) : sI (Hh k E A L T) (.ref 31) 0 i x κ = κ (Hh k E (up A 31 i.toNatClampNeg x) L T) := sI_H dd_31 (by decide) h0 h1
theorem an_31 {j : Nat} {κ : Int32 → rO} (h1 : j < 4) : aI (Hh k E A L T) (.ref 31) 0 (nI j) κ = κ (A 31 j) := by rw [ha_31 (nI_pos (by omega)) (by rw [nI_clamp (by omega)]; exact h1), nI_clamp (by omega)]
theorem sn_31 {j : Nat} {x : Int32} {κ : pH → rO} (h1 : j < 4) : sI (Hh k E A L T) (.ref 31) 0 (nI j) x κ = κ (Hh k E (up A 31 j x) L T) := by rw [hs_31 (nI_pos (by omega)) (by rw [nI_clamp (by omega)]; exact h1), nI_clamp (by omega)]
theorem dd_32 : (D0 k ++ E)[32]? = some (.inl (0, 4)) := rfl
theorem hl_32 {κ : Int32 → rO} : aLen (Hh k E A L T) (.ref 32) κ = κ (nI 4) := aLen_H dd_32 (by decide)
theorem ha_32 {i : Int32} {κ : Int32 → rO} (h0 : ¬ i < 0) (h1 : i.toNatClampNeg < 4) : aI (Hh k E A L T) (.ref 32) 0 i κ = κ (A 32 i.toNatClampNeg) := aI_H dd_32 (by decide) h0 h1
theorem hs_32 {i x : Int32} {κ : pH → rO} (h0 : ¬ i < 0) (h1 : i.toNatClampNeg < 4) : sI (Hh k E A L T) (.ref 32) 0 i x κ = κ (Hh k E (up A 32 i.toNatClampNeg x) L T) := sI_H dd_32 (by decide) h0 h1
theorem an_32 {j : Nat} {κ : Int32 → rO} (h1 : j < 4) : aI (Hh k E A L T) (.ref 32) 0 (nI j) κ = κ (A 32 j) := by rw [ha_32 (nI_pos (by omega)) (by rw [nI_clamp (by omega)]; exact h1), nI_clamp (by omega)]
theorem sn_32 {j : Nat} {x : Int32} {κ : pH → rO} (h1 : j < 4) : sI (Hh k E A L T) (.ref 32) 0 (nI j) x κ = κ (Hh k E (up A 32 j x) L T) := by rw [hs_32 (nI_pos (by omega)) (by rw [nI_clamp (by omega)]; exact h1), nI_clamp (by omega)]
theorem dd_33 : (D0 k ++ E)[33]? = some (.inr (10, [none, some (.ref 34), some (.ref 35)])) := rfl
theorem hc_33 {κ : rO} : rC (Hh k E A L T) (.ref 33) 10 κ = κ := rC_H dd_33
theorem hg_33_0 {κ : Int32 → rO} : gI (Hh k E A L T) (.ref 33) 10 0 κ = κ (A 33 0) := gI_H dd_33 rfl
theorem hp_33_0 {x : Int32} {κ : pH → rO} : pF (Hh k E A L T) (.ref 33) 10 0 (.int x) κ = κ (Hh k E (up A 33 0 x) L T) := pF_H dd_33 rfl
theorem hv_33_1 {κ : Value → rO} : gV (Hh k E A L T) (.ref 33) 10 1 κ = κ (.ref 34) := gV_H dd_33 rfl rfl
theorem hv_33_2 {κ : Value → rO} : gV (Hh k E A L T) (.ref 33) 10 2 κ = κ (.ref 35) := gV_H dd_33 rfl rfl
theorem dd_34 : (D0 k ++ E)[34]? = some (.inl (0, 192)) := rfl
theorem hl_34 {κ : Int32 → rO} : aLen (Hh k E A L T) (.ref 34) κ = κ (nI 192) := aLen_H dd_34 (by decide)
theorem ha_34 {i : Int32} {κ : Int32 → rO} (h0 : ¬ i < 0) (h1 : i.toNatClampNeg < 192) : aI (Hh k E A L T) (.ref 34) 0 i κ = κ (A 34 i.toNatClampNeg) := aI_H dd_34 (by decide) h0 h1
theorem hs_34 {i x : Int32} {κ : pH → rO} (h0 : ¬ i < 0) (h1 : i.toNatClampNeg < 192) : sI (Hh k E A L T) (.ref 34) 0 i x κ = κ (Hh k E (up A 34 i.toNatClampNeg x) L T) := sI_H dd_34 (by decide) h0 h1
theorem an_34 {j : Nat} {κ : Int32 → rO} (h1 : j < 192) : aI (Hh k E A L T) (.ref 34) 0 (nI j) κ = κ (A 34 j) := by rw [ha_34 (nI_pos (by omega)) (by rw [nI_clamp (by omega)]; exact h1), nI_clamp (by omega)]
theorem sn_34 {j : Nat} {x : Int32} {κ : pH → rO} (h1 : j < 192) : sI (Hh k E A L T) (.ref 34) 0 (nI j) x κ = κ (Hh k E (up A 34 j x) L T) := by rw [hs_34 (nI_pos (by omega)) (by rw [nI_clamp (by omega)]; exact h1), nI_clamp (by omega)]
theorem dd_35 : (D0 k ++ E)[35]? = some (.inl (0, 192)) := rfl
theorem hl_35 {κ : Int32 → rO} : aLen (Hh k E A L T) (.ref 35) κ = κ (nI 192) := aLen_H dd_35 (by decide)
theorem ha_35 {i : Int32} {κ : Int32 → rO} (h0 : ¬ i < 0) (h1 : i.toNatClampNeg < 192) : aI (Hh k E A L T) (.ref 35) 0 i κ = κ (A 35 i.toNatClampNeg) := aI_H dd_35 (by decide) h0 h1
theorem hs_35 {i x : Int32} {κ : pH → rO} (h0 : ¬ i < 0) (h1 : i.toNatClampNeg < 192) : sI (Hh k E A L T) (.ref 35) 0 i x κ = κ (Hh k E (up A 35 i.toNatClampNeg x) L T) := sI_H dd_35 (by decide) h0 h1
theorem an_35 {j : Nat} {κ : Int32 → rO} (h1 : j < 192) : aI (Hh k E A L T) (.ref 35) 0 (nI j) κ = κ (A 35 j) := by rw [ha_35 (nI_pos (by omega)) (by rw [nI_clamp (by omega)]; exact h1), nI_clamp (by omega)]
theorem sn_35 {j : Nat} {x : Int32} {κ : pH → rO} (h1 : j < 192) : sI (Hh k E A L T) (.ref 35) 0 (nI j) x κ = κ (Hh k E (up A 35 j x) L T) := by rw [hs_35 (nI_pos (by omega)) (by rw [nI_clamp (by omega)]; exact h1), nI_clamp (by omega)]
theorem dd_36 : (D0 k ++ E)[36]? = some (.inl (0, 6)) := rfl
theorem hl_36 {κ : Int32 → rO} : aLen (Hh k E A L T) (.ref 36) κ = κ (nI 6) := aLen_H dd_36 (by decide)
theorem ha_36 {i : Int32} {κ : Int32 → rO} (h0 : ¬ i < 0) (h1 : i.toNatClampNeg < 6) : aI (Hh k E A L T) (.ref 36) 0 i κ = κ (A 36 i.toNatClampNeg) := aI_H dd_36 (by decide) h0 h1
theorem hs_36 {i x : Int32} {κ : pH → rO} (h0 : ¬ i < 0) (h1 : i.toNatClampNeg < 6) : sI (Hh k E A L T) (.ref 36) 0 i x κ = κ (Hh k E (up A 36 i.toNatClampNeg x) L T) := sI_H dd_36 (by decide) h0 h1
theorem an_36 {j : Nat} {κ : Int32 → rO} (h1 : j < 6) : aI (Hh k E A L T) (.ref 36) 0 (nI j) κ = κ (A 36 j) := by rw [ha_36 (nI_pos (by omega)) (by rw [nI_clamp (by omega)]; exact h1), nI_clamp (by omega)]
theorem sn_36 {j : Nat} {x : Int32} {κ : pH → rO} (h1 : j < 6) : sI (Hh k E A L T) (.ref 36) 0 (nI j) x κ = κ (Hh k E (up A 36 j x) L T) := by rw [hs_36 (nI_pos (by omega)) (by rw [nI_clamp (by omega)]; exact h1), nI_clamp (by omega)]
theorem dd_37 : (D0 k ++ E)[37]? = some (.inl (3, 51)) := rfl
theorem hl_37 {κ : Int32 → rO} : aLen (Hh k E A L T) (.ref 37) κ = κ (nI 51) := aLen_H dd_37 (by decide)
theorem ha_37 {i : Int32} {κ : Int64 → rO} (h0 : ¬ i < 0) (h1 : i.toNatClampNeg < 51) : aJ (Hh k E A L T) (.ref 37) i κ = κ (L 37 i.toNatClampNeg) := aJ_H dd_37 h0 h1
theorem hs_37 {i : Int32} {x : Int64} {κ : pH → rO} (h0 : ¬ i < 0) (h1 : i.toNatClampNeg < 51) : sJ (Hh k E A L T) (.ref 37) i x κ = κ (Hh k E A (upL L 37 i.toNatClampNeg x) T) := sJ_H dd_37 h0 h1
theorem an_37 {j : Nat} {κ : Int64 → rO} (h1 : j < 51) : aJ (Hh k E A L T) (.ref 37) (nI j) κ = κ (L 37 j) := by rw [ha_37 (nI_pos (by omega)) (by rw [nI_clamp (by omega)]; exact h1), nI_clamp (by omega)]
theorem sn_37 {j : Nat} {x : Int64} {κ : pH → rO} (h1 : j < 51) : sJ (Hh k E A L T) (.ref 37) (nI j) x κ = κ (Hh k E A (upL L 37 j x) T) := by rw [hs_37 (nI_pos (by omega)) (by rw [nI_clamp (by omega)]; exact h1), nI_clamp (by omega)]
theorem dd_38 : (D0 k ++ E)[38]? = some (.inr (13, [some (.ref 4), some (.ref 9), some (.ref 11), some (.ref 22)])) := rfl
theorem hc_38 {κ : rO} : rC (Hh k E A L T) (.ref 38) 13 κ = κ := rC_H dd_38
theorem hv_38_0 {κ : Value → rO} : gV (Hh k E A L T) (.ref 38) 13 0 κ = κ (.ref 4) := gV_H dd_38 rfl rfl
theorem hv_38_1 {κ : Value → rO} : gV (Hh k E A L T) (.ref 38) 13 1 κ = κ (.ref 9) := gV_H dd_38 rfl rfl
theorem hv_38_2 {κ : Value → rO} : gV (Hh k E A L T) (.ref 38) 13 2 κ = κ (.ref 11) := gV_H dd_38 rfl rfl
theorem hv_38_3 {κ : Value → rO} : gV (Hh k E A L T) (.ref 38) 13 3 κ = κ (.ref 22) := gV_H dd_38 rfl rfl
theorem dd_39 : (D0 k ++ E)[39]? = some (.inr (15, [none, some (.ref 40), some (.ref 41), none, some (.ref 42), none, none, none, none, none, none, some (.ref 43), none, some (.ref 44), some (.ref 45), some (.ref 46), none, some (.ref 47)])) := rfl
theorem hc_39 {κ : rO} : rC (Hh k E A L T) (.ref 39) 15 κ = κ := rC_H dd_39
theorem hg_39_0 {κ : Int32 → rO} : gI (Hh k E A L T) (.ref 39) 15 0 κ = κ (A 39 0) := gI_H dd_39 rfl
theorem hp_39_0 {x : Int32} {κ : pH → rO} : pF (Hh k E A L T) (.ref 39) 15 0 (.int x) κ = κ (Hh k E (up A 39 0 x) L T) := pF_H dd_39 rfl
theorem hv_39_1 {κ : Value → rO} : gV (Hh k E A L T) (.ref 39) 15 1 κ = κ (.ref 40) := gV_H dd_39 rfl rfl
theorem hv_39_2 {κ : Value → rO} : gV (Hh k E A L T) (.ref 39) 15 2 κ = κ (.ref 41) := gV_H dd_39 rfl rfl
theorem hg_39_3 {κ : Int32 → rO} : gI (Hh k E A L T) (.ref 39) 15 3 κ = κ (A 39 3) := gI_H dd_39 rfl
theorem hp_39_3 {x : Int32} {κ : pH → rO} : pF (Hh k E A L T) (.ref 39) 15 3 (.int x) κ = κ (Hh k E (up A 39 3 x) L T) := pF_H dd_39 rfl
theorem hv_39_4 {κ : Value → rO} : gV (Hh k E A L T) (.ref 39) 15 4 κ = κ (.ref 42) := gV_H dd_39 rfl rfl
theorem hg_39_5 {κ : Int32 → rO} : gI (Hh k E A L T) (.ref 39) 15 5 κ = κ (A 39 5) := gI_H dd_39 rfl
theorem hp_39_5 {x : Int32} {κ : pH → rO} : pF (Hh k E A L T) (.ref 39) 15 5 (.int x) κ = κ (Hh k E (up A 39 5 x) L T) := pF_H dd_39 rfl
theorem hg_39_6 {κ : Int32 → rO} : gI (Hh k E A L T) (.ref 39) 15 6 κ = κ (A 39 6) := gI_H dd_39 rfl
theorem hp_39_6 {x : Int32} {κ : pH → rO} : pF (Hh k E A L T) (.ref 39) 15 6 (.int x) κ = κ (Hh k E (up A 39 6 x) L T) := pF_H dd_39 rfl
theorem hg_39_7 {κ : Int32 → rO} : gI (Hh k E A L T) (.ref 39) 15 7 κ = κ (A 39 7) := gI_H dd_39 rfl
theorem hp_39_7 {x : Int32} {κ : pH → rO} : pF (Hh k E A L T) (.ref 39) 15 7 (.int x) κ = κ (Hh k E (up A 39 7 x) L T) := pF_H dd_39 rfl
theorem hg_39_8 {κ : Int32 → rO} : gI (Hh k E A L T) (.ref 39) 15 8 κ = κ (A 39 8) := gI_H dd_39 rfl
theorem hp_39_8 {x : Int32} {κ : pH → rO} : pF (Hh k E A L T) (.ref 39) 15 8 (.int x) κ = κ (Hh k E (up A 39 8 x) L T) := pF_H dd_39 rfl
theorem hg_39_9 {κ : Int32 → rO} : gI (Hh k E A L T) (.ref 39) 15 9 κ = κ (A 39 9) := gI_H dd_39 rfl
theorem hp_39_9 {x : Int32} {κ : pH → rO} : pF (Hh k E A L T) (.ref 39) 15 9 (.int x) κ = κ (Hh k E (up A 39 9 x) L T) := pF_H dd_39 rfl
theorem hg_39_10 {κ : Int32 → rO} : gI (Hh k E A L T) (.ref 39) 15 10 κ = κ (A 39 10) := gI_H dd_39 rfl
theorem hp_39_10 {x : Int32} {κ : pH → rO} : pF (Hh k E A L T) (.ref 39) 15 10 (.int x) κ = κ (Hh k E (up A 39 10 x) L T) := pF_H dd_39 rfl
theorem hv_39_11 {κ : Value → rO} : gV (Hh k E A L T) (.ref 39) 15 11 κ = κ (.ref 43) := gV_H dd_39 rfl rfl
theorem hg_39_12 {κ : Int32 → rO} : gI (Hh k E A L T) (.ref 39) 15 12 κ = κ (A 39 12) := gI_H dd_39 rfl
theorem hp_39_12 {x : Int32} {κ : pH → rO} : pF (Hh k E A L T) (.ref 39) 15 12 (.int x) κ = κ (Hh k E (up A 39 12 x) L T) := pF_H dd_39 rfl
theorem hv_39_13 {κ : Value → rO} : gV (Hh k E A L T) (.ref 39) 15 13 κ = κ (.ref 44) := gV_H dd_39 rfl rfl
theorem hv_39_14 {κ : Value → rO} : gV (Hh k E A L T) (.ref 39) 15 14 κ = κ (.ref 45) := gV_H dd_39 rfl rfl
theorem hv_39_15 {κ : Value → rO} : gV (Hh k E A L T) (.ref 39) 15 15 κ = κ (.ref 46) := gV_H dd_39 rfl rfl
theorem hg_39_16 {κ : Int32 → rO} : gI (Hh k E A L T) (.ref 39) 15 16 κ = κ (A 39 16) := gI_H dd_39 rfl
theorem hp_39_16 {x : Int32} {κ : pH → rO} : pF (Hh k E A L T) (.ref 39) 15 16 (.int x) κ = κ (Hh k E (up A 39 16 x) L T) := pF_H dd_39 rfl
theorem hv_39_17 {κ : Value → rO} : gV (Hh k E A L T) (.ref 39) 15 17 κ = κ (.ref 47) := gV_H dd_39 rfl rfl
theorem dd_40 : (D0 k ++ E)[40]? = some (.inl (0, 35877)) := rfl
theorem hl_40 {κ : Int32 → rO} : aLen (Hh k E A L T) (.ref 40) κ = κ (nI 35877) := aLen_H dd_40 (by decide)
theorem ha_40 {i : Int32} {κ : Int32 → rO} (h0 : ¬ i < 0) (h1 : i.toNatClampNeg < 35877) : aI (Hh k E A L T) (.ref 40) 0 i κ = κ (A 40 i.toNatClampNeg) := aI_H dd_40 (by decide) h0 h1
theorem hs_40 {i x : Int32} {κ : pH → rO} (h0 : ¬ i < 0) (h1 : i.toNatClampNeg < 35877) : sI (Hh k E A L T) (.ref 40) 0 i x κ = κ (Hh k E (up A 40 i.toNatClampNeg x) L T) := sI_H dd_40 (by decide) h0 h1
theorem an_40 {j : Nat} {κ : Int32 → rO} (h1 : j < 35877) : aI (Hh k E A L T) (.ref 40) 0 (nI j) κ = κ (A 40 j) := by rw [ha_40 (nI_pos (by omega)) (by rw [nI_clamp (by omega)]; exact h1), nI_clamp (by omega)]
theorem sn_40 {j : Nat} {x : Int32} {κ : pH → rO} (h1 : j < 35877) : sI (Hh k E A L T) (.ref 40) 0 (nI j) x κ = κ (Hh k E (up A 40 j x) L T) := by rw [hs_40 (nI_pos (by omega)) (by rw [nI_clamp (by omega)]; exact h1), nI_clamp (by omega)]
theorem dd_41 : (D0 k ++ E)[41]? = some (.inl (0, 34979)) := rfl
theorem hl_41 {κ : Int32 → rO} : aLen (Hh k E A L T) (.ref 41) κ = κ (nI 34979) := aLen_H dd_41 (by decide)
theorem ha_41 {i : Int32} {κ : Int32 → rO} (h0 : ¬ i < 0) (h1 : i.toNatClampNeg < 34979) : aI (Hh k E A L T) (.ref 41) 0 i κ = κ (A 41 i.toNatClampNeg) := aI_H dd_41 (by decide) h0 h1
theorem hs_41 {i x : Int32} {κ : pH → rO} (h0 : ¬ i < 0) (h1 : i.toNatClampNeg < 34979) : sI (Hh k E A L T) (.ref 41) 0 i x κ = κ (Hh k E (up A 41 i.toNatClampNeg x) L T) := sI_H dd_41 (by decide) h0 h1
theorem an_41 {j : Nat} {κ : Int32 → rO} (h1 : j < 34979) : aI (Hh k E A L T) (.ref 41) 0 (nI j) κ = κ (A 41 j) := by rw [ha_41 (nI_pos (by omega)) (by rw [nI_clamp (by omega)]; exact h1), nI_clamp (by omega)]
theorem sn_41 {j : Nat} {x : Int32} {κ : pH → rO} (h1 : j < 34979) : sI (Hh k E A L T) (.ref 41) 0 (nI j) x κ = κ (Hh k E (up A 41 j x) L T) := by rw [hs_41 (nI_pos (by omega)) (by rw [nI_clamp (by omega)]; exact h1), nI_clamp (by omega)]
theorem dd_42 : (D0 k ++ E)[42]? = some (.inl (1, 400)) := rfl
theorem hl_42 {κ : Int32 → rO} : aLen (Hh k E A L T) (.ref 42) κ = κ (nI 400) := aLen_H dd_42 (by decide)
theorem ha_42 {i : Int32} {κ : Int32 → rO} (h0 : ¬ i < 0) (h1 : i.toNatClampNeg < 400) : aI (Hh k E A L T) (.ref 42) 1 i κ = κ (A 42 i.toNatClampNeg) := aI_H dd_42 (by decide) h0 h1
theorem hs_42 {i x : Int32} {κ : pH → rO} (h0 : ¬ i < 0) (h1 : i.toNatClampNeg < 400) : sI (Hh k E A L T) (.ref 42) 1 i x κ = κ (Hh k E (up A 42 i.toNatClampNeg x) L T) := sI_H dd_42 (by decide) h0 h1
theorem an_42 {j : Nat} {κ : Int32 → rO} (h1 : j < 400) : aI (Hh k E A L T) (.ref 42) 1 (nI j) κ = κ (A 42 j) := by rw [ha_42 (nI_pos (by omega)) (by rw [nI_clamp (by omega)]; exact h1), nI_clamp (by omega)]
theorem sn_42 {j : Nat} {x : Int32} {κ : pH → rO} (h1 : j < 400) : sI (Hh k E A L T) (.ref 42) 1 (nI j) x κ = κ (Hh k E (up A 42 j x) L T) := by rw [hs_42 (nI_pos (by omega)) (by rw [nI_clamp (by omega)]; exact h1), nI_clamp (by omega)]
theorem dd_43 : (D0 k ++ E)[43]? = some (.inl (0, 5)) := rfl
theorem hl_43 {κ : Int32 → rO} : aLen (Hh k E A L T) (.ref 43) κ = κ (nI 5) := aLen_H dd_43 (by decide)
theorem ha_43 {i : Int32} {κ : Int32 → rO} (h0 : ¬ i < 0) (h1 : i.toNatClampNeg < 5) : aI (Hh k E A L T) (.ref 43) 0 i κ = κ (A 43 i.toNatClampNeg) := aI_H dd_43 (by decide) h0 h1
theorem hs_43 {i x : Int32} {κ : pH → rO} (h0 : ¬ i < 0) (h1 : i.toNatClampNeg < 5) : sI (Hh k E A L T) (.ref 43) 0 i x κ = κ (Hh k E (up A 43 i.toNatClampNeg x) L T) := sI_H dd_43 (by decide) h0 h1
theorem an_43 {j : Nat} {κ : Int32 → rO} (h1 : j < 5) : aI (Hh k E A L T) (.ref 43) 0 (nI j) κ = κ (A 43 j) := by rw [ha_43 (nI_pos (by omega)) (by rw [nI_clamp (by omega)]; exact h1), nI_clamp (by omega)]
theorem sn_43 {j : Nat} {x : Int32} {κ : pH → rO} (h1 : j < 5) : sI (Hh k E A L T) (.ref 43) 0 (nI j) x κ = κ (Hh k E (up A 43 j x) L T) := by rw [hs_43 (nI_pos (by omega)) (by rw [nI_clamp (by omega)]; exact h1), nI_clamp (by omega)]
theorem dd_44 : (D0 k ++ E)[44]? = some (.inl (3, 400)) := rfl
theorem hl_44 {κ : Int32 → rO} : aLen (Hh k E A L T) (.ref 44) κ = κ (nI 400) := aLen_H dd_44 (by decide)
theorem ha_44 {i : Int32} {κ : Int64 → rO} (h0 : ¬ i < 0) (h1 : i.toNatClampNeg < 400) : aJ (Hh k E A L T) (.ref 44) i κ = κ (L 44 i.toNatClampNeg) := aJ_H dd_44 h0 h1
theorem hs_44 {i : Int32} {x : Int64} {κ : pH → rO} (h0 : ¬ i < 0) (h1 : i.toNatClampNeg < 400) : sJ (Hh k E A L T) (.ref 44) i x κ = κ (Hh k E A (upL L 44 i.toNatClampNeg x) T) := sJ_H dd_44 h0 h1
theorem an_44 {j : Nat} {κ : Int64 → rO} (h1 : j < 400) : aJ (Hh k E A L T) (.ref 44) (nI j) κ = κ (L 44 j) := by rw [ha_44 (nI_pos (by omega)) (by rw [nI_clamp (by omega)]; exact h1), nI_clamp (by omega)]
theorem sn_44 {j : Nat} {x : Int64} {κ : pH → rO} (h1 : j < 400) : sJ (Hh k E A L T) (.ref 44) (nI j) x κ = κ (Hh k E A (upL L 44 j x) T) := by rw [hs_44 (nI_pos (by omega)) (by rw [nI_clamp (by omega)]; exact h1), nI_clamp (by omega)]
theorem dd_45 : (D0 k ++ E)[45]? = some (.inl (3, 11)) := rfl
theorem hl_45 {κ : Int32 → rO} : aLen (Hh k E A L T) (.ref 45) κ = κ (nI 11) := aLen_H dd_45 (by decide)
theorem ha_45 {i : Int32} {κ : Int64 → rO} (h0 : ¬ i < 0) (h1 : i.toNatClampNeg < 11) : aJ (Hh k E A L T) (.ref 45) i κ = κ (L 45 i.toNatClampNeg) := aJ_H dd_45 h0 h1
theorem hs_45 {i : Int32} {x : Int64} {κ : pH → rO} (h0 : ¬ i < 0) (h1 : i.toNatClampNeg < 11) : sJ (Hh k E A L T) (.ref 45) i x κ = κ (Hh k E A (upL L 45 i.toNatClampNeg x) T) := sJ_H dd_45 h0 h1
theorem an_45 {j : Nat} {κ : Int64 → rO} (h1 : j < 11) : aJ (Hh k E A L T) (.ref 45) (nI j) κ = κ (L 45 j) := by rw [ha_45 (nI_pos (by omega)) (by rw [nI_clamp (by omega)]; exact h1), nI_clamp (by omega)]
theorem sn_45 {j : Nat} {x : Int64} {κ : pH → rO} (h1 : j < 11) : sJ (Hh k E A L T) (.ref 45) (nI j) x κ = κ (Hh k E A (upL L 45 j x) T) := by rw [hs_45 (nI_pos (by omega)) (by rw [nI_clamp (by omega)]; exact h1), nI_clamp (by omega)]
theorem dd_46 : (D0 k ++ E)[46]? = some (.inl (0, 12)) := rfl
theorem hl_46 {κ : Int32 → rO} : aLen (Hh k E A L T) (.ref 46) κ = κ (nI 12) := aLen_H dd_46 (by decide)
theorem ha_46 {i : Int32} {κ : Int32 → rO} (h0 : ¬ i < 0) (h1 : i.toNatClampNeg < 12) : aI (Hh k E A L T) (.ref 46) 0 i κ = κ (A 46 i.toNatClampNeg) := aI_H dd_46 (by decide) h0 h1
theorem hs_46 {i x : Int32} {κ : pH → rO} (h0 : ¬ i < 0) (h1 : i.toNatClampNeg < 12) : sI (Hh k E A L T) (.ref 46) 0 i x κ = κ (Hh k E (up A 46 i.toNatClampNeg x) L T) := sI_H dd_46 (by decide) h0 h1
theorem an_46 {j : Nat} {κ : Int32 → rO} (h1 : j < 12) : aI (Hh k E A L T) (.ref 46) 0 (nI j) κ = κ (A 46 j) := by rw [ha_46 (nI_pos (by omega)) (by rw [nI_clamp (by omega)]; exact h1), nI_clamp (by omega)]
theorem sn_46 {j : Nat} {x : Int32} {κ : pH → rO} (h1 : j < 12) : sI (Hh k E A L T) (.ref 46) 0 (nI j) x κ = κ (Hh k E (up A 46 j x) L T) := by rw [hs_46 (nI_pos (by omega)) (by rw [nI_clamp (by omega)]; exact h1), nI_clamp (by omega)]
theorem dd_47 : (D0 k ++ E)[47]? = some (.inl (2, 24)) := rfl
theorem hl_47 {κ : Int32 → rO} : aLen (Hh k E A L T) (.ref 47) κ = κ (nI 24) := aLen_H dd_47 (by decide)
theorem ha_47 {i : Int32} {κ : Int32 → rO} (h0 : ¬ i < 0) (h1 : i.toNatClampNeg < 24) : aI (Hh k E A L T) (.ref 47) 2 i κ = κ (A 47 i.toNatClampNeg) := aI_H dd_47 (by decide) h0 h1
theorem hs_47 {i x : Int32} {κ : pH → rO} (h0 : ¬ i < 0) (h1 : i.toNatClampNeg < 24) : sI (Hh k E A L T) (.ref 47) 2 i x κ = κ (Hh k E (up A 47 i.toNatClampNeg x) L T) := sI_H dd_47 (by decide) h0 h1
theorem an_47 {j : Nat} {κ : Int32 → rO} (h1 : j < 24) : aI (Hh k E A L T) (.ref 47) 2 (nI j) κ = κ (A 47 j) := by rw [ha_47 (nI_pos (by omega)) (by rw [nI_clamp (by omega)]; exact h1), nI_clamp (by omega)]
theorem sn_47 {j : Nat} {x : Int32} {κ : pH → rO} (h1 : j < 24) : sI (Hh k E A L T) (.ref 47) 2 (nI j) x κ = κ (Hh k E (up A 47 j x) L T) := by rw [hs_47 (nI_pos (by omega)) (by rw [nI_clamp (by omega)]; exact h1), nI_clamp (by omega)]
theorem dd_48 : (D0 k ++ E)[48]? = some (.inl (3, 1)) := rfl
theorem hl_48 {κ : Int32 → rO} : aLen (Hh k E A L T) (.ref 48) κ = κ (nI 1) := aLen_H dd_48 (by decide)
theorem ha_48 {i : Int32} {κ : Int64 → rO} (h0 : ¬ i < 0) (h1 : i.toNatClampNeg < 1) : aJ (Hh k E A L T) (.ref 48) i κ = κ (L 48 i.toNatClampNeg) := aJ_H dd_48 h0 h1
theorem hs_48 {i : Int32} {x : Int64} {κ : pH → rO} (h0 : ¬ i < 0) (h1 : i.toNatClampNeg < 1) : sJ (Hh k E A L T) (.ref 48) i x κ = κ (Hh k E A (upL L 48 i.toNatClampNeg x) T) := sJ_H dd_48 h0 h1
theorem an_48 {j : Nat} {κ : Int64 → rO} (h1 : j < 1) : aJ (Hh k E A L T) (.ref 48) (nI j) κ = κ (L 48 j) := by rw [ha_48 (nI_pos (by omega)) (by rw [nI_clamp (by omega)]; exact h1), nI_clamp (by omega)]
theorem sn_48 {j : Nat} {x : Int64} {κ : pH → rO} (h1 : j < 1) : sJ (Hh k E A L T) (.ref 48) (nI j) x κ = κ (Hh k E A (upL L 48 j x) T) := by rw [hs_48 (nI_pos (by omega)) (by rw [nI_clamp (by omega)]; exact h1), nI_clamp (by omega)]
theorem q_I {x : Int32} {h : pH} {κ : Int32 → pH → rO} : cI (some (.inl (some (.int x)), h)) κ = κ x h := (rfl)
theorem q_J {x : Int64} {h : pH} {κ : Int64 → pH → rO} : cJ (some (.inl (some (.long x)), h)) κ = κ x h := (rfl)
theorem q_A {a : Nat} {h : pH} {κ : Value → pH → rO} : cA (some (.inl (some (.ref a)), h)) κ = κ (.ref a) h := (rfl)
theorem q_S {a : Nat} {h : pH} {κ : Value → pH → rO} : cA (some (.inl (some (.retAddr a)), h)) κ = κ (.retAddr a) h := (rfl)
theorem q_U {h : pH} {κ : pH → rO} : cU (some (.inl none, h)) κ = κ h := (rfl)
theorem q_Ix {t : String → pH → rO} {x : Int32} {h : pH} {κ : Int32 → pH → rO} : cIx t (some (.inl (some (.int x)), h)) κ = κ x h := (rfl)
theorem q_Ux {t : String → pH → rO} {h : pH} {κ : pH → rO} : cUx t (some (.inl none, h)) κ = κ h := (rfl)
theorem q_Ie {e : String} {h : pH} {κ : Int32 → pH → rO} : cI (some (.inr e, h)) κ = some (.inr e, h) := (rfl)
theorem q_Ue {e : String} {h : pH} {κ : pH → rO} : cU (some (.inr e, h)) κ = some (.inr e, h) := (rfl)
theorem q_Ixe {t : String → pH → rO} {e : String} {h : pH} {κ : Int32 → pH → rO} : cIx t (some (.inr e, h)) κ = t e h := (rfl)
theorem q_Uxe {t : String → pH → rO} {e : String} {h : pH} {κ : pH → rO} : cUx t (some (.inr e, h)) κ = t e h := (rfl)
theorem q_z0 {κ : rO} : zR 0 κ = κ := (rfl)
theorem q_z1 {κ : rO} : zR 1 κ = κ := (rfl)
theorem q_iR {a : Nat} {κ : rO} : iA (.ref a) κ = κ := (rfl)
theorem q_iN {κ : rO} : iA .null κ = κ := (rfl)
theorem q_iS {a : Nat} {κ : rO} : iA (.retAddr a) κ = κ := (rfl)
theorem q_nr {a : Nat} {κ : rO} : nl (.ref a) κ = κ := (rfl)
theorem q_nn {κ : rO} : nl .null κ = κ := (rfl)
theorem q_ni {x : Int32} {κ : rO} : nl (.int x) κ = κ := (rfl)
theorem q_zn {x y : rO} : nz .null x y = x := (rfl)
theorem q_zr {a : Nat} {x y : rO} : nz (.ref a) x y = y := (rfl)
theorem q_u0 {κ : rO} : undO none κ = κ := (rfl)
theorem q_ui {x : Int32} {κ : rO} : undO (some (.int x)) κ = κ := (rfl)
theorem q_ur {a : Nat} {κ : rO} : undO (some (.ref a)) κ = κ := (rfl)
theorem q_rf {a : Nat} : va_rf (some a) = .ref a := (rfl)
theorem q_rn : va_rf none = .null := (rfl)
theorem dv_ne {y : Int32} {κ : rO} (h : y ≠ 0) : dv y κ = κ := by simp [dv, h]
theorem dvJ_ne {y : Int64} {κ : rO} (h : y ≠ 0) : dvJ y κ = κ := by simp [dvJ, h]
end Base
