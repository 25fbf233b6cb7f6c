/-! by program: cells at literal places -/
section Lits
variable {k : Value} {E : List dsc} {A : fA} {L : fL} {T : fT}
theorem aw_40_0 {κ : Int32 → rO} : aI (Hh k E A L T) (.ref 40) 0 0 κ = κ (A 40 0) := an_40 (j := 0) (by decide)
theorem sw_40_0 {x : Int32} {κ : pH → rO} : sI (Hh k E A L T) (.ref 40) 0 0 x κ = κ (Hh k E (up A 40 0 x) L T) := sn_40 (j := 0) (by decide)
theorem aw_40_1 {κ : Int32 → rO} : aI (Hh k E A L T) (.ref 40) 0 1 κ = κ (A 40 1) := an_40 (j := 1) (by decide)
theorem sw_40_1 {x : Int32} {κ : pH → rO} : sI (Hh k E A L T) (.ref 40) 0 1 x κ = κ (Hh k E (up A 40 1 x) L T) := sn_40 (j := 1) (by decide)
theorem aw_40_2 {κ : Int32 → rO} : aI (Hh k E A L T) (.ref 40) 0 2 κ = κ (A 40 2) := an_40 (j := 2) (by decide)
theorem sw_40_2 {x : Int32} {κ : pH → rO} : sI (Hh k E A L T) (.ref 40) 0 2 x κ = κ (Hh k E (up A 40 2 x) L T) := sn_40 (j := 2) (by decide)
theorem aw_40_3 {κ : Int32 → rO} : aI (Hh k E A L T) (.ref 40) 0 3 κ = κ (A 40 3) := an_40 (j := 3) (by decide)
theorem sw_40_3 {x : Int32} {κ : pH → rO} : sI (Hh k E A L T) (.ref 40) 0 3 x κ = κ (Hh k E (up A 40 3 x) L T) := sn_40 (j := 3) (by decide)
theorem aw_40_4 {κ : Int32 → rO} : aI (Hh k E A L T) (.ref 40) 0 4 κ = κ (A 40 4) := an_40 (j := 4) (by decide)
theorem sw_40_4 {x : Int32} {κ : pH → rO} : sI (Hh k E A L T) (.ref 40) 0 4 x κ = κ (Hh k E (up A 40 4 x) L T) := sn_40 (j := 4) (by decide)
theorem aw_40_5 {κ : Int32 → rO} : aI (Hh k E A L T) (.ref 40) 0 5 κ = κ (A 40 5) := an_40 (j := 5) (by decide)
theorem sw_40_5 {x : Int32} {κ : pH → rO} : sI (Hh k E A L T) (.ref 40) 0 5 x κ = κ (Hh k E (up A 40 5 x) L T) := sn_40 (j := 5) (by decide)
theorem aw_40_6 {κ : Int32 → rO} : aI (Hh k E A L T) (.ref 40) 0 6 κ = κ (A 40 6) := an_40 (j := 6) (by decide)
theorem sw_40_6 {x : Int32} {κ : pH → rO} : sI (Hh k E A L T) (.ref 40) 0 6 x κ = κ (Hh k E (up A 40 6 x) L T) := sn_40 (j := 6) (by decide)
theorem aw_40_7 {κ : Int32 → rO} : aI (Hh k E A L T) (.ref 40) 0 7 κ = κ (A 40 7) := an_40 (j := 7) (by decide)
theorem sw_40_7 {x : Int32} {κ : pH → rO} : sI (Hh k E A L T) (.ref 40) 0 7 x κ = κ (Hh k E (up A 40 7 x) L T) := sn_40 (j := 7) (by decide)
theorem aw_40_882 {κ : Int32 → rO} : aI (Hh k E A L T) (.ref 40) 0 882 κ = κ (A 40 882) := an_40 (j := 882) (by decide)
theorem sw_40_882 {x : Int32} {κ : pH → rO} : sI (Hh k E A L T) (.ref 40) 0 882 x κ = κ (Hh k E (up A 40 882 x) L T) := sn_40 (j := 882) (by decide)
theorem aw_40_1683 {κ : Int32 → rO} : aI (Hh k E A L T) (.ref 40) 0 1683 κ = κ (A 40 1683) := an_40 (j := 1683) (by decide)
theorem sw_40_1683 {x : Int32} {κ : pH → rO} : sI (Hh k E A L T) (.ref 40) 0 1683 x κ = κ (Hh k E (up A 40 1683 x) L T) := sn_40 (j := 1683) (by decide)
theorem aw_40_1948 {κ : Int32 → rO} : aI (Hh k E A L T) (.ref 40) 0 1948 κ = κ (A 40 1948) := an_40 (j := 1948) (by decide)
theorem sw_40_1948 {x : Int32} {κ : pH → rO} : sI (Hh k E A L T) (.ref 40) 0 1948 x κ = κ (Hh k E (up A 40 1948 x) L T) := sn_40 (j := 1948) (by decide)
theorem aw_40_2237 {κ : Int32 → rO} : aI (Hh k E A L T) (.ref 40) 0 2237 κ = κ (A 40 2237) := an_40 (j := 2237) (by decide)
theorem sw_40_2237 {x : Int32} {κ : pH → rO} : sI (Hh k E A L T) (.ref 40) 0 2237 x κ = κ (Hh k E (up A 40 2237 x) L T) := sn_40 (j := 2237) (by decide)
theorem aw_40_2256 {κ : Int32 → rO} : aI (Hh k E A L T) (.ref 40) 0 2256 κ = κ (A 40 2256) := an_40 (j := 2256) (by decide)
theorem sw_40_2256 {x : Int32} {κ : pH → rO} : sI (Hh k E A L T) (.ref 40) 0 2256 x κ = κ (Hh k E (up A 40 2256 x) L T) := sn_40 (j := 2256) (by decide)
theorem aw_40_2265 {κ : Int32 → rO} : aI (Hh k E A L T) (.ref 40) 0 2265 κ = κ (A 40 2265) := an_40 (j := 2265) (by decide)
theorem sw_40_2265 {x : Int32} {κ : pH → rO} : sI (Hh k E A L T) (.ref 40) 0 2265 x κ = κ (Hh k E (up A 40 2265 x) L T) := sn_40 (j := 2265) (by decide)
theorem aw_40_2650 {κ : Int32 → rO} : aI (Hh k E A L T) (.ref 40) 0 2650 κ = κ (A 40 2650) := an_40 (j := 2650) (by decide)
theorem sw_40_2650 {x : Int32} {κ : pH → rO} : sI (Hh k E A L T) (.ref 40) 0 2650 x κ = κ (Hh k E (up A 40 2650 x) L T) := sn_40 (j := 2650) (by decide)
theorem aw_43_0 {κ : Int32 → rO} : aI (Hh k E A L T) (.ref 43) 0 0 κ = κ (A 43 0) := an_43 (j := 0) (by decide)
theorem sw_43_0 {x : Int32} {κ : pH → rO} : sI (Hh k E A L T) (.ref 43) 0 0 x κ = κ (Hh k E (up A 43 0 x) L T) := sn_43 (j := 0) (by decide)
theorem aw_43_1 {κ : Int32 → rO} : aI (Hh k E A L T) (.ref 43) 0 1 κ = κ (A 43 1) := an_43 (j := 1) (by decide)
theorem sw_43_1 {x : Int32} {κ : pH → rO} : sI (Hh k E A L T) (.ref 43) 0 1 x κ = κ (Hh k E (up A 43 1 x) L T) := sn_43 (j := 1) (by decide)
theorem aw_43_2 {κ : Int32 → rO} : aI (Hh k E A L T) (.ref 43) 0 2 κ = κ (A 43 2) := an_43 (j := 2) (by decide)
theorem sw_43_2 {x : Int32} {κ : pH → rO} : sI (Hh k E A L T) (.ref 43) 0 2 x κ = κ (Hh k E (up A 43 2 x) L T) := sn_43 (j := 2) (by decide)
theorem aw_43_3 {κ : Int32 → rO} : aI (Hh k E A L T) (.ref 43) 0 3 κ = κ (A 43 3) := an_43 (j := 3) (by decide)
theorem sw_43_3 {x : Int32} {κ : pH → rO} : sI (Hh k E A L T) (.ref 43) 0 3 x κ = κ (Hh k E (up A 43 3 x) L T) := sn_43 (j := 3) (by decide)
theorem aw_43_4 {κ : Int32 → rO} : aI (Hh k E A L T) (.ref 43) 0 4 κ = κ (A 43 4) := an_43 (j := 4) (by decide)
theorem sw_43_4 {x : Int32} {κ : pH → rO} : sI (Hh k E A L T) (.ref 43) 0 4 x κ = κ (Hh k E (up A 43 4 x) L T) := sn_43 (j := 4) (by decide)
theorem aw_31_0 {κ : Int32 → rO} : aI (Hh k E A L T) (.ref 31) 0 0 κ = κ (A 31 0) := an_31 (j := 0) (by decide)
theorem sw_31_0 {x : Int32} {κ : pH → rO} : sI (Hh k E A L T) (.ref 31) 0 0 x κ = κ (Hh k E (up A 31 0 x) L T) := sn_31 (j := 0) (by decide)
theorem aw_32_0 {κ : Int32 → rO} : aI (Hh k E A L T) (.ref 32) 0 0 κ = κ (A 32 0) := an_32 (j := 0) (by decide)
theorem sw_32_0 {x : Int32} {κ : pH → rO} : sI (Hh k E A L T) (.ref 32) 0 0 x κ = κ (Hh k E (up A 32 0 x) L T) := sn_32 (j := 0) (by decide)
theorem aw_37_0 {κ : Int64 → rO} : aJ (Hh k E A L T) (.ref 37) 0 κ = κ (L 37 0) := an_37 (j := 0) (by decide)
theorem sw_37_0 {x : Int64} {κ : pH → rO} : sJ (Hh k E A L T) (.ref 37) 0 x κ = κ (Hh k E A (upL L 37 0 x) T) := sn_37 (j := 0) (by decide)
theorem aw_37_1 {κ : Int64 → rO} : aJ (Hh k E A L T) (.ref 37) 1 κ = κ (L 37 1) := an_37 (j := 1) (by decide)
theorem sw_37_1 {x : Int64} {κ : pH → rO} : sJ (Hh k E A L T) (.ref 37) 1 x κ = κ (Hh k E A (upL L 37 1 x) T) := sn_37 (j := 1) (by decide)
theorem aw_37_2 {κ : Int64 → rO} : aJ (Hh k E A L T) (.ref 37) 2 κ = κ (L 37 2) := an_37 (j := 2) (by decide)
theorem sw_37_2 {x : Int64} {κ : pH → rO} : sJ (Hh k E A L T) (.ref 37) 2 x κ = κ (Hh k E A (upL L 37 2 x) T) := sn_37 (j := 2) (by decide)
theorem aw_37_3 {κ : Int64 → rO} : aJ (Hh k E A L T) (.ref 37) 3 κ = κ (L 37 3) := an_37 (j := 3) (by decide)
theorem sw_37_3 {x : Int64} {κ : pH → rO} : sJ (Hh k E A L T) (.ref 37) 3 x κ = κ (Hh k E A (upL L 37 3 x) T) := sn_37 (j := 3) (by decide)
theorem aw_37_4 {κ : Int64 → rO} : aJ (Hh k E A L T) (.ref 37) 4 κ = κ (L 37 4) := an_37 (j := 4) (by decide)
theorem sw_37_4 {x : Int64} {κ : pH → rO} : sJ (Hh k E A L T) (.ref 37) 4 x κ = κ (Hh k E A (upL L 37 4 x) T) := sn_37 (j := 4) (by decide)
theorem aw_37_5 {κ : Int64 → rO} : aJ (Hh k E A L T) (.ref 37) 5 κ = κ (L 37 5) := an_37 (j := 5) (by decide)
theorem sw_37_5 {x : Int64} {κ : pH → rO} : sJ (Hh k E A L T) (.ref 37) 5 x κ = κ (Hh k E A (upL L 37 5 x) T) := sn_37 (j := 5) (by decide)
theorem aw_37_6 {κ : Int64 → rO} : aJ (Hh k E A L T) (.ref 37) 6 κ = κ (L 37 6) := an_37 (j := 6) (by decide)
theorem sw_37_6 {x : Int64} {κ : pH → rO} : sJ (Hh k E A L T) (.ref 37) 6 x κ = κ (Hh k E A (upL L 37 6 x) T) := sn_37 (j := 6) (by decide)
theorem aw_37_7 {κ : Int64 → rO} : aJ (Hh k E A L T) (.ref 37) 7 κ = κ (L 37 7) := an_37 (j := 7) (by decide)
theorem sw_37_7 {x : Int64} {κ : pH → rO} : sJ (Hh k E A L T) (.ref 37) 7 x κ = κ (Hh k E A (upL L 37 7 x) T) := sn_37 (j := 7) (by decide)
theorem aw_37_8 {κ : Int64 → rO} : aJ (Hh k E A L T) (.ref 37) 8 κ = κ (L 37 8) := an_37 (j := 8) (by decide)
theorem sw_37_8 {x : Int64} {κ : pH → rO} : sJ (Hh k E A L T) (.ref 37) 8 x κ = κ (Hh k E A (upL L 37 8 x) T) := sn_37 (j := 8) (by decide)
theorem aw_37_9 {κ : Int64 → rO} : aJ (Hh k E A L T) (.ref 37) 9 κ = κ (L 37 9) := an_37 (j := 9) (by decide)
theorem sw_37_9 {x : Int64} {κ : pH → rO} : sJ (Hh k E A L T) (.ref 37) 9 x κ = κ (Hh k E A (upL L 37 9 x) T) := sn_37 (j := 9) (by decide)
theorem aw_37_10 {κ : Int64 → rO} : aJ (Hh k E A L T) (.ref 37) 10 κ = κ (L 37 10) := an_37 (j := 10) (by decide)
theorem sw_37_10 {x : Int64} {κ : pH → rO} : sJ (Hh k E A L T) (.ref 37) 10 x κ = κ (Hh k E A (upL L 37 10 x) T) := sn_37 (j := 10) (by decide)
theorem aw_37_11 {κ : Int64 → rO} : aJ (Hh k E A L T) (.ref 37) 11 κ = κ (L 37 11) := an_37 (j := 11) (by decide)
theorem sw_37_11 {x : Int64} {κ : pH → rO} : sJ (Hh k E A L T) (.ref 37) 11 x κ = κ (Hh k E A (upL L 37 11 x) T) := sn_37 (j := 11) (by decide)
theorem aw_45_0 {κ : Int64 → rO} : aJ (Hh k E A L T) (.ref 45) 0 κ = κ (L 45 0) := an_45 (j := 0) (by decide)
theorem sw_45_0 {x : Int64} {κ : pH → rO} : sJ (Hh k E A L T) (.ref 45) 0 x κ = κ (Hh k E A (upL L 45 0 x) T) := sn_45 (j := 0) (by decide)
theorem aw_45_1 {κ : Int64 → rO} : aJ (Hh k E A L T) (.ref 45) 1 κ = κ (L 45 1) := an_45 (j := 1) (by decide)
theorem sw_45_1 {x : Int64} {κ : pH → rO} : sJ (Hh k E A L T) (.ref 45) 1 x κ = κ (Hh k E A (upL L 45 1 x) T) := sn_45 (j := 1) (by decide)
theorem aw_45_2 {κ : Int64 → rO} : aJ (Hh k E A L T) (.ref 45) 2 κ = κ (L 45 2) := an_45 (j := 2) (by decide)
theorem sw_45_2 {x : Int64} {κ : pH → rO} : sJ (Hh k E A L T) (.ref 45) 2 x κ = κ (Hh k E A (upL L 45 2 x) T) := sn_45 (j := 2) (by decide)
theorem aw_45_3 {κ : Int64 → rO} : aJ (Hh k E A L T) (.ref 45) 3 κ = κ (L 45 3) := an_45 (j := 3) (by decide)
theorem sw_45_3 {x : Int64} {κ : pH → rO} : sJ (Hh k E A L T) (.ref 45) 3 x κ = κ (Hh k E A (upL L 45 3 x) T) := sn_45 (j := 3) (by decide)
theorem aw_45_4 {κ : Int64 → rO} : aJ (Hh k E A L T) (.ref 45) 4 κ = κ (L 45 4) := an_45 (j := 4) (by decide)
theorem sw_45_4 {x : Int64} {κ : pH → rO} : sJ (Hh k E A L T) (.ref 45) 4 x κ = κ (Hh k E A (upL L 45 4 x) T) := sn_45 (j := 4) (by decide)
theorem aw_45_5 {κ : Int64 → rO} : aJ (Hh k E A L T) (.ref 45) 5 κ = κ (L 45 5) := an_45 (j := 5) (by decide)
theorem sw_45_5 {x : Int64} {κ : pH → rO} : sJ (Hh k E A L T) (.ref 45) 5 x κ = κ (Hh k E A (upL L 45 5 x) T) := sn_45 (j := 5) (by decide)
theorem aw_45_6 {κ : Int64 → rO} : aJ (Hh k E A L T) (.ref 45) 6 κ = κ (L 45 6) := an_45 (j := 6) (by decide)
theorem sw_45_6 {x : Int64} {κ : pH → rO} : sJ (Hh k E A L T) (.ref 45) 6 x κ = κ (Hh k E A (upL L 45 6 x) T) := sn_45 (j := 6) (by decide)
theorem aw_45_7 {κ : Int64 → rO} : aJ (Hh k E A L T) (.ref 45) 7 κ = κ (L 45 7) := an_45 (j := 7) (by decide)
theorem sw_45_7 {x : Int64} {κ : pH → rO} : sJ (Hh k E A L T) (.ref 45) 7 x κ = κ (Hh k E A (upL L 45 7 x) T) := sn_45 (j := 7) (by decide)
theorem aw_45_8 {κ : Int64 → rO} : aJ (Hh k E A L T) (.ref 45) 8 κ = κ (L 45 8) := an_45 (j := 8) (by decide)
theorem sw_45_8 {x : Int64} {κ : pH → rO} : sJ (Hh k E A L T) (.ref 45) 8 x κ = κ (Hh k E A (upL L 45 8 x) T) := sn_45 (j := 8) (by decide)
theorem aw_45_9 {κ : Int64 → rO} : aJ (Hh k E A L T) (.ref 45) 9 κ = κ (L 45 9) := an_45 (j := 9) (by decide)
theorem sw_45_9 {x : Int64} {κ : pH → rO} : sJ (Hh k E A L T) (.ref 45) 9 x κ = κ (Hh k E A (upL L 45 9 x) T) := sn_45 (j := 9) (by decide)
theorem aw_45_10 {κ : Int64 → rO} : aJ (Hh k E A L T) (.ref 45) 10 κ = κ (L 45 10) := an_45 (j := 10) (by decide)
theorem sw_45_10 {x : Int64} {κ : pH → rO} : sJ (Hh k E A L T) (.ref 45) 10 x κ = κ (Hh k E A (upL L 45 10 x) T) := sn_45 (j := 10) (by decide)
theorem aw_44_0 {κ : Int64 → rO} : aJ (Hh k E A L T) (.ref 44) 0 κ = κ (L 44 0) := an_44 (j := 0) (by decide)
theorem sw_44_0 {x : Int64} {κ : pH → rO} : sJ (Hh k E A L T) (.ref 44) 0 x κ = κ (Hh k E A (upL L 44 0 x) T) := sn_44 (j := 0) (by decide)
theorem aw_48_0 {κ : Int64 → rO} : aJ (Hh k E A L T) (.ref 48) 0 κ = κ (L 48 0) := an_48 (j := 0) (by decide)
theorem sw_48_0 {x : Int64} {κ : pH → rO} : sJ (Hh k E A L T) (.ref 48) 0 x κ = κ (Hh k E A (upL L 48 0 x) T) := sn_48 (j := 0) (by decide)
theorem i1_0 : ((1 : Int32) = 0) = False := by decide
theorem i0_0 : ((0 : Int32) = 0) = True := by decide
theorem dv_2 {κ : rO} : dv 2 κ = κ := (rfl)
theorem dv_3 {κ : rO} : dv 3 κ = κ := (rfl)
theorem dv_4 {κ : rO} : dv 4 κ = κ := (rfl)
theorem dv_8 {κ : rO} : dv 8 κ = κ := (rfl)
theorem dv_16 {κ : rO} : dv 16 κ = κ := (rfl)
theorem dv_100 {κ : rO} : dv 100 κ = κ := (rfl)
theorem dvJ_100 {κ : rO} : dvJ 100 κ = κ := (rfl)
theorem dvJ_10000 {κ : rO} : dvJ 10000 κ = κ := (rfl)
theorem nI_p2 (a : Nat) : nI a + 2 = nI (a + 2) := nI_add a 2
theorem nI_p3 (a : Nat) : nI a + 3 = nI (a + 3) := nI_add a 3
theorem nI_p4 (a : Nat) : nI a + 4 = nI (a + 4) := nI_add a 4
theorem nI_p5 (a : Nat) : nI a + 5 = nI (a + 5) := nI_add a 5
theorem nI_p6 (a : Nat) : nI a + 6 = nI (a + 6) := nI_add a 6
theorem nI_p7 (a : Nat) : nI a + 7 = nI (a + 7) := nI_add a 7
theorem nI_p8 (a : Nat) : nI a + 8 = nI (a + 8) := nI_add a 8
theorem nI_p9 (a : Nat) : nI a + 9 = nI (a + 9) := nI_add a 9
theorem nI_p10 (a : Nat) : nI a + 10 = nI (a + 10) := nI_add a 10
theorem nI_p11 (a : Nat) : nI a + 11 = nI (a + 11) := nI_add a 11
theorem nI_p12 (a : Nat) : nI a + 12 = nI (a + 12) := nI_add a 12
theorem nI_p13 (a : Nat) : nI a + 13 = nI (a + 13) := nI_add a 13
theorem nI_p14 (a : Nat) : nI a + 14 = nI (a + 14) := nI_add a 14
theorem nI_p15 (a : Nat) : nI a + 15 = nI (a + 15) := nI_add a 15
theorem nI_p16 (a : Nat) : nI a + 16 = nI (a + 16) := nI_add a 16
theorem nI_p17 (a : Nat) : nI a + 17 = nI (a + 17) := nI_add a 17
theorem nI_p18 (a : Nat) : nI a + 18 = nI (a + 18) := nI_add a 18
theorem nI_p19 (a : Nat) : nI a + 19 = nI (a + 19) := nI_add a 19
theorem nI_p20 (a : Nat) : nI a + 20 = nI (a + 20) := nI_add a 20
theorem nI_p1 (a : Nat) : nI a + 1 = nI (a + 1) := nI_add a 1
theorem nI_p98 (a : Nat) : nI a + 98 = nI (a + 98) := nI_add a 98
theorem ix_883 (n : Nat) : (883 : Int32) + 4 * nI n = nI (883 + 4 * n) := by rw [show (4 : Int32) = nI 4 from rfl, pk_mul, show (883 : Int32) = nI 883 from rfl, nI_add]
theorem ix_680 (n : Nat) : (680 : Int32) + 2 * nI n = nI (680 + 2 * n) := by rw [show (2 : Int32) = nI 2 from rfl, pk_mul, show (680 : Int32) = nI 680 from rfl, nI_add]
theorem ix_1949 (n : Nat) : (1949 : Int32) + 4 * nI n = nI (1949 + 4 * n) := by rw [show (4 : Int32) = nI 4 from rfl, pk_mul, show (1949 : Int32) = nI 1949 from rfl, nI_add]
theorem ix_1997 (n : Nat) : (1997 : Int32) + 4 * nI n = nI (1997 + 4 * n) := by rw [show (4 : Int32) = nI 4 from rfl, pk_mul, show (1997 : Int32) = nI 1997 from rfl, nI_add]
theorem ix_2238 (n : Nat) : (2238 : Int32) + 3 * nI n = nI (2238 + 3 * n) := by rw [show (3 : Int32) = nI 3 from rfl, pk_mul, show (2238 : Int32) = nI 2238 from rfl, nI_add]
theorem ix_2257 (n : Nat) : (2257 : Int32) + 2 * nI n = nI (2257 + 2 * n) := by rw [show (2 : Int32) = nI 2 from rfl, pk_mul, show (2257 : Int32) = nI 2257 from rfl, nI_add]
theorem ix_2651 (n : Nat) : (2651 : Int32) + 898 * nI n = nI (2651 + 898 * n) := by rw [show (898 : Int32) = nI 898 from rfl, pk_mul, show (2651 : Int32) = nI 2651 from rfl, nI_add]
theorem ix_8 (n : Nat) : (8 : Int32) + 14 * nI n = nI (8 + 14 * n) := by rw [show (14 : Int32) = nI 14 from rfl, pk_mul, show (8 : Int32) = nI 8 from rfl, nI_add]
theorem ix_1684 (n : Nat) : (1684 : Int32) + 11 * nI n = nI (1684 + 11 * n) := by rw [show (11 : Int32) = nI 11 from rfl, pk_mul, show (1684 : Int32) = nI 1684 from rfl, nI_add]
theorem mx_2 (n : Nat) : (2 : Int32) * nI n = nI (2 * n) := by rw [show (2 : Int32) = nI 2 from rfl, pk_mul]
theorem mr_2 (n : Nat) : nI n * 2 = nI (n * 2) := by rw [show (2 : Int32) = nI 2 from rfl, pk_mul]
theorem mx_3 (n : Nat) : (3 : Int32) * nI n = nI (3 * n) := by rw [show (3 : Int32) = nI 3 from rfl, pk_mul]
theorem mr_3 (n : Nat) : nI n * 3 = nI (n * 3) := by rw [show (3 : Int32) = nI 3 from rfl, pk_mul]
theorem mx_4 (n : Nat) : (4 : Int32) * nI n = nI (4 * n) := by rw [show (4 : Int32) = nI 4 from rfl, pk_mul]
theorem mr_4 (n : Nat) : nI n * 4 = nI (n * 4) := by rw [show (4 : Int32) = nI 4 from rfl, pk_mul]
theorem mx_6 (n : Nat) : (6 : Int32) * nI n = nI (6 * n) := by rw [show (6 : Int32) = nI 6 from rfl, pk_mul]
theorem mr_6 (n : Nat) : nI n * 6 = nI (n * 6) := by rw [show (6 : Int32) = nI 6 from rfl, pk_mul]
theorem mx_11 (n : Nat) : (11 : Int32) * nI n = nI (11 * n) := by rw [show (11 : Int32) = nI 11 from rfl, pk_mul]
theorem mr_11 (n : Nat) : nI n * 11 = nI (n * 11) := by rw [show (11 : Int32) = nI 11 from rfl, pk_mul]
theorem mx_14 (n : Nat) : (14 : Int32) * nI n = nI (14 * n) := by rw [show (14 : Int32) = nI 14 from rfl, pk_mul]
theorem mr_14 (n : Nat) : nI n * 14 = nI (n * 14) := by rw [show (14 : Int32) = nI 14 from rfl, pk_mul]
theorem mx_48 (n : Nat) : (48 : Int32) * nI n = nI (48 * n) := by rw [show (48 : Int32) = nI 48 from rfl, pk_mul]
theorem mr_48 (n : Nat) : nI n * 48 = nI (n * 48) := by rw [show (48 : Int32) = nI 48 from rfl, pk_mul]
theorem up_rr {a i j : Nat} {x : Int32} (h : j ≠ i) : up A a i x a j = A a j := by simp [up, h]
theorem up_ii {a i : Nat} {x : Int32} : up A a i x a i = x := by simp [up]
theorem up_up {a i : Nat} {x y : Int32} : up (up A a i x) a i y = up A a i y := by funext b j; simp only [up]; split <;> rfl
end Lits
