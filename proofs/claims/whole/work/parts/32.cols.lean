/-! class basics: what would be beyond is lost; the fields' and the holdings' cells by columns (laid by gen_cols.py) -/
section Cols
variable {S : sT} {d : Nat} {k : Value} {E : List dsc} {A : fA} {L : fL} {T : fT}
theorem nI_mul (a b : Nat) : nI a * nI b = nI (a * b) := (Int32.ofNat_mul a b).symm
/-- what would be beyond is lost -/
def kp (j : Int64) : Int32 := (if (if j < (2000000000 : Int64) then j else (2000000000 : Int64)) < ((-2000000000) : Int64) then ((-2000000000) : Int64) else (if j < (2000000000 : Int64) then j else (2000000000 : Int64))).toInt32
theorem c_capped (j : Int64) (h : pH) : ex S (d + 1) 103 [.long j] h = some (.inl (some (.int (kp j))), h) := by
  rw [x_X11_capped, g_X11_capped_0]; rfl
theorem isCellL {w f : Nat} (hw : w < 14) (hf : f < 48) (h : pH) : ex S (d + 1) 22 [.int (nI w), .int (nI f)] h = some (.inl (some (.int 1)), h) := by
  rw [x_X2_isCell, g_X2_isCell_0, if_neg (nI_pos (by omega)), if_neg (show ¬ (14 : Int32) ≤ nI w from nI_ge hw (by decide)), if_neg (nI_pos (by omega)), if_neg (show ¬ (48 : Int32) ≤ nI f from nI_ge hf (by decide)), q_z1]
theorem isCellH {w f : Nat} (hw : w < 13) (hf : f < 24) (h : pH) : ex S (d + 1) 99 [.int (nI w), .int (nI f)] h = some (.inl (some (.int 1)), h) := by
  rw [x_X1_isCell, g_X1_isCell_0, if_neg (nI_pos (by omega)), if_neg (show ¬ (13 : Int32) ≤ nI w from nI_ge hw (by decide)), if_neg (nI_pos (by omega)), if_neg (show ¬ (24 : Int32) ≤ nI f from nI_ge hf (by decide)), q_z1]
theorem i48 (w f : Nat) : nI w * 48 + nI f = nI (w * 48 + f) := by
  rw [show (48 : Int32) = nI 48 from rfl, nI_mul, nI_add]
theorem i24 (w f : Nat) : nI w * 24 + nI f = nI (w * 24 + f) := by
  rw [show (24 : Int32) = nI 24 from rfl, nI_mul, nI_add]
theorem lget {w f : Nat} (hw : w < 14) (hf : f < 48) : ex S (d + 2) 23 [.ref 9, .int (nI w), .int (nI f)] (Hh k E A L T) = some (.inl (some (.int (A 10 (w * 48 + f)))), Hh k E A L T) := by
  rw [x_X2_get, g_X2_get_0, isCellL hw hf, q_I, if_neg (by decide), hv_9_0, i48, an_10 (by omega)]
theorem lset {w f : Nat} {x : Int32} (hw : w < 14) (hf : f < 48) : ex S (d + 2) 25 [.ref 9, .int (nI w), .int (nI f), .int x] (Hh k E A L T) = some (.inl none, Hh k E (up A 10 (w * 48 + f) x) L T) := by
  rw [x_X2_set, g_X2_set_0, isCellL hw hf, q_I, if_neg (by decide), hv_9_0, i48, sn_10 (by omega)]
theorem tget {w f : Nat} (hw : w < 13) (hf : f < 24) : ex S (d + 2) 102 [.ref 11, .int (nI w), .int (nI f)] (Hh k E A L T) = some (.inl (some (.int (A 12 (w * 24 + f)))), Hh k E A L T) := by
  rw [x_X1_get, g_X1_get_0, isCellH hw hf, q_I, if_neg (by decide), hv_11_1, i24, an_12 (by omega)]
theorem tset {w f : Nat} {x : Int32} (hw : w < 13) (hf : f < 24) : ex S (d + 2) 100 [.ref 11, .int (nI w), .int (nI f), .int x] (Hh k E A L T) = some (.inl none, Hh k E (up A 12 (w * 24 + f) x) L T) := by
  rw [x_X1_set, g_X1_set_0, isCellH hw hf, q_I, if_neg (by decide), hv_11_1, i24, sn_12 (by omega)]
theorem lg_0 {f : Nat} (hf : f < 48) : ex S (d + 2) 23 [.ref 9, .int 0, .int (nI f)] (Hh k E A L T) = some (.inl (some (.int (A 10 (0 + f)))), Hh k E A L T) := lget (w := 0) (by decide) hf
theorem ls_0 {f : Nat} {x : Int32} (hf : f < 48) : ex S (d + 2) 25 [.ref 9, .int 0, .int (nI f), .int x] (Hh k E A L T) = some (.inl none, Hh k E (up A 10 (0 + f) x) L T) := lset (w := 0) (by decide) hf
theorem lg_1 {f : Nat} (hf : f < 48) : ex S (d + 2) 23 [.ref 9, .int 1, .int (nI f)] (Hh k E A L T) = some (.inl (some (.int (A 10 (48 + f)))), Hh k E A L T) := lget (w := 1) (by decide) hf
theorem ls_1 {f : Nat} {x : Int32} (hf : f < 48) : ex S (d + 2) 25 [.ref 9, .int 1, .int (nI f), .int x] (Hh k E A L T) = some (.inl none, Hh k E (up A 10 (48 + f) x) L T) := lset (w := 1) (by decide) hf
theorem lg_2 {f : Nat} (hf : f < 48) : ex S (d + 2) 23 [.ref 9, .int 2, .int (nI f)] (Hh k E A L T) = some (.inl (some (.int (A 10 (96 + f)))), Hh k E A L T) := lget (w := 2) (by decide) hf
theorem ls_2 {f : Nat} {x : Int32} (hf : f < 48) : ex S (d + 2) 25 [.ref 9, .int 2, .int (nI f), .int x] (Hh k E A L T) = some (.inl none, Hh k E (up A 10 (96 + f) x) L T) := lset (w := 2) (by decide) hf
theorem lg_3 {f : Nat} (hf : f < 48) : ex S (d + 2) 23 [.ref 9, .int 3, .int (nI f)] (Hh k E A L T) = some (.inl (some (.int (A 10 (144 + f)))), Hh k E A L T) := lget (w := 3) (by decide) hf
theorem ls_3 {f : Nat} {x : Int32} (hf : f < 48) : ex S (d + 2) 25 [.ref 9, .int 3, .int (nI f), .int x] (Hh k E A L T) = some (.inl none, Hh k E (up A 10 (144 + f) x) L T) := lset (w := 3) (by decide) hf
theorem lg_4 {f : Nat} (hf : f < 48) : ex S (d + 2) 23 [.ref 9, .int 4, .int (nI f)] (Hh k E A L T) = some (.inl (some (.int (A 10 (192 + f)))), Hh k E A L T) := lget (w := 4) (by decide) hf
theorem ls_4 {f : Nat} {x : Int32} (hf : f < 48) : ex S (d + 2) 25 [.ref 9, .int 4, .int (nI f), .int x] (Hh k E A L T) = some (.inl none, Hh k E (up A 10 (192 + f) x) L T) := lset (w := 4) (by decide) hf
theorem lg_5 {f : Nat} (hf : f < 48) : ex S (d + 2) 23 [.ref 9, .int 5, .int (nI f)] (Hh k E A L T) = some (.inl (some (.int (A 10 (240 + f)))), Hh k E A L T) := lget (w := 5) (by decide) hf
theorem ls_5 {f : Nat} {x : Int32} (hf : f < 48) : ex S (d + 2) 25 [.ref 9, .int 5, .int (nI f), .int x] (Hh k E A L T) = some (.inl none, Hh k E (up A 10 (240 + f) x) L T) := lset (w := 5) (by decide) hf
theorem lg_6 {f : Nat} (hf : f < 48) : ex S (d + 2) 23 [.ref 9, .int 6, .int (nI f)] (Hh k E A L T) = some (.inl (some (.int (A 10 (288 + f)))), Hh k E A L T) := lget (w := 6) (by decide) hf
theorem ls_6 {f : Nat} {x : Int32} (hf : f < 48) : ex S (d + 2) 25 [.ref 9, .int 6, .int (nI f), .int x] (Hh k E A L T) = some (.inl none, Hh k E (up A 10 (288 + f) x) L T) := lset (w := 6) (by decide) hf
theorem lg_7 {f : Nat} (hf : f < 48) : ex S (d + 2) 23 [.ref 9, .int 7, .int (nI f)] (Hh k E A L T) = some (.inl (some (.int (A 10 (336 + f)))), Hh k E A L T) := lget (w := 7) (by decide) hf
theorem ls_7 {f : Nat} {x : Int32} (hf : f < 48) : ex S (d + 2) 25 [.ref 9, .int 7, .int (nI f), .int x] (Hh k E A L T) = some (.inl none, Hh k E (up A 10 (336 + f) x) L T) := lset (w := 7) (by decide) hf
theorem lg_8 {f : Nat} (hf : f < 48) : ex S (d + 2) 23 [.ref 9, .int 8, .int (nI f)] (Hh k E A L T) = some (.inl (some (.int (A 10 (384 + f)))), Hh k E A L T) := lget (w := 8) (by decide) hf
theorem ls_8 {f : Nat} {x : Int32} (hf : f < 48) : ex S (d + 2) 25 [.ref 9, .int 8, .int (nI f), .int x] (Hh k E A L T) = some (.inl none, Hh k E (up A 10 (384 + f) x) L T) := lset (w := 8) (by decide) hf
theorem lg_9 {f : Nat} (hf : f < 48) : ex S (d + 2) 23 [.ref 9, .int 9, .int (nI f)] (Hh k E A L T) = some (.inl (some (.int (A 10 (432 + f)))), Hh k E A L T) := lget (w := 9) (by decide) hf
theorem ls_9 {f : Nat} {x : Int32} (hf : f < 48) : ex S (d + 2) 25 [.ref 9, .int 9, .int (nI f), .int x] (Hh k E A L T) = some (.inl none, Hh k E (up A 10 (432 + f) x) L T) := lset (w := 9) (by decide) hf
theorem lg_10 {f : Nat} (hf : f < 48) : ex S (d + 2) 23 [.ref 9, .int 10, .int (nI f)] (Hh k E A L T) = some (.inl (some (.int (A 10 (480 + f)))), Hh k E A L T) := lget (w := 10) (by decide) hf
theorem ls_10 {f : Nat} {x : Int32} (hf : f < 48) : ex S (d + 2) 25 [.ref 9, .int 10, .int (nI f), .int x] (Hh k E A L T) = some (.inl none, Hh k E (up A 10 (480 + f) x) L T) := lset (w := 10) (by decide) hf
theorem lg_11 {f : Nat} (hf : f < 48) : ex S (d + 2) 23 [.ref 9, .int 11, .int (nI f)] (Hh k E A L T) = some (.inl (some (.int (A 10 (528 + f)))), Hh k E A L T) := lget (w := 11) (by decide) hf
theorem ls_11 {f : Nat} {x : Int32} (hf : f < 48) : ex S (d + 2) 25 [.ref 9, .int 11, .int (nI f), .int x] (Hh k E A L T) = some (.inl none, Hh k E (up A 10 (528 + f) x) L T) := lset (w := 11) (by decide) hf
theorem lg_12 {f : Nat} (hf : f < 48) : ex S (d + 2) 23 [.ref 9, .int 12, .int (nI f)] (Hh k E A L T) = some (.inl (some (.int (A 10 (576 + f)))), Hh k E A L T) := lget (w := 12) (by decide) hf
theorem ls_12 {f : Nat} {x : Int32} (hf : f < 48) : ex S (d + 2) 25 [.ref 9, .int 12, .int (nI f), .int x] (Hh k E A L T) = some (.inl none, Hh k E (up A 10 (576 + f) x) L T) := lset (w := 12) (by decide) hf
theorem lg_13 {f : Nat} (hf : f < 48) : ex S (d + 2) 23 [.ref 9, .int 13, .int (nI f)] (Hh k E A L T) = some (.inl (some (.int (A 10 (624 + f)))), Hh k E A L T) := lget (w := 13) (by decide) hf
theorem ls_13 {f : Nat} {x : Int32} (hf : f < 48) : ex S (d + 2) 25 [.ref 9, .int 13, .int (nI f), .int x] (Hh k E A L T) = some (.inl none, Hh k E (up A 10 (624 + f) x) L T) := lset (w := 13) (by decide) hf
theorem tg_0 {f : Nat} (hf : f < 24) : ex S (d + 2) 102 [.ref 11, .int 0, .int (nI f)] (Hh k E A L T) = some (.inl (some (.int (A 12 (0 + f)))), Hh k E A L T) := tget (w := 0) (by decide) hf
theorem ts_0 {f : Nat} {x : Int32} (hf : f < 24) : ex S (d + 2) 100 [.ref 11, .int 0, .int (nI f), .int x] (Hh k E A L T) = some (.inl none, Hh k E (up A 12 (0 + f) x) L T) := tset (w := 0) (by decide) hf
theorem tw_g0 {f : Nat} {j : Int64} (hf : f < 24) : ex S (d + 3) 104 [.ref 11, .int 0, .int (nI f), .long j] (Hh k E A L T) = some (.inl none, Hh k E (up A 12 (0 + f) (kp ((A 12 (0 + f)).toInt64 + j))) L T) := by rw [x_X1_grow, g_X1_grow_0, hc_11, tg_0 hf, q_I, c_capped, q_Ix, hc_11, ts_0 hf, q_U]
theorem tg_1 {f : Nat} (hf : f < 24) : ex S (d + 2) 102 [.ref 11, .int 1, .int (nI f)] (Hh k E A L T) = some (.inl (some (.int (A 12 (24 + f)))), Hh k E A L T) := tget (w := 1) (by decide) hf
theorem ts_1 {f : Nat} {x : Int32} (hf : f < 24) : ex S (d + 2) 100 [.ref 11, .int 1, .int (nI f), .int x] (Hh k E A L T) = some (.inl none, Hh k E (up A 12 (24 + f) x) L T) := tset (w := 1) (by decide) hf
theorem tw_g1 {f : Nat} {j : Int64} (hf : f < 24) : ex S (d + 3) 104 [.ref 11, .int 1, .int (nI f), .long j] (Hh k E A L T) = some (.inl none, Hh k E (up A 12 (24 + f) (kp ((A 12 (24 + f)).toInt64 + j))) L T) := by rw [x_X1_grow, g_X1_grow_0, hc_11, tg_1 hf, q_I, c_capped, q_Ix, hc_11, ts_1 hf, q_U]
theorem tg_2 {f : Nat} (hf : f < 24) : ex S (d + 2) 102 [.ref 11, .int 2, .int (nI f)] (Hh k E A L T) = some (.inl (some (.int (A 12 (48 + f)))), Hh k E A L T) := tget (w := 2) (by decide) hf
theorem ts_2 {f : Nat} {x : Int32} (hf : f < 24) : ex S (d + 2) 100 [.ref 11, .int 2, .int (nI f), .int x] (Hh k E A L T) = some (.inl none, Hh k E (up A 12 (48 + f) x) L T) := tset (w := 2) (by decide) hf
theorem tw_g2 {f : Nat} {j : Int64} (hf : f < 24) : ex S (d + 3) 104 [.ref 11, .int 2, .int (nI f), .long j] (Hh k E A L T) = some (.inl none, Hh k E (up A 12 (48 + f) (kp ((A 12 (48 + f)).toInt64 + j))) L T) := by rw [x_X1_grow, g_X1_grow_0, hc_11, tg_2 hf, q_I, c_capped, q_Ix, hc_11, ts_2 hf, q_U]
theorem tg_3 {f : Nat} (hf : f < 24) : ex S (d + 2) 102 [.ref 11, .int 3, .int (nI f)] (Hh k E A L T) = some (.inl (some (.int (A 12 (72 + f)))), Hh k E A L T) := tget (w := 3) (by decide) hf
theorem ts_3 {f : Nat} {x : Int32} (hf : f < 24) : ex S (d + 2) 100 [.ref 11, .int 3, .int (nI f), .int x] (Hh k E A L T) = some (.inl none, Hh k E (up A 12 (72 + f) x) L T) := tset (w := 3) (by decide) hf
theorem tw_g3 {f : Nat} {j : Int64} (hf : f < 24) : ex S (d + 3) 104 [.ref 11, .int 3, .int (nI f), .long j] (Hh k E A L T) = some (.inl none, Hh k E (up A 12 (72 + f) (kp ((A 12 (72 + f)).toInt64 + j))) L T) := by rw [x_X1_grow, g_X1_grow_0, hc_11, tg_3 hf, q_I, c_capped, q_Ix, hc_11, ts_3 hf, q_U]
theorem tg_4 {f : Nat} (hf : f < 24) : ex S (d + 2) 102 [.ref 11, .int 4, .int (nI f)] (Hh k E A L T) = some (.inl (some (.int (A 12 (96 + f)))), Hh k E A L T) := tget (w := 4) (by decide) hf
theorem ts_4 {f : Nat} {x : Int32} (hf : f < 24) : ex S (d + 2) 100 [.ref 11, .int 4, .int (nI f), .int x] (Hh k E A L T) = some (.inl none, Hh k E (up A 12 (96 + f) x) L T) := tset (w := 4) (by decide) hf
theorem tw_g4 {f : Nat} {j : Int64} (hf : f < 24) : ex S (d + 3) 104 [.ref 11, .int 4, .int (nI f), .long j] (Hh k E A L T) = some (.inl none, Hh k E (up A 12 (96 + f) (kp ((A 12 (96 + f)).toInt64 + j))) L T) := by rw [x_X1_grow, g_X1_grow_0, hc_11, tg_4 hf, q_I, c_capped, q_Ix, hc_11, ts_4 hf, q_U]
theorem tg_5 {f : Nat} (hf : f < 24) : ex S (d + 2) 102 [.ref 11, .int 5, .int (nI f)] (Hh k E A L T) = some (.inl (some (.int (A 12 (120 + f)))), Hh k E A L T) := tget (w := 5) (by decide) hf
theorem ts_5 {f : Nat} {x : Int32} (hf : f < 24) : ex S (d + 2) 100 [.ref 11, .int 5, .int (nI f), .int x] (Hh k E A L T) = some (.inl none, Hh k E (up A 12 (120 + f) x) L T) := tset (w := 5) (by decide) hf
theorem tw_g5 {f : Nat} {j : Int64} (hf : f < 24) : ex S (d + 3) 104 [.ref 11, .int 5, .int (nI f), .long j] (Hh k E A L T) = some (.inl none, Hh k E (up A 12 (120 + f) (kp ((A 12 (120 + f)).toInt64 + j))) L T) := by rw [x_X1_grow, g_X1_grow_0, hc_11, tg_5 hf, q_I, c_capped, q_Ix, hc_11, ts_5 hf, q_U]
theorem tg_6 {f : Nat} (hf : f < 24) : ex S (d + 2) 102 [.ref 11, .int 6, .int (nI f)] (Hh k E A L T) = some (.inl (some (.int (A 12 (144 + f)))), Hh k E A L T) := tget (w := 6) (by decide) hf
theorem ts_6 {f : Nat} {x : Int32} (hf : f < 24) : ex S (d + 2) 100 [.ref 11, .int 6, .int (nI f), .int x] (Hh k E A L T) = some (.inl none, Hh k E (up A 12 (144 + f) x) L T) := tset (w := 6) (by decide) hf
theorem tw_g6 {f : Nat} {j : Int64} (hf : f < 24) : ex S (d + 3) 104 [.ref 11, .int 6, .int (nI f), .long j] (Hh k E A L T) = some (.inl none, Hh k E (up A 12 (144 + f) (kp ((A 12 (144 + f)).toInt64 + j))) L T) := by rw [x_X1_grow, g_X1_grow_0, hc_11, tg_6 hf, q_I, c_capped, q_Ix, hc_11, ts_6 hf, q_U]
theorem tg_7 {f : Nat} (hf : f < 24) : ex S (d + 2) 102 [.ref 11, .int 7, .int (nI f)] (Hh k E A L T) = some (.inl (some (.int (A 12 (168 + f)))), Hh k E A L T) := tget (w := 7) (by decide) hf
theorem ts_7 {f : Nat} {x : Int32} (hf : f < 24) : ex S (d + 2) 100 [.ref 11, .int 7, .int (nI f), .int x] (Hh k E A L T) = some (.inl none, Hh k E (up A 12 (168 + f) x) L T) := tset (w := 7) (by decide) hf
theorem tw_g7 {f : Nat} {j : Int64} (hf : f < 24) : ex S (d + 3) 104 [.ref 11, .int 7, .int (nI f), .long j] (Hh k E A L T) = some (.inl none, Hh k E (up A 12 (168 + f) (kp ((A 12 (168 + f)).toInt64 + j))) L T) := by rw [x_X1_grow, g_X1_grow_0, hc_11, tg_7 hf, q_I, c_capped, q_Ix, hc_11, ts_7 hf, q_U]
theorem tg_8 {f : Nat} (hf : f < 24) : ex S (d + 2) 102 [.ref 11, .int 8, .int (nI f)] (Hh k E A L T) = some (.inl (some (.int (A 12 (192 + f)))), Hh k E A L T) := tget (w := 8) (by decide) hf
theorem ts_8 {f : Nat} {x : Int32} (hf : f < 24) : ex S (d + 2) 100 [.ref 11, .int 8, .int (nI f), .int x] (Hh k E A L T) = some (.inl none, Hh k E (up A 12 (192 + f) x) L T) := tset (w := 8) (by decide) hf
theorem tw_g8 {f : Nat} {j : Int64} (hf : f < 24) : ex S (d + 3) 104 [.ref 11, .int 8, .int (nI f), .long j] (Hh k E A L T) = some (.inl none, Hh k E (up A 12 (192 + f) (kp ((A 12 (192 + f)).toInt64 + j))) L T) := by rw [x_X1_grow, g_X1_grow_0, hc_11, tg_8 hf, q_I, c_capped, q_Ix, hc_11, ts_8 hf, q_U]
theorem tg_9 {f : Nat} (hf : f < 24) : ex S (d + 2) 102 [.ref 11, .int 9, .int (nI f)] (Hh k E A L T) = some (.inl (some (.int (A 12 (216 + f)))), Hh k E A L T) := tget (w := 9) (by decide) hf
theorem ts_9 {f : Nat} {x : Int32} (hf : f < 24) : ex S (d + 2) 100 [.ref 11, .int 9, .int (nI f), .int x] (Hh k E A L T) = some (.inl none, Hh k E (up A 12 (216 + f) x) L T) := tset (w := 9) (by decide) hf
theorem tw_g9 {f : Nat} {j : Int64} (hf : f < 24) : ex S (d + 3) 104 [.ref 11, .int 9, .int (nI f), .long j] (Hh k E A L T) = some (.inl none, Hh k E (up A 12 (216 + f) (kp ((A 12 (216 + f)).toInt64 + j))) L T) := by rw [x_X1_grow, g_X1_grow_0, hc_11, tg_9 hf, q_I, c_capped, q_Ix, hc_11, ts_9 hf, q_U]
theorem tg_10 {f : Nat} (hf : f < 24) : ex S (d + 2) 102 [.ref 11, .int 10, .int (nI f)] (Hh k E A L T) = some (.inl (some (.int (A 12 (240 + f)))), Hh k E A L T) := tget (w := 10) (by decide) hf
theorem ts_10 {f : Nat} {x : Int32} (hf : f < 24) : ex S (d + 2) 100 [.ref 11, .int 10, .int (nI f), .int x] (Hh k E A L T) = some (.inl none, Hh k E (up A 12 (240 + f) x) L T) := tset (w := 10) (by decide) hf
theorem tw_g10 {f : Nat} {j : Int64} (hf : f < 24) : ex S (d + 3) 104 [.ref 11, .int 10, .int (nI f), .long j] (Hh k E A L T) = some (.inl none, Hh k E (up A 12 (240 + f) (kp ((A 12 (240 + f)).toInt64 + j))) L T) := by rw [x_X1_grow, g_X1_grow_0, hc_11, tg_10 hf, q_I, c_capped, q_Ix, hc_11, ts_10 hf, q_U]
theorem tg_11 {f : Nat} (hf : f < 24) : ex S (d + 2) 102 [.ref 11, .int 11, .int (nI f)] (Hh k E A L T) = some (.inl (some (.int (A 12 (264 + f)))), Hh k E A L T) := tget (w := 11) (by decide) hf
theorem ts_11 {f : Nat} {x : Int32} (hf : f < 24) : ex S (d + 2) 100 [.ref 11, .int 11, .int (nI f), .int x] (Hh k E A L T) = some (.inl none, Hh k E (up A 12 (264 + f) x) L T) := tset (w := 11) (by decide) hf
theorem tw_g11 {f : Nat} {j : Int64} (hf : f < 24) : ex S (d + 3) 104 [.ref 11, .int 11, .int (nI f), .long j] (Hh k E A L T) = some (.inl none, Hh k E (up A 12 (264 + f) (kp ((A 12 (264 + f)).toInt64 + j))) L T) := by rw [x_X1_grow, g_X1_grow_0, hc_11, tg_11 hf, q_I, c_capped, q_Ix, hc_11, ts_11 hf, q_U]
theorem tg_12 {f : Nat} (hf : f < 24) : ex S (d + 2) 102 [.ref 11, .int 12, .int (nI f)] (Hh k E A L T) = some (.inl (some (.int (A 12 (288 + f)))), Hh k E A L T) := tget (w := 12) (by decide) hf
theorem ts_12 {f : Nat} {x : Int32} (hf : f < 24) : ex S (d + 2) 100 [.ref 11, .int 12, .int (nI f), .int x] (Hh k E A L T) = some (.inl none, Hh k E (up A 12 (288 + f) x) L T) := tset (w := 12) (by decide) hf
theorem tw_g12 {f : Nat} {j : Int64} (hf : f < 24) : ex S (d + 3) 104 [.ref 11, .int 12, .int (nI f), .long j] (Hh k E A L T) = some (.inl none, Hh k E (up A 12 (288 + f) (kp ((A 12 (288 + f)).toInt64 + j))) L T) := by rw [x_X1_grow, g_X1_grow_0, hc_11, tg_12 hf, q_I, c_capped, q_Ix, hc_11, ts_12 hf, q_U]
end Cols
