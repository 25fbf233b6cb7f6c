/-! reference basics (laid by gen_ref.py) -/
section RefB
variable {S : sT} {d : Nat} {k : Value} {E : List dsc} {A : fA} {L : fL} {T : fT}
def inB (x a b : Int32) : Int32 := if x < a then 0 else if b < x then 0 else 1
theorem r_in (x a b : Int32) (h : pH) : ex S (d + 1) 28 [.int x, .int a, .int b] h = some (.inl (some (.int (inB x a b))), h) := by
  rw [x_X12_in, g_X12_in_0]
  unfold inB
  split
  · rfl
  · split <;> rfl
theorem r_kept (j : Int64) (h : pH) : ex S (d + 1) 150 [.long j] h = some (.inl (some (.int (kp j))), h) := by
  rw [x_X12_kept, g_X12_kept_0]; rfl
theorem r_thr0 {c : Int32} {h : pH} : ex S (d + 1) 30 [.ref 39, .int 0, .int c] h = some (.inl (some (.int 0)), h) := by
  rw [x_X12_throwsIf, g_X12_throwsIf_0, if_pos rfl]; rfl
theorem r_thr1 {c : Int32} : ex S (d + 1) 30 [.ref 39, .int 1, .int c] (Hh k E A L T) = some (.inl (some (.int 1)), Hh k E (up A 39 0 c) L T) := by
  rw [x_X12_throwsIf, g_X12_throwsIf_0, if_neg (by decide), hp_39_0]; rfl
theorem r_season : ex S (d + 1) 48 [.ref 39] (Hh k E A L T) = some (.inl (some (.int (A 40 0))), Hh k E A L T) := by
  rw [x_X12_season, g_X12_season_0, hv_39_1, show (0 : Int32) = nI 0 from rfl, an_40 (by omega)]
theorem r_year : ex S (d + 1) 152 [.ref 39] (Hh k E A L T) = some (.inl (some (.int (A 40 0 / 4))), Hh k E A L T) := by
  rw [x_X12_year, g_X12_year_0, hv_39_1, show (0 : Int32) = nI 0 from rfl, an_40 (by omega), dv_ne (by decide)]
theorem i14 (f w : Nat) : (8 + 14 * nI f) + nI w = nI (8 + 14 * f + w) := by
  rw [show (8 : Int32) = nI 8 from rfl, show (14 : Int32) = nI 14 from rfl, nI_mul, nI_add, nI_add]
theorem i11 (f w : Nat) : (1684 + 11 * nI f) + nI w = nI (1684 + 11 * f + w) := by
  rw [show (1684 : Int32) = nI 1684 from rfl, show (11 : Int32) = nI 11 from rfl, nI_mul, nI_add, nI_add]
theorem r_at (f w : Nat) (h : pH) : ex S (d + 1) 12 [.int (nI f), .int (nI w)] h = some (.inl (some (.int (nI (8 + 14 * f + w)))), h) := by
  rw [x_X12_at, g_X12_at_0, i14]
theorem r_of {f w : Nat} (hf : f < 48) (hw : w < 14) : ex S (d + 2) 31 [.ref 39, .int (nI f), .int (nI w)] (Hh k E A L T) = some (.inl (some (.int (A 40 (8 + 14 * f + w)))), Hh k E A L T) := by
  rw [x_X12_of, g_X12_of_0, hv_39_1, r_at, q_I, an_40 (by omega)]
theorem r_hat (f w : Nat) (h : pH) : ex S (d + 1) 148 [.int (nI f), .int (nI w)] h = some (.inl (some (.int (nI (1684 + 11 * f + w)))), h) := by
  rw [x_X12_holdingAt, g_X12_holdingAt_0, i11]
theorem r_its {f w : Nat} (hf : f < 24) (hw : w < 11) : ex S (d + 2) 165 [.ref 39, .int (nI f), .int (nI w)] (Hh k E A L T) = some (.inl (some (.int (A 40 (1684 + 11 * f + w)))), Hh k E A L T) := by
  rw [x_X12_its, g_X12_its_0, hv_39_1, r_hat, q_I, an_40 (by omega)]
theorem r_sets {f w : Nat} {j : Int64} (hf : f < 24) (hw : w < 11) : ex S (d + 2) 151 [.ref 39, .int (nI f), .int (nI w), .long j] (Hh k E A L T) = some (.inl none, Hh k E (up A 40 (1684 + 11 * f + w) (kp j)) L T) := by
  rw [x_X12_sets, g_X12_sets_0, hv_39_1, r_hat, q_I, r_kept, q_I, sn_40 (by omega)]
theorem ra_0 {f : Nat} {h : pH} : ex S (d + 1) 12 [.int (nI f), .int 0] h = some (.inl (some (.int (nI (8 + 14 * f + 0)))), h) := r_at f 0 h
theorem ro_0 {f : Nat} (hf : f < 48) : ex S (d + 2) 31 [.ref 39, .int (nI f), .int 0] (Hh k E A L T) = some (.inl (some (.int (A 40 (8 + 14 * f + 0)))), Hh k E A L T) := r_of (w := 0) hf (by decide)
theorem ra_1 {f : Nat} {h : pH} : ex S (d + 1) 12 [.int (nI f), .int 1] h = some (.inl (some (.int (nI (8 + 14 * f + 1)))), h) := r_at f 1 h
theorem ro_1 {f : Nat} (hf : f < 48) : ex S (d + 2) 31 [.ref 39, .int (nI f), .int 1] (Hh k E A L T) = some (.inl (some (.int (A 40 (8 + 14 * f + 1)))), Hh k E A L T) := r_of (w := 1) hf (by decide)
theorem ra_2 {f : Nat} {h : pH} : ex S (d + 1) 12 [.int (nI f), .int 2] h = some (.inl (some (.int (nI (8 + 14 * f + 2)))), h) := r_at f 2 h
theorem ro_2 {f : Nat} (hf : f < 48) : ex S (d + 2) 31 [.ref 39, .int (nI f), .int 2] (Hh k E A L T) = some (.inl (some (.int (A 40 (8 + 14 * f + 2)))), Hh k E A L T) := r_of (w := 2) hf (by decide)
theorem ra_3 {f : Nat} {h : pH} : ex S (d + 1) 12 [.int (nI f), .int 3] h = some (.inl (some (.int (nI (8 + 14 * f + 3)))), h) := r_at f 3 h
theorem ro_3 {f : Nat} (hf : f < 48) : ex S (d + 2) 31 [.ref 39, .int (nI f), .int 3] (Hh k E A L T) = some (.inl (some (.int (A 40 (8 + 14 * f + 3)))), Hh k E A L T) := r_of (w := 3) hf (by decide)
theorem ra_4 {f : Nat} {h : pH} : ex S (d + 1) 12 [.int (nI f), .int 4] h = some (.inl (some (.int (nI (8 + 14 * f + 4)))), h) := r_at f 4 h
theorem ro_4 {f : Nat} (hf : f < 48) : ex S (d + 2) 31 [.ref 39, .int (nI f), .int 4] (Hh k E A L T) = some (.inl (some (.int (A 40 (8 + 14 * f + 4)))), Hh k E A L T) := r_of (w := 4) hf (by decide)
theorem ra_5 {f : Nat} {h : pH} : ex S (d + 1) 12 [.int (nI f), .int 5] h = some (.inl (some (.int (nI (8 + 14 * f + 5)))), h) := r_at f 5 h
theorem ro_5 {f : Nat} (hf : f < 48) : ex S (d + 2) 31 [.ref 39, .int (nI f), .int 5] (Hh k E A L T) = some (.inl (some (.int (A 40 (8 + 14 * f + 5)))), Hh k E A L T) := r_of (w := 5) hf (by decide)
theorem ra_6 {f : Nat} {h : pH} : ex S (d + 1) 12 [.int (nI f), .int 6] h = some (.inl (some (.int (nI (8 + 14 * f + 6)))), h) := r_at f 6 h
theorem ro_6 {f : Nat} (hf : f < 48) : ex S (d + 2) 31 [.ref 39, .int (nI f), .int 6] (Hh k E A L T) = some (.inl (some (.int (A 40 (8 + 14 * f + 6)))), Hh k E A L T) := r_of (w := 6) hf (by decide)
theorem ra_7 {f : Nat} {h : pH} : ex S (d + 1) 12 [.int (nI f), .int 7] h = some (.inl (some (.int (nI (8 + 14 * f + 7)))), h) := r_at f 7 h
theorem ro_7 {f : Nat} (hf : f < 48) : ex S (d + 2) 31 [.ref 39, .int (nI f), .int 7] (Hh k E A L T) = some (.inl (some (.int (A 40 (8 + 14 * f + 7)))), Hh k E A L T) := r_of (w := 7) hf (by decide)
theorem ra_8 {f : Nat} {h : pH} : ex S (d + 1) 12 [.int (nI f), .int 8] h = some (.inl (some (.int (nI (8 + 14 * f + 8)))), h) := r_at f 8 h
theorem ro_8 {f : Nat} (hf : f < 48) : ex S (d + 2) 31 [.ref 39, .int (nI f), .int 8] (Hh k E A L T) = some (.inl (some (.int (A 40 (8 + 14 * f + 8)))), Hh k E A L T) := r_of (w := 8) hf (by decide)
theorem ra_9 {f : Nat} {h : pH} : ex S (d + 1) 12 [.int (nI f), .int 9] h = some (.inl (some (.int (nI (8 + 14 * f + 9)))), h) := r_at f 9 h
theorem ro_9 {f : Nat} (hf : f < 48) : ex S (d + 2) 31 [.ref 39, .int (nI f), .int 9] (Hh k E A L T) = some (.inl (some (.int (A 40 (8 + 14 * f + 9)))), Hh k E A L T) := r_of (w := 9) hf (by decide)
theorem ra_10 {f : Nat} {h : pH} : ex S (d + 1) 12 [.int (nI f), .int 10] h = some (.inl (some (.int (nI (8 + 14 * f + 10)))), h) := r_at f 10 h
theorem ro_10 {f : Nat} (hf : f < 48) : ex S (d + 2) 31 [.ref 39, .int (nI f), .int 10] (Hh k E A L T) = some (.inl (some (.int (A 40 (8 + 14 * f + 10)))), Hh k E A L T) := r_of (w := 10) hf (by decide)
theorem ra_11 {f : Nat} {h : pH} : ex S (d + 1) 12 [.int (nI f), .int 11] h = some (.inl (some (.int (nI (8 + 14 * f + 11)))), h) := r_at f 11 h
theorem ro_11 {f : Nat} (hf : f < 48) : ex S (d + 2) 31 [.ref 39, .int (nI f), .int 11] (Hh k E A L T) = some (.inl (some (.int (A 40 (8 + 14 * f + 11)))), Hh k E A L T) := r_of (w := 11) hf (by decide)
theorem ra_12 {f : Nat} {h : pH} : ex S (d + 1) 12 [.int (nI f), .int 12] h = some (.inl (some (.int (nI (8 + 14 * f + 12)))), h) := r_at f 12 h
theorem ro_12 {f : Nat} (hf : f < 48) : ex S (d + 2) 31 [.ref 39, .int (nI f), .int 12] (Hh k E A L T) = some (.inl (some (.int (A 40 (8 + 14 * f + 12)))), Hh k E A L T) := r_of (w := 12) hf (by decide)
theorem ra_13 {f : Nat} {h : pH} : ex S (d + 1) 12 [.int (nI f), .int 13] h = some (.inl (some (.int (nI (8 + 14 * f + 13)))), h) := r_at f 13 h
theorem ro_13 {f : Nat} (hf : f < 48) : ex S (d + 2) 31 [.ref 39, .int (nI f), .int 13] (Hh k E A L T) = some (.inl (some (.int (A 40 (8 + 14 * f + 13)))), Hh k E A L T) := r_of (w := 13) hf (by decide)
theorem rh_0 {f : Nat} {h : pH} : ex S (d + 1) 148 [.int (nI f), .int 0] h = some (.inl (some (.int (nI (1684 + 11 * f + 0)))), h) := r_hat f 0 h
theorem ri_0 {f : Nat} (hf : f < 24) : ex S (d + 2) 165 [.ref 39, .int (nI f), .int 0] (Hh k E A L T) = some (.inl (some (.int (A 40 (1684 + 11 * f + 0)))), Hh k E A L T) := r_its (w := 0) hf (by decide)
theorem rs_0 {f : Nat} {j : Int64} (hf : f < 24) : ex S (d + 2) 151 [.ref 39, .int (nI f), .int 0, .long j] (Hh k E A L T) = some (.inl none, Hh k E (up A 40 (1684 + 11 * f + 0) (kp j)) L T) := r_sets (w := 0) hf (by decide)
theorem rh_1 {f : Nat} {h : pH} : ex S (d + 1) 148 [.int (nI f), .int 1] h = some (.inl (some (.int (nI (1684 + 11 * f + 1)))), h) := r_hat f 1 h
theorem ri_1 {f : Nat} (hf : f < 24) : ex S (d + 2) 165 [.ref 39, .int (nI f), .int 1] (Hh k E A L T) = some (.inl (some (.int (A 40 (1684 + 11 * f + 1)))), Hh k E A L T) := r_its (w := 1) hf (by decide)
theorem rs_1 {f : Nat} {j : Int64} (hf : f < 24) : ex S (d + 2) 151 [.ref 39, .int (nI f), .int 1, .long j] (Hh k E A L T) = some (.inl none, Hh k E (up A 40 (1684 + 11 * f + 1) (kp j)) L T) := r_sets (w := 1) hf (by decide)
theorem rh_2 {f : Nat} {h : pH} : ex S (d + 1) 148 [.int (nI f), .int 2] h = some (.inl (some (.int (nI (1684 + 11 * f + 2)))), h) := r_hat f 2 h
theorem ri_2 {f : Nat} (hf : f < 24) : ex S (d + 2) 165 [.ref 39, .int (nI f), .int 2] (Hh k E A L T) = some (.inl (some (.int (A 40 (1684 + 11 * f + 2)))), Hh k E A L T) := r_its (w := 2) hf (by decide)
theorem rs_2 {f : Nat} {j : Int64} (hf : f < 24) : ex S (d + 2) 151 [.ref 39, .int (nI f), .int 2, .long j] (Hh k E A L T) = some (.inl none, Hh k E (up A 40 (1684 + 11 * f + 2) (kp j)) L T) := r_sets (w := 2) hf (by decide)
theorem rh_3 {f : Nat} {h : pH} : ex S (d + 1) 148 [.int (nI f), .int 3] h = some (.inl (some (.int (nI (1684 + 11 * f + 3)))), h) := r_hat f 3 h
theorem ri_3 {f : Nat} (hf : f < 24) : ex S (d + 2) 165 [.ref 39, .int (nI f), .int 3] (Hh k E A L T) = some (.inl (some (.int (A 40 (1684 + 11 * f + 3)))), Hh k E A L T) := r_its (w := 3) hf (by decide)
theorem rs_3 {f : Nat} {j : Int64} (hf : f < 24) : ex S (d + 2) 151 [.ref 39, .int (nI f), .int 3, .long j] (Hh k E A L T) = some (.inl none, Hh k E (up A 40 (1684 + 11 * f + 3) (kp j)) L T) := r_sets (w := 3) hf (by decide)
theorem rh_4 {f : Nat} {h : pH} : ex S (d + 1) 148 [.int (nI f), .int 4] h = some (.inl (some (.int (nI (1684 + 11 * f + 4)))), h) := r_hat f 4 h
theorem ri_4 {f : Nat} (hf : f < 24) : ex S (d + 2) 165 [.ref 39, .int (nI f), .int 4] (Hh k E A L T) = some (.inl (some (.int (A 40 (1684 + 11 * f + 4)))), Hh k E A L T) := r_its (w := 4) hf (by decide)
theorem rs_4 {f : Nat} {j : Int64} (hf : f < 24) : ex S (d + 2) 151 [.ref 39, .int (nI f), .int 4, .long j] (Hh k E A L T) = some (.inl none, Hh k E (up A 40 (1684 + 11 * f + 4) (kp j)) L T) := r_sets (w := 4) hf (by decide)
theorem rh_5 {f : Nat} {h : pH} : ex S (d + 1) 148 [.int (nI f), .int 5] h = some (.inl (some (.int (nI (1684 + 11 * f + 5)))), h) := r_hat f 5 h
theorem ri_5 {f : Nat} (hf : f < 24) : ex S (d + 2) 165 [.ref 39, .int (nI f), .int 5] (Hh k E A L T) = some (.inl (some (.int (A 40 (1684 + 11 * f + 5)))), Hh k E A L T) := r_its (w := 5) hf (by decide)
theorem rs_5 {f : Nat} {j : Int64} (hf : f < 24) : ex S (d + 2) 151 [.ref 39, .int (nI f), .int 5, .long j] (Hh k E A L T) = some (.inl none, Hh k E (up A 40 (1684 + 11 * f + 5) (kp j)) L T) := r_sets (w := 5) hf (by decide)
theorem rh_6 {f : Nat} {h : pH} : ex S (d + 1) 148 [.int (nI f), .int 6] h = some (.inl (some (.int (nI (1684 + 11 * f + 6)))), h) := r_hat f 6 h
theorem ri_6 {f : Nat} (hf : f < 24) : ex S (d + 2) 165 [.ref 39, .int (nI f), .int 6] (Hh k E A L T) = some (.inl (some (.int (A 40 (1684 + 11 * f + 6)))), Hh k E A L T) := r_its (w := 6) hf (by decide)
theorem rs_6 {f : Nat} {j : Int64} (hf : f < 24) : ex S (d + 2) 151 [.ref 39, .int (nI f), .int 6, .long j] (Hh k E A L T) = some (.inl none, Hh k E (up A 40 (1684 + 11 * f + 6) (kp j)) L T) := r_sets (w := 6) hf (by decide)
theorem rh_7 {f : Nat} {h : pH} : ex S (d + 1) 148 [.int (nI f), .int 7] h = some (.inl (some (.int (nI (1684 + 11 * f + 7)))), h) := r_hat f 7 h
theorem ri_7 {f : Nat} (hf : f < 24) : ex S (d + 2) 165 [.ref 39, .int (nI f), .int 7] (Hh k E A L T) = some (.inl (some (.int (A 40 (1684 + 11 * f + 7)))), Hh k E A L T) := r_its (w := 7) hf (by decide)
theorem rs_7 {f : Nat} {j : Int64} (hf : f < 24) : ex S (d + 2) 151 [.ref 39, .int (nI f), .int 7, .long j] (Hh k E A L T) = some (.inl none, Hh k E (up A 40 (1684 + 11 * f + 7) (kp j)) L T) := r_sets (w := 7) hf (by decide)
theorem rh_8 {f : Nat} {h : pH} : ex S (d + 1) 148 [.int (nI f), .int 8] h = some (.inl (some (.int (nI (1684 + 11 * f + 8)))), h) := r_hat f 8 h
theorem ri_8 {f : Nat} (hf : f < 24) : ex S (d + 2) 165 [.ref 39, .int (nI f), .int 8] (Hh k E A L T) = some (.inl (some (.int (A 40 (1684 + 11 * f + 8)))), Hh k E A L T) := r_its (w := 8) hf (by decide)
theorem rs_8 {f : Nat} {j : Int64} (hf : f < 24) : ex S (d + 2) 151 [.ref 39, .int (nI f), .int 8, .long j] (Hh k E A L T) = some (.inl none, Hh k E (up A 40 (1684 + 11 * f + 8) (kp j)) L T) := r_sets (w := 8) hf (by decide)
theorem rh_9 {f : Nat} {h : pH} : ex S (d + 1) 148 [.int (nI f), .int 9] h = some (.inl (some (.int (nI (1684 + 11 * f + 9)))), h) := r_hat f 9 h
theorem ri_9 {f : Nat} (hf : f < 24) : ex S (d + 2) 165 [.ref 39, .int (nI f), .int 9] (Hh k E A L T) = some (.inl (some (.int (A 40 (1684 + 11 * f + 9)))), Hh k E A L T) := r_its (w := 9) hf (by decide)
theorem rs_9 {f : Nat} {j : Int64} (hf : f < 24) : ex S (d + 2) 151 [.ref 39, .int (nI f), .int 9, .long j] (Hh k E A L T) = some (.inl none, Hh k E (up A 40 (1684 + 11 * f + 9) (kp j)) L T) := r_sets (w := 9) hf (by decide)
theorem rh_10 {f : Nat} {h : pH} : ex S (d + 1) 148 [.int (nI f), .int 10] h = some (.inl (some (.int (nI (1684 + 11 * f + 10)))), h) := r_hat f 10 h
theorem ri_10 {f : Nat} (hf : f < 24) : ex S (d + 2) 165 [.ref 39, .int (nI f), .int 10] (Hh k E A L T) = some (.inl (some (.int (A 40 (1684 + 11 * f + 10)))), Hh k E A L T) := r_its (w := 10) hf (by decide)
theorem rs_10 {f : Nat} {j : Int64} (hf : f < 24) : ex S (d + 2) 151 [.ref 39, .int (nI f), .int 10, .long j] (Hh k E A L T) = some (.inl none, Hh k E (up A 40 (1684 + 11 * f + 10) (kp j)) L T) := r_sets (w := 10) hf (by decide)
end RefB
