/-! one turn of the law's loop -/
section Turn
variable {S : sT} {d c f : Nat} {k : Value} {E : List dsc} {A : fA} {L : fL} {T : fT} {x4 b1 b2 b3 b4 b5 b6 : Int32} {o5 o6 : Option Value}
/-- the loop goes on, tied -/
def TN (c : Nat) (S : sT) (D : Nat) (x4 : Int32) (f : Nat) (r : rO) : Prop := ∃ f' k' E' A' L' T' o5' o6', f ≤ f' ∧ r = bd S (ex S D) dflT E_L_law f' 23 [some (.retAddr 0), some (.ref 0), some (.ref 39), some (.ref 48), some (.int (x4 + 7)), o5', o6'] [] (Hh k' E' A' L' T') ∧ Rel (c + 1) k' E' A' T'
theorem t_end {D m : Nat} (hf : f ≤ m) (hR : Rel (c + 1) k E A T) : TN c S D x4 f (bd S (ex S D) dflT E_L_law (m + 1) 2773 [some (.retAddr 0), some (.ref 0), some (.ref 39), some (.ref 48), some (.int x4), o5, o6] [] (Hh k E A L T)) := by
  rw [g_L_law_2773]
  exact ⟨m, k, E, A, L, T, o5, o6, hf, rfl, hR⟩
theorem iA_a {n : Nat} {κ : rO} : iA (.retAddr n) κ = κ := rfl
theorem iA_r {n : Nat} {κ : rO} : iA (.ref n) κ = κ := rfl
theorem cIx_i {thr : String → pH → rO} {x : Int32} {h1 : pH} {κ : Int32 → pH → rO} : cIx thr (some (.inl (some (.int x)), h1)) κ = κ x h1 := rfl
theorem cUx_i {thr : String → pH → rO} {h1 : pH} {κ : pH → rO} : cUx thr (some (.inl none, h1)) κ = κ h1 := rfl
theorem a48 {κ : Int64 → rO} : aJ (Hh k E A L T) (.ref 48) 0 κ = κ (L 48 0) := ha_48 (i := 0) (by decide) (by decide)
theorem c_thrown : ex S (d + 1) 33 [.ref 39] (Hh k E A L T) = some (.inl (some (.int (A 39 0))), Hh k E A L T) := by
  rw [x_X12_thrown, g_X12_thrown_0, hg_39_0]
theorem lg_cc {x : Int64} : lg_cmp x x = 0 := by unfold lg_cmp; simp
theorem upL_48 {x : Int64} : upL L 48 0 x 48 0 = x := upL_ii
theorem t_216 (h1 : ∀ κ, xL S (.retAddr 0) (x4 + 1) κ = κ b1) (h2 : ∀ κ, xL S (.retAddr 0) (x4 + 2) κ = κ b2) (h3 : ∀ κ, xL S (.retAddr 0) (x4 + 3) κ = κ b3) (h4 : ∀ κ, xL S (.retAddr 0) (x4 + 4) κ = κ b4) (h5 : ∀ κ, xL S (.retAddr 0) (x4 + 5) κ = κ b5) (h6 : ∀ κ, xL S (.retAddr 0) (x4 + 6) κ = κ b6) (hc : c < 1000000) (hR : Rel c k E A T) : TN c S (d + 40) x4 f (bd S (ex S (d + 40)) dflT E_L_law (f + 4) 216 [some (.retAddr 0), some (.ref 0), some (.ref 39), some (.ref 48), some (.int x4), o5, o6] [] (Hh k E A L T)) := by
  rw [g_L_law_216]
  try simp -implicitDefEqProofs only [iA_a, iA_r, h1, h2, h3, h4, h5, h6]
  obtain ⟨k', E', A1, L1, T', hq⟩ := (p_feed (S := S) (d := d + 34) hR b1 b2 b3 b4 b5 : PK c S (d + 40) k E A T 15 16 [.int b1, .int b2, .int b3, .int b4, .int b5] _) L
  rcases hq with ⟨v, ok, e1, e2⟩ | ⟨e, q, e1, e2⟩
  · obtain ⟨y, rfl⟩ := okI_i rfl ok
    obtain ⟨A2, L2, e3, q1, q2, hR2⟩ := e2 L1
    rw [hc_0, e1, cIx_i, g_L_law_250]
    try simp -implicitDefEqProofs only [iA_a, iA_r, h1, h2, h3, h4, h5, h6]
    rw [hc_39, e3, cIx_i, if_pos rfl]
    exact t_end (by omega) hR2
  · exact absurd rfl q
theorem t_289 (h1 : ∀ κ, xL S (.retAddr 0) (x4 + 1) κ = κ b1) (h2 : ∀ κ, xL S (.retAddr 0) (x4 + 2) κ = κ b2) (h3 : ∀ κ, xL S (.retAddr 0) (x4 + 3) κ = κ b3) (h4 : ∀ κ, xL S (.retAddr 0) (x4 + 4) κ = κ b4) (h5 : ∀ κ, xL S (.retAddr 0) (x4 + 5) κ = κ b5) (h6 : ∀ κ, xL S (.retAddr 0) (x4 + 6) κ = κ b6) (hc : c < 1000000) (hR : Rel c k E A T) : TN c S (d + 40) x4 f (bd S (ex S (d + 40)) dflT E_L_law (f + 4) 289 [some (.retAddr 0), some (.ref 0), some (.ref 39), some (.ref 48), some (.int x4), o5, o6] [] (Hh k E A L T)) := by
  rw [g_L_law_289]
  try simp -implicitDefEqProofs only [iA_a, iA_r, h1, h2, h3, h4, h5, h6]
  obtain ⟨k', E', A1, L1, T', hq⟩ := (PI_K (p_end (S := S) (d := d + 34) hR b1) : PK c S (d + 40) k E A T 17 18 [.int b1] _) L
  rcases hq with ⟨v, ok, e1, e2⟩ | ⟨e, q, e1, e2⟩
  · obtain ⟨y, rfl⟩ := okI_i rfl ok
    obtain ⟨A2, L2, e3, q1, q2, hR2⟩ := e2 L1
    rw [hc_0, e1, cIx_i]
    try simp -implicitDefEqProofs only [iA_a, iA_r, h1, h2, h3, h4, h5, h6]
    rw [hc_39, e3, cIx_i, if_pos rfl]
    exact t_end (by omega) hR2
  · exact absurd rfl q
theorem t_314 (h1 : ∀ κ, xL S (.retAddr 0) (x4 + 1) κ = κ b1) (h2 : ∀ κ, xL S (.retAddr 0) (x4 + 2) κ = κ b2) (h3 : ∀ κ, xL S (.retAddr 0) (x4 + 3) κ = κ b3) (h4 : ∀ κ, xL S (.retAddr 0) (x4 + 4) κ = κ b4) (h5 : ∀ κ, xL S (.retAddr 0) (x4 + 5) κ = κ b5) (h6 : ∀ κ, xL S (.retAddr 0) (x4 + 6) κ = κ b6) (hc : c < 1000000) (hR : Rel c k E A T) : TN c S (d + 40) x4 f (bd S (ex S (d + 40)) dflT E_L_law (f + 4) 314 [some (.retAddr 0), some (.ref 0), some (.ref 39), some (.ref 48), some (.int x4), o5, o6] [] (Hh k E A L T)) := by
  rw [g_L_law_314]
  try simp -implicitDefEqProofs only [iA_a, iA_r, h1, h2, h3, h4, h5, h6]
  obtain ⟨k', E', A1, L1, T', hq⟩ := h_field (PI_K (p_field (S := S) (d := d + 33) hR b1 b2 b3 b4 b5 b6)) L
  rcases hq with ⟨y, e1, e2⟩ | ⟨x, hx, e1, e2⟩
  · rw [e1, cIx_i, g_L_law_356]
    try simp -implicitDefEqProofs only [iA_a, iA_r, h1, h2, h3, h4, h5, h6]
    obtain ⟨A2, L2, e3, q1, q2, hR2⟩ := e2 (upL L1 48 0 (bj y))
    rw [hc_39, e3, cIx_i, g_L_law_401, hc_39, c_thrown, cIx_i, q2, if_pos rfl]
    first | rw [if_pos trivial] | rw [if_pos (show (0 : Int32) = 0 from rfl)]
    rw [a48, q1, upL_48]
    by_cases hy : y = 0
    · rw [if_pos hy, show bj y = 0 from if_pos hy, lg_cc, if_pos rfl]; exact t_end (by omega) hR2
    · rw [if_neg hy, show bj y = 1 from if_neg hy, lg_cc, if_pos rfl]; exact t_end (by omega) hR2
  · rw [e1, cIx_i, g_L_law_356]
    try simp -implicitDefEqProofs only [iA_a, iA_r, h1, h2, h3, h4, h5, h6]
    obtain ⟨A2, L2, y, e3, q1, q2, hR2⟩ := e2 L1
    rw [hc_39, e3, cIx_i, g_L_law_401, hc_39, c_thrown, cIx_i, q2, if_pos rfl, if_neg hx]
    exact t_end (by omega) hR2
theorem t_439 (h1 : ∀ κ, xL S (.retAddr 0) (x4 + 1) κ = κ b1) (h2 : ∀ κ, xL S (.retAddr 0) (x4 + 2) κ = κ b2) (h3 : ∀ κ, xL S (.retAddr 0) (x4 + 3) κ = κ b3) (h4 : ∀ κ, xL S (.retAddr 0) (x4 + 4) κ = κ b4) (h5 : ∀ κ, xL S (.retAddr 0) (x4 + 5) κ = κ b5) (h6 : ∀ κ, xL S (.retAddr 0) (x4 + 6) κ = κ b6) (hc : c < 1000000) (hR : Rel c k E A T) : TN c S (d + 40) x4 f (bd S (ex S (d + 40)) dflT E_L_law (f + 4) 439 [some (.retAddr 0), some (.ref 0), some (.ref 39), some (.ref 48), some (.int x4), o5, o6] [] (Hh k E A L T)) := by
  rw [g_L_law_439]
  try simp -implicitDefEqProofs only [iA_a, iA_r, h1, h2, h3, h4, h5, h6]
  by_cases hb : b3 = 0
  · rw [if_pos hb]
    obtain ⟨k', E', A1, L1, T', x, e1, e2⟩ := h_rain (PI_K (p_rain (S := S) (d := d + 34) hR b1 b2 0)) L
    rw [e1, cIx_i, g_L_law_469]
    try simp -implicitDefEqProofs only [iA_a, iA_r, h1, h2, h3, h4, h5, h6]
    obtain ⟨A2, L2, e3, q1, q2, hR2⟩ := e2 L1
    rw [if_pos hb, hc_39, e3, cUx_i, hc_39, c_thrown, cIx_i, q2, if_pos rfl]
    exact t_end (by omega) hR2
  · rw [if_neg hb]
    obtain ⟨k', E', A1, L1, T', x, e1, e2⟩ := h_rain (PI_K (p_rain (S := S) (d := d + 34) hR b1 b2 1)) L
    rw [e1, cIx_i, g_L_law_469]
    try simp -implicitDefEqProofs only [iA_a, iA_r, h1, h2, h3, h4, h5, h6]
    obtain ⟨A2, L2, e3, q1, q2, hR2⟩ := e2 L1
    rw [if_neg hb, hc_39, e3, cUx_i, hc_39, c_thrown, cIx_i, q2, if_pos rfl]
    exact t_end (by omega) hR2
theorem t_515 (h1 : ∀ κ, xL S (.retAddr 0) (x4 + 1) κ = κ b1) (h2 : ∀ κ, xL S (.retAddr 0) (x4 + 2) κ = κ b2) (h3 : ∀ κ, xL S (.retAddr 0) (x4 + 3) κ = κ b3) (h4 : ∀ κ, xL S (.retAddr 0) (x4 + 4) κ = κ b4) (h5 : ∀ κ, xL S (.retAddr 0) (x4 + 5) κ = κ b5) (h6 : ∀ κ, xL S (.retAddr 0) (x4 + 6) κ = κ b6) (hc : c < 1000000) (hR : Rel c k E A T) : TN c S (d + 40) x4 f (bd S (ex S (d + 40)) dflT E_L_law (f + 4) 515 [some (.retAddr 0), some (.ref 0), some (.ref 39), some (.ref 48), some (.int x4), o5, o6] [] (Hh k E A L T)) := by
  rw [g_L_law_515]
  try simp -implicitDefEqProofs only [iA_a, iA_r, h1, h2, h3, h4, h5, h6]
  obtain ⟨k', E', A1, L1, T', hq⟩ := h_fell (PI_K (p_fell (S := S) (d := d + 34) hR b1)) L
  rcases hq with ⟨y, e1, e2⟩ | ⟨x, hx, e1, e2⟩
  · rw [e1, cIx_i, g_L_law_526]
    try simp -implicitDefEqProofs only [iA_a, iA_r, h1, h2, h3, h4, h5, h6]
    obtain ⟨A2, L2, e3, q1, q2, hR2⟩ := e2 (upL L1 48 0 (Int32.toInt64 y))
    rw [hc_39, e3, cIx_i, hc_39, c_thrown, cIx_i, q2, if_pos rfl]
    first | rw [if_pos trivial] | rw [if_pos (show (0 : Int32) = 0 from rfl)]
    rw [a48, q1, upL_48, lg_cc, if_pos rfl]
    exact t_end (by omega) hR2
  · rw [e1, cIx_i, g_L_law_526]
    try simp -implicitDefEqProofs only [iA_a, iA_r, h1, h2, h3, h4, h5, h6]
    obtain ⟨A2, L2, y, e3, q1, q2, hR2⟩ := e2 L1
    rw [hc_39, e3, cIx_i, hc_39, c_thrown, cIx_i, q2, if_pos rfl, if_neg hx]
    exact t_end (by omega) hR2
theorem t_571 (h1 : ∀ κ, xL S (.retAddr 0) (x4 + 1) κ = κ b1) (h2 : ∀ κ, xL S (.retAddr 0) (x4 + 2) κ = κ b2) (h3 : ∀ κ, xL S (.retAddr 0) (x4 + 3) κ = κ b3) (h4 : ∀ κ, xL S (.retAddr 0) (x4 + 4) κ = κ b4) (h5 : ∀ κ, xL S (.retAddr 0) (x4 + 5) κ = κ b5) (h6 : ∀ κ, xL S (.retAddr 0) (x4 + 6) κ = κ b6) (hc : c < 1000000) (hR : Rel c k E A T) : TN c S (d + 40) x4 f (bd S (ex S (d + 40)) dflT E_L_law (f + 4) 571 [some (.retAddr 0), some (.ref 0), some (.ref 39), some (.ref 48), some (.int x4), o5, o6] [] (Hh k E A L T)) := by
  rw [g_L_law_571]
  try simp -implicitDefEqProofs only [iA_a, iA_r, h1, h2, h3, h4, h5, h6]
  obtain ⟨k', E', A1, L1, T', hq⟩ := h_price (PI_K (p_price (S := S) (d := d + 34) hR b1 b2 b3)) L
  rcases hq with ⟨y, e1, e2⟩ | ⟨x, hx, e1, e2⟩
  · rw [e1, cIx_i, g_L_law_594]
    try simp -implicitDefEqProofs only [iA_a, iA_r, h1, h2, h3, h4, h5, h6]
    obtain ⟨A2, L2, e3, q1, q2, hR2⟩ := e2 (upL L1 48 0 (Int32.toInt64 y))
    rw [hc_39, e3, cIx_i, hc_39, c_thrown, cIx_i, q2, if_pos rfl]
    first | rw [if_pos trivial] | rw [if_pos (show (0 : Int32) = 0 from rfl)]
    rw [a48, q1, upL_48, lg_cc, if_pos rfl]
    exact t_end (by omega) hR2
  · rw [e1, cIx_i, g_L_law_594]
    try simp -implicitDefEqProofs only [iA_a, iA_r, h1, h2, h3, h4, h5, h6]
    obtain ⟨A2, L2, y, e3, q1, q2, hR2⟩ := e2 L1
    rw [hc_39, e3, cIx_i, hc_39, c_thrown, cIx_i, q2, if_pos rfl, if_neg hx]
    exact t_end (by omega) hR2
theorem t_651 (h1 : ∀ κ, xL S (.retAddr 0) (x4 + 1) κ = κ b1) (h2 : ∀ κ, xL S (.retAddr 0) (x4 + 2) κ = κ b2) (h3 : ∀ κ, xL S (.retAddr 0) (x4 + 3) κ = κ b3) (h4 : ∀ κ, xL S (.retAddr 0) (x4 + 4) κ = κ b4) (h5 : ∀ κ, xL S (.retAddr 0) (x4 + 5) κ = κ b5) (h6 : ∀ κ, xL S (.retAddr 0) (x4 + 6) κ = κ b6) (hc : c < 1000000) (hR : Rel c k E A T) : TN c S (d + 40) x4 f (bd S (ex S (d + 40)) dflT E_L_law (f + 4) 651 [some (.retAddr 0), some (.ref 0), some (.ref 39), some (.ref 48), some (.int x4), o5, o6] [] (Hh k E A L T)) := by
  rw [g_L_law_651]
  try simp -implicitDefEqProofs only [iA_a, iA_r, h1, h2, h3, h4, h5, h6]
  obtain ⟨k', E', A1, L1, T', hq⟩ := h_known (PI_K (p_known (S := S) (d := d + 34) hR b1 b2 b3)) L
  rcases hq with ⟨y, e1, e2⟩ | ⟨x, hx, e1, e2⟩
  · rw [e1, cIx_i, g_L_law_674]
    try simp -implicitDefEqProofs only [iA_a, iA_r, h1, h2, h3, h4, h5, h6]
    obtain ⟨A2, L2, e3, q1, q2, hR2⟩ := e2 (upL L1 48 0 (Int32.toInt64 y))
    rw [hc_39, e3, cIx_i, hc_39, c_thrown, cIx_i, q2, if_pos rfl]
    first | rw [if_pos trivial] | rw [if_pos (show (0 : Int32) = 0 from rfl)]
    rw [a48, q1, upL_48, lg_cc, if_pos rfl]
    exact t_end (by omega) hR2
  · rw [e1, cIx_i, g_L_law_674]
    try simp -implicitDefEqProofs only [iA_a, iA_r, h1, h2, h3, h4, h5, h6]
    obtain ⟨A2, L2, y, e3, q1, q2, hR2⟩ := e2 L1
    rw [hc_39, e3, cIx_i, hc_39, c_thrown, cIx_i, q2, if_pos rfl, if_neg hx]
    exact t_end (by omega) hR2
theorem t_731 (h1 : ∀ κ, xL S (.retAddr 0) (x4 + 1) κ = κ b1) (h2 : ∀ κ, xL S (.retAddr 0) (x4 + 2) κ = κ b2) (h3 : ∀ κ, xL S (.retAddr 0) (x4 + 3) κ = κ b3) (h4 : ∀ κ, xL S (.retAddr 0) (x4 + 4) κ = κ b4) (h5 : ∀ κ, xL S (.retAddr 0) (x4 + 5) κ = κ b5) (h6 : ∀ κ, xL S (.retAddr 0) (x4 + 6) κ = κ b6) (hc : c < 1000000) (hR : Rel c k E A T) : TN c S (d + 40) x4 f (bd S (ex S (d + 40)) dflT E_L_law (f + 4) 731 [some (.retAddr 0), some (.ref 0), some (.ref 39), some (.ref 48), some (.int x4), o5, o6] [] (Hh k E A L T)) := by
  rw [g_L_law_731]
  try simp -implicitDefEqProofs only [iA_a, iA_r, h1, h2, h3, h4, h5, h6]
  by_cases hb : b5 = 0
  · rw [if_pos hb]
    obtain ⟨k', E', A1, L1, T', hq⟩ := h_let (p_let (S := S) (d := d + 3) hc hR b1 b2 b3 b4 0) L
    rcases hq with ⟨y, e1, e2⟩ | ⟨x, hx, e1, e2⟩
    · rw [e1, cIx_i, g_L_law_774]
      try simp -implicitDefEqProofs only [iA_a, iA_r, h1, h2, h3, h4, h5, h6]
      rw [if_pos hb]
      rw [g_L_law_815]
      obtain ⟨A2, L2, e3, q1, q2, hR2⟩ := e2 (upL L1 48 0 (Int32.toInt64 y))
      rw [hc_39, e3, cIx_i, hc_39, c_thrown, cIx_i, q2, if_pos rfl]
      first | rw [if_pos trivial] | rw [if_pos (show (0 : Int32) = 0 from rfl)]
      rw [a48, q1, upL_48, lg_cc, if_pos rfl]
      exact t_end (by omega) hR2
    · rw [e1, cIx_i, g_L_law_774]
      try simp -implicitDefEqProofs only [iA_a, iA_r, h1, h2, h3, h4, h5, h6]
      rw [if_pos hb]
      rw [g_L_law_815]
      obtain ⟨A2, L2, y, e3, q1, q2, hR2⟩ := e2 L1
      rw [hc_39, e3, cIx_i, hc_39, c_thrown, cIx_i, q2, if_pos rfl, if_neg hx]
      exact t_end (by omega) hR2
  · rw [if_neg hb]
    obtain ⟨k', E', A1, L1, T', hq⟩ := h_let (p_let (S := S) (d := d + 3) hc hR b1 b2 b3 b4 1) L
    rcases hq with ⟨y, e1, e2⟩ | ⟨x, hx, e1, e2⟩
    · rw [e1, cIx_i, g_L_law_774]
      try simp -implicitDefEqProofs only [iA_a, iA_r, h1, h2, h3, h4, h5, h6]
      rw [if_neg hb]
      rw [g_L_law_815]
      obtain ⟨A2, L2, e3, q1, q2, hR2⟩ := e2 (upL L1 48 0 (Int32.toInt64 y))
      rw [hc_39, e3, cIx_i, hc_39, c_thrown, cIx_i, q2, if_pos rfl]
      first | rw [if_pos trivial] | rw [if_pos (show (0 : Int32) = 0 from rfl)]
      rw [a48, q1, upL_48, lg_cc, if_pos rfl]
      exact t_end (by omega) hR2
    · rw [e1, cIx_i, g_L_law_774]
      try simp -implicitDefEqProofs only [iA_a, iA_r, h1, h2, h3, h4, h5, h6]
      rw [if_neg hb]
      rw [g_L_law_815]
      obtain ⟨A2, L2, y, e3, q1, q2, hR2⟩ := e2 L1
      rw [hc_39, e3, cIx_i, hc_39, c_thrown, cIx_i, q2, if_pos rfl, if_neg hx]
      exact t_end (by omega) hR2
theorem t_851 (h1 : ∀ κ, xL S (.retAddr 0) (x4 + 1) κ = κ b1) (h2 : ∀ κ, xL S (.retAddr 0) (x4 + 2) κ = κ b2) (h3 : ∀ κ, xL S (.retAddr 0) (x4 + 3) κ = κ b3) (h4 : ∀ κ, xL S (.retAddr 0) (x4 + 4) κ = κ b4) (h5 : ∀ κ, xL S (.retAddr 0) (x4 + 5) κ = κ b5) (h6 : ∀ κ, xL S (.retAddr 0) (x4 + 6) κ = κ b6) (hc : c < 1000000) (hR : Rel c k E A T) : TN c S (d + 40) x4 f (bd S (ex S (d + 40)) dflT E_L_law (f + 4) 851 [some (.retAddr 0), some (.ref 0), some (.ref 39), some (.ref 48), some (.int x4), o5, o6] [] (Hh k E A L T)) := by
  rw [g_L_law_851]
  try simp -implicitDefEqProofs only [iA_a, iA_r, h1, h2, h3, h4, h5, h6]
  obtain ⟨k', E', A1, L1, T', hq⟩ := h_keep (p_keep (S := S) (d := d + 31) hR b1 b2 b3 b4 b5) L
  rcases hq with ⟨y, e1, e2⟩ | ⟨x, hx, e1, e2⟩
  · rw [e1, cIx_i, g_L_law_886]
    try simp -implicitDefEqProofs only [iA_a, iA_r, h1, h2, h3, h4, h5, h6]
    obtain ⟨A2, L2, e3, q1, q2, hR2⟩ := e2 (upL L1 48 0 (Int32.toInt64 y))
    rw [hc_39, e3, cIx_i, g_L_law_924, hc_39, c_thrown, cIx_i, q2, if_pos rfl]
    first | rw [if_pos trivial] | rw [if_pos (show (0 : Int32) = 0 from rfl)]
    rw [a48, q1, upL_48, lg_cc, if_pos rfl]
    exact t_end (by omega) hR2
  · rw [e1, cIx_i, g_L_law_886]
    try simp -implicitDefEqProofs only [iA_a, iA_r, h1, h2, h3, h4, h5, h6]
    obtain ⟨A2, L2, y, e3, q1, q2, hR2⟩ := e2 L1
    rw [hc_39, e3, cIx_i, g_L_law_924, hc_39, c_thrown, cIx_i, q2, if_pos rfl, if_neg hx]
    exact t_end (by omega) hR2
theorem t_955 (h1 : ∀ κ, xL S (.retAddr 0) (x4 + 1) κ = κ b1) (h2 : ∀ κ, xL S (.retAddr 0) (x4 + 2) κ = κ b2) (h3 : ∀ κ, xL S (.retAddr 0) (x4 + 3) κ = κ b3) (h4 : ∀ κ, xL S (.retAddr 0) (x4 + 4) κ = κ b4) (h5 : ∀ κ, xL S (.retAddr 0) (x4 + 5) κ = κ b5) (h6 : ∀ κ, xL S (.retAddr 0) (x4 + 6) κ = κ b6) (hc : c < 1000000) (hR : Rel c k E A T) : TN c S (d + 40) x4 f (bd S (ex S (d + 40)) dflT E_L_law (f + 4) 955 [some (.retAddr 0), some (.ref 0), some (.ref 39), some (.ref 48), some (.int x4), o5, o6] [] (Hh k E A L T)) := by
  rw [g_L_law_955]
  try simp -implicitDefEqProofs only [iA_a, iA_r, h1, h2, h3, h4, h5, h6]
  obtain ⟨k', E', A1, L1, T', hq⟩ := h_sow (PI_K (p_sow (S := S) (d := d + 33) hR b1 b2)) L
  rcases hq with ⟨y, e1, e2⟩ | ⟨x, hx, e1, e2⟩
  · rw [e1, cIx_i, g_L_law_972]
    try simp -implicitDefEqProofs only [iA_a, iA_r, h1, h2, h3, h4, h5, h6]
    obtain ⟨A2, L2, e3, q1, q2, hR2⟩ := e2 (upL L1 48 0 (bj y))
    rw [hc_39, e3, cIx_i, hc_39, c_thrown, cIx_i, q2, if_pos rfl]
    first | rw [if_pos trivial] | rw [if_pos (show (0 : Int32) = 0 from rfl)]
    rw [a48, q1, upL_48]
    by_cases hy : y = 0
    · rw [if_pos hy, show bj y = 0 from if_pos hy, lg_cc, if_pos rfl]; exact t_end (by omega) hR2
    · rw [if_neg hy, show bj y = 1 from if_neg hy, lg_cc, if_pos rfl]; exact t_end (by omega) hR2
  · rw [e1, cIx_i, g_L_law_972]
    try simp -implicitDefEqProofs only [iA_a, iA_r, h1, h2, h3, h4, h5, h6]
    obtain ⟨A2, L2, y, e3, q1, q2, hR2⟩ := e2 L1
    rw [hc_39, e3, cIx_i, hc_39, c_thrown, cIx_i, q2, if_pos rfl, if_neg hx]
    exact t_end (by omega) hR2
theorem t_1030 (h1 : ∀ κ, xL S (.retAddr 0) (x4 + 1) κ = κ b1) (h2 : ∀ κ, xL S (.retAddr 0) (x4 + 2) κ = κ b2) (h3 : ∀ κ, xL S (.retAddr 0) (x4 + 3) κ = κ b3) (h4 : ∀ κ, xL S (.retAddr 0) (x4 + 4) κ = κ b4) (h5 : ∀ κ, xL S (.retAddr 0) (x4 + 5) κ = κ b5) (h6 : ∀ κ, xL S (.retAddr 0) (x4 + 6) κ = κ b6) (hc : c < 1000000) (hR : Rel c k E A T) : TN c S (d + 40) x4 f (bd S (ex S (d + 40)) dflT E_L_law (f + 4) 1030 [some (.retAddr 0), some (.ref 0), some (.ref 39), some (.ref 48), some (.int x4), o5, o6] [] (Hh k E A L T)) := by
  rw [g_L_law_1030]
  try simp -implicitDefEqProofs only [iA_a, iA_r, h1, h2, h3, h4, h5, h6]
  obtain ⟨k', E', A1, L1, T', hq⟩ := h_notice (PI_K (p_notice (S := S) (d := d + 33) hR b1)) L
  rcases hq with ⟨y, e1, e2⟩ | ⟨x, hx, e1, e2⟩
  · rw [e1, cIx_i, g_L_law_1041]
    try simp -implicitDefEqProofs only [iA_a, iA_r, h1, h2, h3, h4, h5, h6]
    obtain ⟨A2, L2, e3, q1, q2, hR2⟩ := e2 (upL L1 48 0 (bj y))
    rw [hc_39, e3, cIx_i, hc_39, c_thrown, cIx_i, q2, if_pos rfl]
    first | rw [if_pos trivial] | rw [if_pos (show (0 : Int32) = 0 from rfl)]
    rw [a48, q1, upL_48]
    by_cases hy : y = 0
    · rw [if_pos hy, show bj y = 0 from if_pos hy, lg_cc, if_pos rfl]; exact t_end (by omega) hR2
    · rw [if_neg hy, show bj y = 1 from if_neg hy, lg_cc, if_pos rfl]; exact t_end (by omega) hR2
  · rw [e1, cIx_i, g_L_law_1041]
    try simp -implicitDefEqProofs only [iA_a, iA_r, h1, h2, h3, h4, h5, h6]
    obtain ⟨A2, L2, y, e3, q1, q2, hR2⟩ := e2 L1
    rw [hc_39, e3, cIx_i, hc_39, c_thrown, cIx_i, q2, if_pos rfl, if_neg hx]
    exact t_end (by omega) hR2
theorem t_1093 (h1 : ∀ κ, xL S (.retAddr 0) (x4 + 1) κ = κ b1) (h2 : ∀ κ, xL S (.retAddr 0) (x4 + 2) κ = κ b2) (h3 : ∀ κ, xL S (.retAddr 0) (x4 + 3) κ = κ b3) (h4 : ∀ κ, xL S (.retAddr 0) (x4 + 4) κ = κ b4) (h5 : ∀ κ, xL S (.retAddr 0) (x4 + 5) κ = κ b5) (h6 : ∀ κ, xL S (.retAddr 0) (x4 + 6) κ = κ b6) (hc : c < 1000000) (hR : Rel c k E A T) : TN c S (d + 40) x4 f (bd S (ex S (d + 40)) dflT E_L_law (f + 4) 1093 [some (.retAddr 0), some (.ref 0), some (.ref 39), some (.ref 48), some (.int x4), o5, o6] [] (Hh k E A L T)) := by
  rw [g_L_law_1093]
  try simp -implicitDefEqProofs only [iA_a, iA_r, h1, h2, h3, h4, h5, h6]
  obtain ⟨k', E', A1, L1, T', hq⟩ := h_give (p_give (S := S) (d := d + 33) hR b1) L
  rcases hq with ⟨y, e1, e2⟩ | ⟨x, hx, e1, e2⟩
  · rw [e1, cIx_i, g_L_law_1104]
    try simp -implicitDefEqProofs only [iA_a, iA_r, h1, h2, h3, h4, h5, h6]
    obtain ⟨A2, L2, e3, q1, q2, hR2⟩ := e2 (upL L1 48 0 (Int32.toInt64 y))
    rw [hc_39, e3, cIx_i, hc_39, c_thrown, cIx_i, q2, if_pos rfl]
    first | rw [if_pos trivial] | rw [if_pos (show (0 : Int32) = 0 from rfl)]
    rw [a48, q1, upL_48, lg_cc, if_pos rfl]
    exact t_end (by omega) hR2
  · rw [e1, cIx_i, g_L_law_1104]
    try simp -implicitDefEqProofs only [iA_a, iA_r, h1, h2, h3, h4, h5, h6]
    obtain ⟨A2, L2, y, e3, q1, q2, hR2⟩ := e2 L1
    rw [hc_39, e3, cIx_i, hc_39, c_thrown, cIx_i, q2, if_pos rfl, if_neg hx]
    exact t_end (by omega) hR2
theorem t_1149 (h1 : ∀ κ, xL S (.retAddr 0) (x4 + 1) κ = κ b1) (h2 : ∀ κ, xL S (.retAddr 0) (x4 + 2) κ = κ b2) (h3 : ∀ κ, xL S (.retAddr 0) (x4 + 3) κ = κ b3) (h4 : ∀ κ, xL S (.retAddr 0) (x4 + 4) κ = κ b4) (h5 : ∀ κ, xL S (.retAddr 0) (x4 + 5) κ = κ b5) (h6 : ∀ κ, xL S (.retAddr 0) (x4 + 6) κ = κ b6) (hc : c < 1000000) (hR : Rel c k E A T) : TN c S (d + 40) x4 f (bd S (ex S (d + 40)) dflT E_L_law (f + 4) 1149 [some (.retAddr 0), some (.ref 0), some (.ref 39), some (.ref 48), some (.int x4), o5, o6] [] (Hh k E A L T)) := by
  rw [g_L_law_1149]
  try simp -implicitDefEqProofs only [iA_a, iA_r, h1, h2, h3, h4, h5, h6]
  obtain ⟨k', E', A1, L1, T', hq⟩ := h_seasons (p_seasons (S := S) (d := d + 29) hR b1) L
  rcases hq with ⟨y, e1, e2⟩ | ⟨x, hx, e1, e2⟩
  · rw [e1, cIx_i, g_L_law_1160]
    try simp -implicitDefEqProofs only [iA_a, iA_r, h1, h2, h3, h4, h5, h6]
    obtain ⟨A2, L2, e3, q1, q2, hR2⟩ := e2 (upL L1 48 0 (Int32.toInt64 y))
    rw [hc_39, e3, cIx_i, hc_39, c_thrown, cIx_i, q2, if_pos rfl]
    first | rw [if_pos trivial] | rw [if_pos (show (0 : Int32) = 0 from rfl)]
    rw [a48, q1, upL_48, lg_cc, if_pos rfl]
    exact t_end (by omega) hR2
  · rw [e1, cIx_i, g_L_law_1160]
    try simp -implicitDefEqProofs only [iA_a, iA_r, h1, h2, h3, h4, h5, h6]
    obtain ⟨A2, L2, y, e3, q1, q2, hR2⟩ := e2 L1
    rw [hc_39, e3, cIx_i, hc_39, c_thrown, cIx_i, q2, if_pos rfl, if_neg hx]
    exact t_end (by omega) hR2
theorem t_1205 (h1 : ∀ κ, xL S (.retAddr 0) (x4 + 1) κ = κ b1) (h2 : ∀ κ, xL S (.retAddr 0) (x4 + 2) κ = κ b2) (h3 : ∀ κ, xL S (.retAddr 0) (x4 + 3) κ = κ b3) (h4 : ∀ κ, xL S (.retAddr 0) (x4 + 4) κ = κ b4) (h5 : ∀ κ, xL S (.retAddr 0) (x4 + 5) κ = κ b5) (h6 : ∀ κ, xL S (.retAddr 0) (x4 + 6) κ = κ b6) (hc : c < 1000000) (hR : Rel c k E A T) : TN c S (d + 40) x4 f (bd S (ex S (d + 40)) dflT E_L_law (f + 4) 1205 [some (.retAddr 0), some (.ref 0), some (.ref 39), some (.ref 48), some (.int x4), o5, o6] [] (Hh k E A L T)) := by
  rw [g_L_law_1205]
  try simp -implicitDefEqProofs only [iA_a, iA_r, h1, h2, h3, h4, h5, h6]
  obtain ⟨k', E', A1, L1, T', hq⟩ := h_look (PI_K (p_look (S := S) (d := d + 33) hR b1 b2)) L
  rcases hq with ⟨y, e1, e2⟩ | ⟨x, hx, e1, e2⟩
  · rw [e1, cIx_i, g_L_law_1222]
    try simp -implicitDefEqProofs only [iA_a, iA_r, h1, h2, h3, h4, h5, h6]
    obtain ⟨A2, L2, e3, q1, q2, hR2⟩ := e2 (upL L1 48 0 (Int32.toInt64 y))
    rw [hc_39, e3, cIx_i, hc_39, c_thrown, cIx_i, q2, if_pos rfl]
    first | rw [if_pos trivial] | rw [if_pos (show (0 : Int32) = 0 from rfl)]
    rw [a48, q1, upL_48, lg_cc, if_pos rfl]
    exact t_end (by omega) hR2
  · rw [e1, cIx_i, g_L_law_1222]
    try simp -implicitDefEqProofs only [iA_a, iA_r, h1, h2, h3, h4, h5, h6]
    obtain ⟨A2, L2, y, e3, q1, q2, hR2⟩ := e2 L1
    rw [hc_39, e3, cIx_i, hc_39, c_thrown, cIx_i, q2, if_pos rfl, if_neg hx]
    exact t_end (by omega) hR2
theorem t_1273 (h1 : ∀ κ, xL S (.retAddr 0) (x4 + 1) κ = κ b1) (h2 : ∀ κ, xL S (.retAddr 0) (x4 + 2) κ = κ b2) (h3 : ∀ κ, xL S (.retAddr 0) (x4 + 3) κ = κ b3) (h4 : ∀ κ, xL S (.retAddr 0) (x4 + 4) κ = κ b4) (h5 : ∀ κ, xL S (.retAddr 0) (x4 + 5) κ = κ b5) (h6 : ∀ κ, xL S (.retAddr 0) (x4 + 6) κ = κ b6) (hc : c < 1000000) (hR : Rel c k E A T) : TN c S (d + 40) x4 f (bd S (ex S (d + 40)) dflT E_L_law (f + 4) 1273 [some (.retAddr 0), some (.ref 0), some (.ref 39), some (.ref 48), some (.int x4), o5, o6] [] (Hh k E A L T)) := by
  rw [g_L_law_1273]
  try simp -implicitDefEqProofs only [iA_a, iA_r, h1, h2, h3, h4, h5, h6]
  obtain ⟨k', E', A1, L1, T', hq⟩ := h_led (PI_K (p_led (S := S) (d := d + 33) hR b1 b2)) L
  rcases hq with ⟨y, e1, e2⟩ | ⟨x, hx, e1, e2⟩
  · rw [e1, cIx_i, g_L_law_1290]
    try simp -implicitDefEqProofs only [iA_a, iA_r, h1, h2, h3, h4, h5, h6]
    obtain ⟨A2, L2, e3, q1, q2, hR2⟩ := e2 (upL L1 48 0 (Int32.toInt64 y))
    rw [hc_39, e3, cIx_i, hc_39, c_thrown, cIx_i, q2, if_pos rfl]
    first | rw [if_pos trivial] | rw [if_pos (show (0 : Int32) = 0 from rfl)]
    rw [a48, q1, upL_48, lg_cc, if_pos rfl]
    exact t_end (by omega) hR2
  · rw [e1, cIx_i, g_L_law_1290]
    try simp -implicitDefEqProofs only [iA_a, iA_r, h1, h2, h3, h4, h5, h6]
    obtain ⟨A2, L2, y, e3, q1, q2, hR2⟩ := e2 L1
    rw [hc_39, e3, cIx_i, hc_39, c_thrown, cIx_i, q2, if_pos rfl, if_neg hx]
    exact t_end (by omega) hR2
theorem t_1341 (h1 : ∀ κ, xL S (.retAddr 0) (x4 + 1) κ = κ b1) (h2 : ∀ κ, xL S (.retAddr 0) (x4 + 2) κ = κ b2) (h3 : ∀ κ, xL S (.retAddr 0) (x4 + 3) κ = κ b3) (h4 : ∀ κ, xL S (.retAddr 0) (x4 + 4) κ = κ b4) (h5 : ∀ κ, xL S (.retAddr 0) (x4 + 5) κ = κ b5) (h6 : ∀ κ, xL S (.retAddr 0) (x4 + 6) κ = κ b6) (hc : c < 1000000) (hR : Rel c k E A T) : TN c S (d + 40) x4 f (bd S (ex S (d + 40)) dflT E_L_law (f + 4) 1341 [some (.retAddr 0), some (.ref 0), some (.ref 39), some (.ref 48), some (.int x4), o5, o6] [] (Hh k E A L T)) := by
  rw [g_L_law_1341]
  try simp -implicitDefEqProofs only [iA_a, iA_r, h1, h2, h3, h4, h5, h6]
  obtain ⟨k', E', A1, L1, T', hq⟩ := h_owed (p_owed (S := S) (d := d + 33) hR b1) L
  rcases hq with ⟨y, e1, e2⟩ | ⟨x, hx, e1, e2⟩
  · rw [e1, cIx_i, g_L_law_1352]
    try simp -implicitDefEqProofs only [iA_a, iA_r, h1, h2, h3, h4, h5, h6]
    obtain ⟨A2, L2, e3, q1, q2, hR2⟩ := e2 (upL L1 48 0 (Int32.toInt64 y))
    rw [hc_39, e3, cIx_i, hc_39, c_thrown, cIx_i, q2, if_pos rfl]
    first | rw [if_pos trivial] | rw [if_pos (show (0 : Int32) = 0 from rfl)]
    rw [a48, q1, upL_48, lg_cc, if_pos rfl]
    exact t_end (by omega) hR2
  · rw [e1, cIx_i, g_L_law_1352]
    try simp -implicitDefEqProofs only [iA_a, iA_r, h1, h2, h3, h4, h5, h6]
    obtain ⟨A2, L2, y, e3, q1, q2, hR2⟩ := e2 L1
    rw [hc_39, e3, cIx_i, hc_39, c_thrown, cIx_i, q2, if_pos rfl, if_neg hx]
    exact t_end (by omega) hR2
theorem t_1397 (h1 : ∀ κ, xL S (.retAddr 0) (x4 + 1) κ = κ b1) (h2 : ∀ κ, xL S (.retAddr 0) (x4 + 2) κ = κ b2) (h3 : ∀ κ, xL S (.retAddr 0) (x4 + 3) κ = κ b3) (h4 : ∀ κ, xL S (.retAddr 0) (x4 + 4) κ = κ b4) (h5 : ∀ κ, xL S (.retAddr 0) (x4 + 5) κ = κ b5) (h6 : ∀ κ, xL S (.retAddr 0) (x4 + 6) κ = κ b6) (hc : c < 1000000) (hR : Rel c k E A T) : TN c S (d + 40) x4 f (bd S (ex S (d + 40)) dflT E_L_law (f + 4) 1397 [some (.retAddr 0), some (.ref 0), some (.ref 39), some (.ref 48), some (.int x4), o5, o6] [] (Hh k E A L T)) := by
  rw [g_L_law_1397]
  try simp -implicitDefEqProofs only [iA_a, iA_r, h1, h2, h3, h4, h5, h6]
  obtain ⟨k', E', A1, L1, T', hq⟩ := h_rent (p_rent (S := S) (d := d + 33) hR b1) L
  rcases hq with ⟨y, e1, e2⟩ | ⟨x, hx, e1, e2⟩
  · rw [e1, cIx_i, g_L_law_1408]
    try simp -implicitDefEqProofs only [iA_a, iA_r, h1, h2, h3, h4, h5, h6]
    obtain ⟨A2, L2, e3, q1, q2, hR2⟩ := e2 (upL L1 48 0 (Int32.toInt64 y))
    rw [hc_39, e3, cIx_i, hc_39, c_thrown, cIx_i, q2, if_pos rfl]
    first | rw [if_pos trivial] | rw [if_pos (show (0 : Int32) = 0 from rfl)]
    rw [a48, q1, upL_48, lg_cc, if_pos rfl]
    exact t_end (by omega) hR2
  · rw [e1, cIx_i, g_L_law_1408]
    try simp -implicitDefEqProofs only [iA_a, iA_r, h1, h2, h3, h4, h5, h6]
    obtain ⟨A2, L2, y, e3, q1, q2, hR2⟩ := e2 L1
    rw [hc_39, e3, cIx_i, hc_39, c_thrown, cIx_i, q2, if_pos rfl, if_neg hx]
    exact t_end (by omega) hR2
theorem t_1453 (h1 : ∀ κ, xL S (.retAddr 0) (x4 + 1) κ = κ b1) (h2 : ∀ κ, xL S (.retAddr 0) (x4 + 2) κ = κ b2) (h3 : ∀ κ, xL S (.retAddr 0) (x4 + 3) κ = κ b3) (h4 : ∀ κ, xL S (.retAddr 0) (x4 + 4) κ = κ b4) (h5 : ∀ κ, xL S (.retAddr 0) (x4 + 5) κ = κ b5) (h6 : ∀ κ, xL S (.retAddr 0) (x4 + 6) κ = κ b6) (hc : c < 1000000) (hR : Rel c k E A T) : TN c S (d + 40) x4 f (bd S (ex S (d + 40)) dflT E_L_law (f + 4) 1453 [some (.retAddr 0), some (.ref 0), some (.ref 39), some (.ref 48), some (.int x4), o5, o6] [] (Hh k E A L T)) := by
  rw [g_L_law_1453]
  try simp -implicitDefEqProofs only [iA_a, iA_r, h1, h2, h3, h4, h5, h6]
  obtain ⟨k', E', A1, L1, T', hq⟩ := (p_arrears (S := S) (d := d + 34) hR b1 : PK c S (d + 40) k E A T 275 276 [.int b1] _) L
  rcases hq with ⟨v, ok, e1, e2⟩ | ⟨e, q, e1, e2⟩
  · obtain ⟨y, rfl⟩ := okI_i rfl ok
    obtain ⟨A2, L2, e3, q1, q2, hR2⟩ := e2 L1
    rw [hc_0, e1, cIx_i]
    try simp -implicitDefEqProofs only [iA_a, iA_r, h1, h2, h3, h4, h5, h6]
    rw [hc_39, e3, cIx_i, if_pos rfl]
    exact t_end (by omega) hR2
  · exact absurd rfl q
theorem t_1478 (h1 : ∀ κ, xL S (.retAddr 0) (x4 + 1) κ = κ b1) (h2 : ∀ κ, xL S (.retAddr 0) (x4 + 2) κ = κ b2) (h3 : ∀ κ, xL S (.retAddr 0) (x4 + 3) κ = κ b3) (h4 : ∀ κ, xL S (.retAddr 0) (x4 + 4) κ = κ b4) (h5 : ∀ κ, xL S (.retAddr 0) (x4 + 5) κ = κ b5) (h6 : ∀ κ, xL S (.retAddr 0) (x4 + 6) κ = κ b6) (hc : c < 1000000) (hR : Rel c k E A T) : TN c S (d + 40) x4 f (bd S (ex S (d + 40)) dflT E_L_law (f + 4) 1478 [some (.retAddr 0), some (.ref 0), some (.ref 39), some (.ref 48), some (.int x4), o5, o6] [] (Hh k E A L T)) := by
  rw [g_L_law_1478]
  try simp -implicitDefEqProofs only [iA_a, iA_r, h1, h2, h3, h4, h5, h6]
  obtain ⟨k', E', A1, L1, T', hq⟩ := h_words (p_words (S := S) (d := d + 3) hR b1) L
  rcases hq with ⟨y, e1, e2⟩ | ⟨x, hx, e1, e2⟩
  · rw [e1, cIx_i, g_L_law_1489]
    try simp -implicitDefEqProofs only [iA_a, iA_r, h1, h2, h3, h4, h5, h6]
    obtain ⟨A2, L2, e3, q1, q2, hR2⟩ := e2 (upL L1 48 0 (Int32.toInt64 y))
    rw [hc_39, e3, cIx_i, hc_39, c_thrown, cIx_i, q2, if_pos rfl]
    first | rw [if_pos trivial] | rw [if_pos (show (0 : Int32) = 0 from rfl)]
    rw [a48, q1, upL_48, lg_cc, if_pos rfl]
    exact t_end (by omega) hR2
  · rw [e1, cIx_i, g_L_law_1489]
    try simp -implicitDefEqProofs only [iA_a, iA_r, h1, h2, h3, h4, h5, h6]
    obtain ⟨A2, L2, y, e3, q1, q2, hR2⟩ := e2 L1
    rw [hc_39, e3, cIx_i, hc_39, c_thrown, cIx_i, q2, if_pos rfl, if_neg hx]
    exact t_end (by omega) hR2
theorem t_1534 (h1 : ∀ κ, xL S (.retAddr 0) (x4 + 1) κ = κ b1) (h2 : ∀ κ, xL S (.retAddr 0) (x4 + 2) κ = κ b2) (h3 : ∀ κ, xL S (.retAddr 0) (x4 + 3) κ = κ b3) (h4 : ∀ κ, xL S (.retAddr 0) (x4 + 4) κ = κ b4) (h5 : ∀ κ, xL S (.retAddr 0) (x4 + 5) κ = κ b5) (h6 : ∀ κ, xL S (.retAddr 0) (x4 + 6) κ = κ b6) (hc : c < 1000000) (hR : Rel c k E A T) : TN c S (d + 40) x4 f (bd S (ex S (d + 40)) dflT E_L_law (f + 4) 1534 [some (.retAddr 0), some (.ref 0), some (.ref 39), some (.ref 48), some (.int x4), o5, o6] [] (Hh k E A L T)) := by
  rw [g_L_law_1534]
  try simp -implicitDefEqProofs only [iA_a, iA_r, h1, h2, h3, h4, h5, h6]
  obtain ⟨k', E', A1, L1, T', hq⟩ := (PI_K (p_fault (S := S) (d := d + 34) hR ) : PK c S (d + 40) k E A T 282 283 [] _) L
  rcases hq with ⟨v, ok, e1, e2⟩ | ⟨e, q, e1, e2⟩
  · obtain ⟨y, rfl⟩ := okI_i rfl ok
    obtain ⟨A2, L2, e3, q1, q2, hR2⟩ := e2 L1
    rw [hc_0, e1, cIx_i]
    try simp -implicitDefEqProofs only [iA_a, iA_r, h1, h2, h3, h4, h5, h6]
    rw [hc_39, e3, cIx_i, if_pos rfl]
    exact t_end (by omega) hR2
  · exact absurd rfl q
theorem t_1547 (h1 : ∀ κ, xL S (.retAddr 0) (x4 + 1) κ = κ b1) (h2 : ∀ κ, xL S (.retAddr 0) (x4 + 2) κ = κ b2) (h3 : ∀ κ, xL S (.retAddr 0) (x4 + 3) κ = κ b3) (h4 : ∀ κ, xL S (.retAddr 0) (x4 + 4) κ = κ b4) (h5 : ∀ κ, xL S (.retAddr 0) (x4 + 5) κ = κ b5) (h6 : ∀ κ, xL S (.retAddr 0) (x4 + 6) κ = κ b6) (hc : c < 1000000) (hR : Rel c k E A T) : TN c S (d + 40) x4 f (bd S (ex S (d + 40)) dflT E_L_law (f + 4) 1547 [some (.retAddr 0), some (.ref 0), some (.ref 39), some (.ref 48), some (.int x4), o5, o6] [] (Hh k E A L T)) := by
  rw [g_L_law_1547]
  try simp -implicitDefEqProofs only [iA_a, iA_r, h1, h2, h3, h4, h5, h6]
  obtain ⟨k', E', A1, L1, T', hq⟩ := h_may (p_may (S := S) (d := d + 31) hR b1 b2) L
  rcases hq with ⟨y, e1, e2⟩ | ⟨x, hx, e1, e2⟩
  · rw [e1, cIx_i, g_L_law_1564]
    try simp -implicitDefEqProofs only [iA_a, iA_r, h1, h2, h3, h4, h5, h6]
    obtain ⟨A2, L2, e3, q1, q2, hR2⟩ := e2 (upL L1 48 0 (Int32.toInt64 y))
    rw [hc_39, e3, cIx_i, hc_39, c_thrown, cIx_i, q2, if_pos rfl]
    first | rw [if_pos trivial] | rw [if_pos (show (0 : Int32) = 0 from rfl)]
    rw [a48, q1, upL_48, lg_cc, if_pos rfl]
    exact t_end (by omega) hR2
  · rw [e1, cIx_i, g_L_law_1564]
    try simp -implicitDefEqProofs only [iA_a, iA_r, h1, h2, h3, h4, h5, h6]
    obtain ⟨A2, L2, y, e3, q1, q2, hR2⟩ := e2 L1
    rw [hc_39, e3, cIx_i, hc_39, c_thrown, cIx_i, q2, if_pos rfl, if_neg hx]
    exact t_end (by omega) hR2
theorem t_1615 (h1 : ∀ κ, xL S (.retAddr 0) (x4 + 1) κ = κ b1) (h2 : ∀ κ, xL S (.retAddr 0) (x4 + 2) κ = κ b2) (h3 : ∀ κ, xL S (.retAddr 0) (x4 + 3) κ = κ b3) (h4 : ∀ κ, xL S (.retAddr 0) (x4 + 4) κ = κ b4) (h5 : ∀ κ, xL S (.retAddr 0) (x4 + 5) κ = κ b5) (h6 : ∀ κ, xL S (.retAddr 0) (x4 + 6) κ = κ b6) (hc : c < 1000000) (hR : Rel c k E A T) : TN c S (d + 40) x4 f (bd S (ex S (d + 40)) dflT E_L_law (f + 4) 1615 [some (.retAddr 0), some (.ref 0), some (.ref 39), some (.ref 48), some (.int x4), o5, o6] [] (Hh k E A L T)) := by
  rw [g_L_law_1615]
  try simp -implicitDefEqProofs only [iA_a, iA_r, h1, h2, h3, h4, h5, h6]
  obtain ⟨k', E', A1, L1, T', hq⟩ := h_why (p_why (S := S) (d := d + 32) hR b1 b2) L
  rcases hq with ⟨y, e1, e2⟩ | ⟨x, hx, e1, e2⟩
  · rw [e1, cIx_i, g_L_law_1632]
    try simp -implicitDefEqProofs only [iA_a, iA_r, h1, h2, h3, h4, h5, h6]
    obtain ⟨A2, L2, e3, q1, q2, hR2⟩ := e2 (upL L1 48 0 (Int32.toInt64 y))
    rw [hc_39, e3, cIx_i, hc_39, c_thrown, cIx_i, q2, if_pos rfl]
    first | rw [if_pos trivial] | rw [if_pos (show (0 : Int32) = 0 from rfl)]
    rw [a48, q1, upL_48, lg_cc, if_pos rfl]
    exact t_end (by omega) hR2
  · rw [e1, cIx_i, g_L_law_1632]
    try simp -implicitDefEqProofs only [iA_a, iA_r, h1, h2, h3, h4, h5, h6]
    obtain ⟨A2, L2, y, e3, q1, q2, hR2⟩ := e2 L1
    rw [hc_39, e3, cIx_i, hc_39, c_thrown, cIx_i, q2, if_pos rfl, if_neg hx]
    exact t_end (by omega) hR2
theorem t_1683 (h1 : ∀ κ, xL S (.retAddr 0) (x4 + 1) κ = κ b1) (h2 : ∀ κ, xL S (.retAddr 0) (x4 + 2) κ = κ b2) (h3 : ∀ κ, xL S (.retAddr 0) (x4 + 3) κ = κ b3) (h4 : ∀ κ, xL S (.retAddr 0) (x4 + 4) κ = κ b4) (h5 : ∀ κ, xL S (.retAddr 0) (x4 + 5) κ = κ b5) (h6 : ∀ κ, xL S (.retAddr 0) (x4 + 6) κ = κ b6) (hc : c < 1000000) (hR : Rel c k E A T) : TN c S (d + 40) x4 f (bd S (ex S (d + 40)) dflT E_L_law (f + 4) 1683 [some (.retAddr 0), some (.ref 0), some (.ref 39), some (.ref 48), some (.int x4), o5, o6] [] (Hh k E A L T)) := by
  rw [g_L_law_1683]
  try simp -implicitDefEqProofs only [iA_a, iA_r, h1, h2, h3, h4, h5, h6]
  by_cases hb : b2 = 0
  · rw [if_pos hb]
    obtain ⟨k', E', A1, L1, T', hq⟩ := h_cut (p_cut (S := S) (d := d + 30) hc hR b1 0) L
    rcases hq with ⟨y, e1, e2⟩ | ⟨x, hx, e1, e2⟩
    · rw [e1, cIx_i, g_L_law_1708]
      try simp -implicitDefEqProofs only [iA_a, iA_r, h1, h2, h3, h4, h5, h6]
      rw [if_pos hb]
      rw [g_L_law_1731]
      obtain ⟨A2, L2, e3, q1, q2, hR2⟩ := e2 (upL L1 48 0 (Int32.toInt64 y))
      rw [hc_39, e3, cIx_i, hc_39, c_thrown, cIx_i, q2, if_pos rfl]
      first | rw [if_pos trivial] | rw [if_pos (show (0 : Int32) = 0 from rfl)]
      rw [a48, q1, upL_48, lg_cc, if_pos rfl]
      exact t_end (by omega) hR2
    · rw [e1, cIx_i, g_L_law_1708]
      try simp -implicitDefEqProofs only [iA_a, iA_r, h1, h2, h3, h4, h5, h6]
      rw [if_pos hb]
      rw [g_L_law_1731]
      obtain ⟨A2, L2, y, e3, q1, q2, hR2⟩ := e2 L1
      rw [hc_39, e3, cIx_i, hc_39, c_thrown, cIx_i, q2, if_pos rfl, if_neg hx]
      exact t_end (by omega) hR2
  · rw [if_neg hb]
    obtain ⟨k', E', A1, L1, T', hq⟩ := h_cut (p_cut (S := S) (d := d + 30) hc hR b1 1) L
    rcases hq with ⟨y, e1, e2⟩ | ⟨x, hx, e1, e2⟩
    · rw [e1, cIx_i, g_L_law_1708]
      try simp -implicitDefEqProofs only [iA_a, iA_r, h1, h2, h3, h4, h5, h6]
      rw [if_neg hb]
      rw [g_L_law_1731]
      obtain ⟨A2, L2, e3, q1, q2, hR2⟩ := e2 (upL L1 48 0 (Int32.toInt64 y))
      rw [hc_39, e3, cIx_i, hc_39, c_thrown, cIx_i, q2, if_pos rfl]
      first | rw [if_pos trivial] | rw [if_pos (show (0 : Int32) = 0 from rfl)]
      rw [a48, q1, upL_48, lg_cc, if_pos rfl]
      exact t_end (by omega) hR2
    · rw [e1, cIx_i, g_L_law_1708]
      try simp -implicitDefEqProofs only [iA_a, iA_r, h1, h2, h3, h4, h5, h6]
      rw [if_neg hb]
      rw [g_L_law_1731]
      obtain ⟨A2, L2, y, e3, q1, q2, hR2⟩ := e2 L1
      rw [hc_39, e3, cIx_i, hc_39, c_thrown, cIx_i, q2, if_pos rfl, if_neg hx]
      exact t_end (by omega) hR2
theorem t_1767 (h1 : ∀ κ, xL S (.retAddr 0) (x4 + 1) κ = κ b1) (h2 : ∀ κ, xL S (.retAddr 0) (x4 + 2) κ = κ b2) (h3 : ∀ κ, xL S (.retAddr 0) (x4 + 3) κ = κ b3) (h4 : ∀ κ, xL S (.retAddr 0) (x4 + 4) κ = κ b4) (h5 : ∀ κ, xL S (.retAddr 0) (x4 + 5) κ = κ b5) (h6 : ∀ κ, xL S (.retAddr 0) (x4 + 6) κ = κ b6) (hc : c < 1000000) (hR : Rel c k E A T) : TN c S (d + 40) x4 f (bd S (ex S (d + 40)) dflT E_L_law (f + 4) 1767 [some (.retAddr 0), some (.ref 0), some (.ref 39), some (.ref 48), some (.int x4), o5, o6] [] (Hh k E A L T)) := by
  rw [g_L_law_1767]
  try simp -implicitDefEqProofs only [iA_a, iA_r, h1, h2, h3, h4, h5, h6]
  by_cases hb : b4 = 0
  · rw [if_pos hb]
    obtain ⟨k', E', A1, L1, T', hq⟩ := h_loan (p_loan (S := S) (d := d + 30) hc hR b1 b2 b3 0) L
    rcases hq with ⟨y, e1, e2⟩ | ⟨x, hx, e1, e2⟩
    · rw [e1, cIx_i, g_L_law_1804]
      try simp -implicitDefEqProofs only [iA_a, iA_r, h1, h2, h3, h4, h5, h6]
      rw [if_pos hb]
      rw [g_L_law_1839]
      obtain ⟨A2, L2, e3, q1, q2, hR2⟩ := e2 (upL L1 48 0 (Int32.toInt64 y))
      rw [hc_39, e3, cIx_i, hc_39, c_thrown, cIx_i, q2, if_pos rfl]
      first | rw [if_pos trivial] | rw [if_pos (show (0 : Int32) = 0 from rfl)]
      rw [a48, q1, upL_48, lg_cc, if_pos rfl]
      exact t_end (by omega) hR2
    · rw [e1, cIx_i, g_L_law_1804]
      try simp -implicitDefEqProofs only [iA_a, iA_r, h1, h2, h3, h4, h5, h6]
      rw [if_pos hb]
      rw [g_L_law_1839]
      obtain ⟨A2, L2, y, e3, q1, q2, hR2⟩ := e2 L1
      rw [hc_39, e3, cIx_i, hc_39, c_thrown, cIx_i, q2, if_pos rfl, if_neg hx]
      exact t_end (by omega) hR2
  · rw [if_neg hb]
    obtain ⟨k', E', A1, L1, T', hq⟩ := h_loan (p_loan (S := S) (d := d + 30) hc hR b1 b2 b3 1) L
    rcases hq with ⟨y, e1, e2⟩ | ⟨x, hx, e1, e2⟩
    · rw [e1, cIx_i, g_L_law_1804]
      try simp -implicitDefEqProofs only [iA_a, iA_r, h1, h2, h3, h4, h5, h6]
      rw [if_neg hb]
      rw [g_L_law_1839]
      obtain ⟨A2, L2, e3, q1, q2, hR2⟩ := e2 (upL L1 48 0 (Int32.toInt64 y))
      rw [hc_39, e3, cIx_i, hc_39, c_thrown, cIx_i, q2, if_pos rfl]
      first | rw [if_pos trivial] | rw [if_pos (show (0 : Int32) = 0 from rfl)]
      rw [a48, q1, upL_48, lg_cc, if_pos rfl]
      exact t_end (by omega) hR2
    · rw [e1, cIx_i, g_L_law_1804]
      try simp -implicitDefEqProofs only [iA_a, iA_r, h1, h2, h3, h4, h5, h6]
      rw [if_neg hb]
      rw [g_L_law_1839]
      obtain ⟨A2, L2, y, e3, q1, q2, hR2⟩ := e2 L1
      rw [hc_39, e3, cIx_i, hc_39, c_thrown, cIx_i, q2, if_pos rfl, if_neg hx]
      exact t_end (by omega) hR2
theorem t_1875 (h1 : ∀ κ, xL S (.retAddr 0) (x4 + 1) κ = κ b1) (h2 : ∀ κ, xL S (.retAddr 0) (x4 + 2) κ = κ b2) (h3 : ∀ κ, xL S (.retAddr 0) (x4 + 3) κ = κ b3) (h4 : ∀ κ, xL S (.retAddr 0) (x4 + 4) κ = κ b4) (h5 : ∀ κ, xL S (.retAddr 0) (x4 + 5) κ = κ b5) (h6 : ∀ κ, xL S (.retAddr 0) (x4 + 6) κ = κ b6) (hc : c < 1000000) (hR : Rel c k E A T) : TN c S (d + 40) x4 f (bd S (ex S (d + 40)) dflT E_L_law (f + 4) 1875 [some (.retAddr 0), some (.ref 0), some (.ref 39), some (.ref 48), some (.int x4), o5, o6] [] (Hh k E A L T)) := by
  rw [g_L_law_1875]
  try simp -implicitDefEqProofs only [iA_a, iA_r, h1, h2, h3, h4, h5, h6]
  obtain ⟨k', E', A1, L1, T', hq⟩ := h_owing (PI_K (p_owing (S := S) (d := d + 33) hR b1)) L
  rcases hq with ⟨y, e1, e2⟩ | ⟨x, hx, e1, e2⟩
  · rw [e1, cIx_i, g_L_law_1886]
    try simp -implicitDefEqProofs only [iA_a, iA_r, h1, h2, h3, h4, h5, h6]
    obtain ⟨A2, L2, e3, q1, q2, hR2⟩ := e2 (upL L1 48 0 (Int32.toInt64 y))
    rw [hc_39, e3, cIx_i, hc_39, c_thrown, cIx_i, q2, if_pos rfl]
    first | rw [if_pos trivial] | rw [if_pos (show (0 : Int32) = 0 from rfl)]
    rw [a48, q1, upL_48, lg_cc, if_pos rfl]
    exact t_end (by omega) hR2
  · rw [e1, cIx_i, g_L_law_1886]
    try simp -implicitDefEqProofs only [iA_a, iA_r, h1, h2, h3, h4, h5, h6]
    obtain ⟨A2, L2, y, e3, q1, q2, hR2⟩ := e2 L1
    rw [hc_39, e3, cIx_i, hc_39, c_thrown, cIx_i, q2, if_pos rfl, if_neg hx]
    exact t_end (by omega) hR2
theorem t_1931 (h1 : ∀ κ, xL S (.retAddr 0) (x4 + 1) κ = κ b1) (h2 : ∀ κ, xL S (.retAddr 0) (x4 + 2) κ = κ b2) (h3 : ∀ κ, xL S (.retAddr 0) (x4 + 3) κ = κ b3) (h4 : ∀ κ, xL S (.retAddr 0) (x4 + 4) κ = κ b4) (h5 : ∀ κ, xL S (.retAddr 0) (x4 + 5) κ = κ b5) (h6 : ∀ κ, xL S (.retAddr 0) (x4 + 6) κ = κ b6) (hc : c < 1000000) (hR : Rel c k E A T) : TN c S (d + 40) x4 f (bd S (ex S (d + 40)) dflT E_L_law (f + 4) 1931 [some (.retAddr 0), some (.ref 0), some (.ref 39), some (.ref 48), some (.int x4), o5, o6] [] (Hh k E A L T)) := by
  rw [g_L_law_1931]
  try simp -implicitDefEqProofs only [iA_a, iA_r, h1, h2, h3, h4, h5, h6]
  by_cases hb : b2 = 0
  · rw [if_pos hb]
    obtain ⟨k', E', A1, L1, T', hq⟩ := h_work (p_work (S := S) (d := d + 30) hR b1 0) L
    rcases hq with ⟨y, e1, e2⟩ | ⟨x, hx, e1, e2⟩
    · rw [e1, cIx_i, g_L_law_1956]
      try simp -implicitDefEqProofs only [iA_a, iA_r, h1, h2, h3, h4, h5, h6]
      rw [if_pos hb]
      rw [g_L_law_1979]
      obtain ⟨A2, L2, e3, q1, q2, hR2⟩ := e2 (upL L1 48 0 (bj y))
      rw [hc_39, e3, cIx_i, hc_39, c_thrown, cIx_i, q2, if_pos rfl]
      first | rw [if_pos trivial] | rw [if_pos (show (0 : Int32) = 0 from rfl)]
      rw [a48, q1, upL_48]
      by_cases hy : y = 0
      · rw [if_pos hy, show bj y = 0 from if_pos hy, lg_cc, if_pos rfl]; exact t_end (by omega) hR2
      · rw [if_neg hy, show bj y = 1 from if_neg hy, lg_cc, if_pos rfl]; exact t_end (by omega) hR2
    · rw [e1, cIx_i, g_L_law_1956]
      try simp -implicitDefEqProofs only [iA_a, iA_r, h1, h2, h3, h4, h5, h6]
      rw [if_pos hb]
      rw [g_L_law_1979]
      obtain ⟨A2, L2, y, e3, q1, q2, hR2⟩ := e2 L1
      rw [hc_39, e3, cIx_i, hc_39, c_thrown, cIx_i, q2, if_pos rfl, if_neg hx]
      exact t_end (by omega) hR2
  · rw [if_neg hb]
    obtain ⟨k', E', A1, L1, T', hq⟩ := h_work (p_work (S := S) (d := d + 30) hR b1 1) L
    rcases hq with ⟨y, e1, e2⟩ | ⟨x, hx, e1, e2⟩
    · rw [e1, cIx_i, g_L_law_1956]
      try simp -implicitDefEqProofs only [iA_a, iA_r, h1, h2, h3, h4, h5, h6]
      rw [if_neg hb]
      rw [g_L_law_1979]
      obtain ⟨A2, L2, e3, q1, q2, hR2⟩ := e2 (upL L1 48 0 (bj y))
      rw [hc_39, e3, cIx_i, hc_39, c_thrown, cIx_i, q2, if_pos rfl]
      first | rw [if_pos trivial] | rw [if_pos (show (0 : Int32) = 0 from rfl)]
      rw [a48, q1, upL_48]
      by_cases hy : y = 0
      · rw [if_pos hy, show bj y = 0 from if_pos hy, lg_cc, if_pos rfl]; exact t_end (by omega) hR2
      · rw [if_neg hy, show bj y = 1 from if_neg hy, lg_cc, if_pos rfl]; exact t_end (by omega) hR2
    · rw [e1, cIx_i, g_L_law_1956]
      try simp -implicitDefEqProofs only [iA_a, iA_r, h1, h2, h3, h4, h5, h6]
      rw [if_neg hb]
      rw [g_L_law_1979]
      obtain ⟨A2, L2, y, e3, q1, q2, hR2⟩ := e2 L1
      rw [hc_39, e3, cIx_i, hc_39, c_thrown, cIx_i, q2, if_pos rfl, if_neg hx]
      exact t_end (by omega) hR2
theorem t_2022 (h1 : ∀ κ, xL S (.retAddr 0) (x4 + 1) κ = κ b1) (h2 : ∀ κ, xL S (.retAddr 0) (x4 + 2) κ = κ b2) (h3 : ∀ κ, xL S (.retAddr 0) (x4 + 3) κ = κ b3) (h4 : ∀ κ, xL S (.retAddr 0) (x4 + 4) κ = κ b4) (h5 : ∀ κ, xL S (.retAddr 0) (x4 + 5) κ = κ b5) (h6 : ∀ κ, xL S (.retAddr 0) (x4 + 6) κ = κ b6) (hc : c < 1000000) (hR : Rel c k E A T) : TN c S (d + 40) x4 f (bd S (ex S (d + 40)) dflT E_L_law (f + 4) 2022 [some (.retAddr 0), some (.ref 0), some (.ref 39), some (.ref 48), some (.int x4), o5, o6] [] (Hh k E A L T)) := by
  rw [g_L_law_2022]
  try simp -implicitDefEqProofs only [iA_a, iA_r, h1, h2, h3, h4, h5, h6]
  by_cases hb : b2 = 0
  · rw [if_pos hb]
    obtain ⟨k', E', A1, L1, T', hq⟩ := h_sell (p_sell (S := S) (d := d + 30) hc hR b1 0) L
    rcases hq with ⟨y, e1, e2⟩ | ⟨x, hx, e1, e2⟩
    · rw [e1, cIx_i, g_L_law_2047]
      try simp -implicitDefEqProofs only [iA_a, iA_r, h1, h2, h3, h4, h5, h6]
      rw [if_pos hb]
      rw [g_L_law_2070]
      obtain ⟨A2, L2, e3, q1, q2, hR2⟩ := e2 (upL L1 48 0 (Int32.toInt64 y))
      rw [hc_39, e3, cIx_i, hc_39, c_thrown, cIx_i, q2, if_pos rfl]
      first | rw [if_pos trivial] | rw [if_pos (show (0 : Int32) = 0 from rfl)]
      rw [a48, q1, upL_48, lg_cc, if_pos rfl]
      exact t_end (by omega) hR2
    · rw [e1, cIx_i, g_L_law_2047]
      try simp -implicitDefEqProofs only [iA_a, iA_r, h1, h2, h3, h4, h5, h6]
      rw [if_pos hb]
      rw [g_L_law_2070]
      obtain ⟨A2, L2, y, e3, q1, q2, hR2⟩ := e2 L1
      rw [hc_39, e3, cIx_i, hc_39, c_thrown, cIx_i, q2, if_pos rfl, if_neg hx]
      exact t_end (by omega) hR2
  · rw [if_neg hb]
    obtain ⟨k', E', A1, L1, T', hq⟩ := h_sell (p_sell (S := S) (d := d + 30) hc hR b1 1) L
    rcases hq with ⟨y, e1, e2⟩ | ⟨x, hx, e1, e2⟩
    · rw [e1, cIx_i, g_L_law_2047]
      try simp -implicitDefEqProofs only [iA_a, iA_r, h1, h2, h3, h4, h5, h6]
      rw [if_neg hb]
      rw [g_L_law_2070]
      obtain ⟨A2, L2, e3, q1, q2, hR2⟩ := e2 (upL L1 48 0 (Int32.toInt64 y))
      rw [hc_39, e3, cIx_i, hc_39, c_thrown, cIx_i, q2, if_pos rfl]
      first | rw [if_pos trivial] | rw [if_pos (show (0 : Int32) = 0 from rfl)]
      rw [a48, q1, upL_48, lg_cc, if_pos rfl]
      exact t_end (by omega) hR2
    · rw [e1, cIx_i, g_L_law_2047]
      try simp -implicitDefEqProofs only [iA_a, iA_r, h1, h2, h3, h4, h5, h6]
      rw [if_neg hb]
      rw [g_L_law_2070]
      obtain ⟨A2, L2, y, e3, q1, q2, hR2⟩ := e2 L1
      rw [hc_39, e3, cIx_i, hc_39, c_thrown, cIx_i, q2, if_pos rfl, if_neg hx]
      exact t_end (by omega) hR2
theorem t_2106 (h1 : ∀ κ, xL S (.retAddr 0) (x4 + 1) κ = κ b1) (h2 : ∀ κ, xL S (.retAddr 0) (x4 + 2) κ = κ b2) (h3 : ∀ κ, xL S (.retAddr 0) (x4 + 3) κ = κ b3) (h4 : ∀ κ, xL S (.retAddr 0) (x4 + 4) κ = κ b4) (h5 : ∀ κ, xL S (.retAddr 0) (x4 + 5) κ = κ b5) (h6 : ∀ κ, xL S (.retAddr 0) (x4 + 6) κ = κ b6) (hc : c < 1000000) (hR : Rel c k E A T) : TN c S (d + 40) x4 f (bd S (ex S (d + 40)) dflT E_L_law (f + 4) 2106 [some (.retAddr 0), some (.ref 0), some (.ref 39), some (.ref 48), some (.int x4), o5, o6] [] (Hh k E A L T)) := by
  rw [g_L_law_2106]
  try simp -implicitDefEqProofs only [iA_a, iA_r, h1, h2, h3, h4, h5, h6]
  obtain ⟨k', E', A1, L1, T', hq⟩ := (PI_K (p_heir (S := S) (d := d + 34) hR ) : PK c S (d + 40) k E A T 318 319 [] _) L
  rcases hq with ⟨v, ok, e1, e2⟩ | ⟨e, q, e1, e2⟩
  · obtain ⟨y, rfl⟩ := okI_i rfl ok
    obtain ⟨A2, L2, e3, q1, q2, hR2⟩ := e2 L1
    rw [hc_0, e1, cIx_i]
    try simp -implicitDefEqProofs only [iA_a, iA_r, h1, h2, h3, h4, h5, h6]
    rw [hc_39, e3, cIx_i, if_pos rfl]
    exact t_end (by omega) hR2
  · exact absurd rfl q
theorem t_2119 (h1 : ∀ κ, xL S (.retAddr 0) (x4 + 1) κ = κ b1) (h2 : ∀ κ, xL S (.retAddr 0) (x4 + 2) κ = κ b2) (h3 : ∀ κ, xL S (.retAddr 0) (x4 + 3) κ = κ b3) (h4 : ∀ κ, xL S (.retAddr 0) (x4 + 4) κ = κ b4) (h5 : ∀ κ, xL S (.retAddr 0) (x4 + 5) κ = κ b5) (h6 : ∀ κ, xL S (.retAddr 0) (x4 + 6) κ = κ b6) (hc : c < 1000000) (hR : Rel c k E A T) : TN c S (d + 40) x4 f (bd S (ex S (d + 40)) dflT E_L_law (f + 4) 2119 [some (.retAddr 0), some (.ref 0), some (.ref 39), some (.ref 48), some (.int x4), o5, o6] [] (Hh k E A L T)) := by
  rw [g_L_law_2119]
  try simp -implicitDefEqProofs only [iA_a, iA_r, h1, h2, h3, h4, h5, h6]
  obtain ⟨k', E', A1, L1, T', hq⟩ := h_wrong (PI_K (p_wrong (S := S) (d := d + 33) (Nat.le_of_lt hc) hR b1 b2)) L
  rcases hq with ⟨y, e1, e2⟩ | ⟨x, hx, e1, e2⟩
  · rw [e1, cIx_i, g_L_law_2136]
    try simp -implicitDefEqProofs only [iA_a, iA_r, h1, h2, h3, h4, h5, h6]
    obtain ⟨A2, L2, e3, q1, q2, hR2⟩ := e2 (upL L1 48 0 (Int32.toInt64 y))
    rw [hc_39, e3, cIx_i, hc_39, c_thrown, cIx_i, q2, if_pos rfl]
    first | rw [if_pos trivial] | rw [if_pos (show (0 : Int32) = 0 from rfl)]
    rw [a48, q1, upL_48, lg_cc, if_pos rfl]
    exact t_end (by omega) hR2
  · rw [e1, cIx_i, g_L_law_2136]
    try simp -implicitDefEqProofs only [iA_a, iA_r, h1, h2, h3, h4, h5, h6]
    obtain ⟨A2, L2, y, e3, q1, q2, hR2⟩ := e2 L1
    rw [hc_39, e3, cIx_i, hc_39, c_thrown, cIx_i, q2, if_pos rfl, if_neg hx]
    exact t_end (by omega) hR2
theorem t_2187 (h1 : ∀ κ, xL S (.retAddr 0) (x4 + 1) κ = κ b1) (h2 : ∀ κ, xL S (.retAddr 0) (x4 + 2) κ = κ b2) (h3 : ∀ κ, xL S (.retAddr 0) (x4 + 3) κ = κ b3) (h4 : ∀ κ, xL S (.retAddr 0) (x4 + 4) κ = κ b4) (h5 : ∀ κ, xL S (.retAddr 0) (x4 + 5) κ = κ b5) (h6 : ∀ κ, xL S (.retAddr 0) (x4 + 6) κ = κ b6) (hc : c < 1000000) (hR : Rel c k E A T) : TN c S (d + 40) x4 f (bd S (ex S (d + 40)) dflT E_L_law (f + 4) 2187 [some (.retAddr 0), some (.ref 0), some (.ref 39), some (.ref 48), some (.int x4), o5, o6] [] (Hh k E A L T)) := by
  rw [g_L_law_2187]
  try simp -implicitDefEqProofs only [iA_a, iA_r, h1, h2, h3, h4, h5, h6]
  obtain ⟨k', E', A1, L1, T', hq⟩ := h_job (PI_K (p_job (S := S) (d := d + 34) hR b1 b2 b3)) L
  rcases hq with ⟨y, e1, e2⟩ | ⟨x, hx, e1, e2⟩
  · rw [e1, cIx_i, g_L_law_2210]
    try simp -implicitDefEqProofs only [iA_a, iA_r, h1, h2, h3, h4, h5, h6]
    obtain ⟨A2, L2, e3, q1, q2, hR2⟩ := e2 (upL L1 48 0 (Int32.toInt64 y))
    rw [hc_39, e3, cIx_i, hc_39, c_thrown, cIx_i, q2, if_pos rfl]
    first | rw [if_pos trivial] | rw [if_pos (show (0 : Int32) = 0 from rfl)]
    rw [a48, q1, upL_48, lg_cc, if_pos rfl]
    exact t_end (by omega) hR2
  · rw [e1, cIx_i, g_L_law_2210]
    try simp -implicitDefEqProofs only [iA_a, iA_r, h1, h2, h3, h4, h5, h6]
    obtain ⟨A2, L2, y, e3, q1, q2, hR2⟩ := e2 L1
    rw [hc_39, e3, cIx_i, hc_39, c_thrown, cIx_i, q2, if_pos rfl, if_neg hx]
    exact t_end (by omega) hR2
theorem t_2267 (h1 : ∀ κ, xL S (.retAddr 0) (x4 + 1) κ = κ b1) (h2 : ∀ κ, xL S (.retAddr 0) (x4 + 2) κ = κ b2) (h3 : ∀ κ, xL S (.retAddr 0) (x4 + 3) κ = κ b3) (h4 : ∀ κ, xL S (.retAddr 0) (x4 + 4) κ = κ b4) (h5 : ∀ κ, xL S (.retAddr 0) (x4 + 5) κ = κ b5) (h6 : ∀ κ, xL S (.retAddr 0) (x4 + 6) κ = κ b6) (hc : c < 1000000) (hR : Rel c k E A T) : TN c S (d + 40) x4 f (bd S (ex S (d + 40)) dflT E_L_law (f + 4) 2267 [some (.retAddr 0), some (.ref 0), some (.ref 39), some (.ref 48), some (.int x4), o5, o6] [] (Hh k E A L T)) := by
  rw [g_L_law_2267]
  try simp -implicitDefEqProofs only [iA_a, iA_r, h1, h2, h3, h4, h5, h6]
  obtain ⟨k', E', A1, L1, T', hq⟩ := h_trouble (PI_K (p_trouble (S := S) (d := d + 34) hR b1 b2)) L
  rcases hq with ⟨y, e1, e2⟩ | ⟨x, hx, e1, e2⟩
  · rw [e1, cIx_i, g_L_law_2284]
    try simp -implicitDefEqProofs only [iA_a, iA_r, h1, h2, h3, h4, h5, h6]
    obtain ⟨A2, L2, e3, q1, q2, hR2⟩ := e2 (upL L1 48 0 (Int32.toInt64 y))
    rw [hc_39, e3, cIx_i, hc_39, c_thrown, cIx_i, q2, if_pos rfl]
    first | rw [if_pos trivial] | rw [if_pos (show (0 : Int32) = 0 from rfl)]
    rw [a48, q1, upL_48, lg_cc, if_pos rfl]
    exact t_end (by omega) hR2
  · rw [e1, cIx_i, g_L_law_2284]
    try simp -implicitDefEqProofs only [iA_a, iA_r, h1, h2, h3, h4, h5, h6]
    obtain ⟨A2, L2, y, e3, q1, q2, hR2⟩ := e2 L1
    rw [hc_39, e3, cIx_i, hc_39, c_thrown, cIx_i, q2, if_pos rfl, if_neg hx]
    exact t_end (by omega) hR2
theorem t_2335 (h1 : ∀ κ, xL S (.retAddr 0) (x4 + 1) κ = κ b1) (h2 : ∀ κ, xL S (.retAddr 0) (x4 + 2) κ = κ b2) (h3 : ∀ κ, xL S (.retAddr 0) (x4 + 3) κ = κ b3) (h4 : ∀ κ, xL S (.retAddr 0) (x4 + 4) κ = κ b4) (h5 : ∀ κ, xL S (.retAddr 0) (x4 + 5) κ = κ b5) (h6 : ∀ κ, xL S (.retAddr 0) (x4 + 6) κ = κ b6) (hc : c < 1000000) (hR : Rel c k E A T) : TN c S (d + 40) x4 f (bd S (ex S (d + 40)) dflT E_L_law (f + 4) 2335 [some (.retAddr 0), some (.ref 0), some (.ref 39), some (.ref 48), some (.int x4), o5, o6] [] (Hh k E A L T)) := by
  rw [g_L_law_2335]
  try simp -implicitDefEqProofs only [iA_a, iA_r, h1, h2, h3, h4, h5, h6]
  obtain ⟨k', E', A1, L1, T', hq⟩ := h_worth (PI_K (p_worth (S := S) (d := d + 33) hR b1 b2 b3)) L
  rcases hq with ⟨y, e1, e2⟩ | ⟨x, hx, e1, e2⟩
  · rw [e1, cIx_i, g_L_law_2358]
    try simp -implicitDefEqProofs only [iA_a, iA_r, h1, h2, h3, h4, h5, h6]
    obtain ⟨A2, L2, e3, q1, q2, hR2⟩ := e2 (upL L1 48 0 (Int32.toInt64 y))
    rw [hc_39, e3, cIx_i, g_L_law_2384, hc_39, c_thrown, cIx_i, q2, if_pos rfl]
    first | rw [if_pos trivial] | rw [if_pos (show (0 : Int32) = 0 from rfl)]
    rw [a48, q1, upL_48, lg_cc, if_pos rfl]
    exact t_end (by omega) hR2
  · rw [e1, cIx_i, g_L_law_2358]
    try simp -implicitDefEqProofs only [iA_a, iA_r, h1, h2, h3, h4, h5, h6]
    obtain ⟨A2, L2, y, e3, q1, q2, hR2⟩ := e2 L1
    rw [hc_39, e3, cIx_i, g_L_law_2384, hc_39, c_thrown, cIx_i, q2, if_pos rfl, if_neg hx]
    exact t_end (by omega) hR2
theorem t_2415 (h1 : ∀ κ, xL S (.retAddr 0) (x4 + 1) κ = κ b1) (h2 : ∀ κ, xL S (.retAddr 0) (x4 + 2) κ = κ b2) (h3 : ∀ κ, xL S (.retAddr 0) (x4 + 3) κ = κ b3) (h4 : ∀ κ, xL S (.retAddr 0) (x4 + 4) κ = κ b4) (h5 : ∀ κ, xL S (.retAddr 0) (x4 + 5) κ = κ b5) (h6 : ∀ κ, xL S (.retAddr 0) (x4 + 6) κ = κ b6) (hc : c < 1000000) (hR : Rel c k E A T) : TN c S (d + 40) x4 f (bd S (ex S (d + 40)) dflT E_L_law (f + 4) 2415 [some (.retAddr 0), some (.ref 0), some (.ref 39), some (.ref 48), some (.int x4), o5, o6] [] (Hh k E A L T)) := by
  rw [g_L_law_2415]
  try simp -implicitDefEqProofs only [iA_a, iA_r, h1, h2, h3, h4, h5, h6]
  obtain ⟨k', E', A1, L1, T', hq⟩ := h_best (PI_K (p_best (S := S) (d := d + 32) hR b1 b2)) L
  rcases hq with ⟨y, e1, e2⟩ | ⟨x, hx, e1, e2⟩
  · rw [e1, cIx_i, g_L_law_2432]
    try simp -implicitDefEqProofs only [iA_a, iA_r, h1, h2, h3, h4, h5, h6]
    obtain ⟨A2, L2, e3, q1, q2, hR2⟩ := e2 (upL L1 48 0 (Int32.toInt64 y))
    rw [hc_39, e3, cIx_i, hc_39, c_thrown, cIx_i, q2, if_pos rfl]
    first | rw [if_pos trivial] | rw [if_pos (show (0 : Int32) = 0 from rfl)]
    rw [a48, q1, upL_48, lg_cc, if_pos rfl]
    exact t_end (by omega) hR2
  · rw [e1, cIx_i, g_L_law_2432]
    try simp -implicitDefEqProofs only [iA_a, iA_r, h1, h2, h3, h4, h5, h6]
    obtain ⟨A2, L2, y, e3, q1, q2, hR2⟩ := e2 L1
    rw [hc_39, e3, cIx_i, hc_39, c_thrown, cIx_i, q2, if_pos rfl, if_neg hx]
    exact t_end (by omega) hR2
theorem t_2483 (h1 : ∀ κ, xL S (.retAddr 0) (x4 + 1) κ = κ b1) (h2 : ∀ κ, xL S (.retAddr 0) (x4 + 2) κ = κ b2) (h3 : ∀ κ, xL S (.retAddr 0) (x4 + 3) κ = κ b3) (h4 : ∀ κ, xL S (.retAddr 0) (x4 + 4) κ = κ b4) (h5 : ∀ κ, xL S (.retAddr 0) (x4 + 5) κ = κ b5) (h6 : ∀ κ, xL S (.retAddr 0) (x4 + 6) κ = κ b6) (hc : c < 1000000) (hR : Rel c k E A T) : TN c S (d + 40) x4 f (bd S (ex S (d + 40)) dflT E_L_law (f + 4) 2483 [some (.retAddr 0), some (.ref 0), some (.ref 39), some (.ref 48), some (.int x4), o5, o6] [] (Hh k E A L T)) := by
  rw [g_L_law_2483]
  try simp -implicitDefEqProofs only [iA_a, iA_r, h1, h2, h3, h4, h5, h6]
  obtain ⟨k', E', A1, L1, T', hq⟩ := h_toSell (p_toSell (S := S) (d := d + 31) hR b1 b2 b3) L
  rcases hq with ⟨y, e1, e2⟩ | ⟨x, hx, e1, e2⟩
  · rw [e1, cIx_i, g_L_law_2506]
    try simp -implicitDefEqProofs only [iA_a, iA_r, h1, h2, h3, h4, h5, h6]
    obtain ⟨A2, L2, e3, q1, q2, hR2⟩ := e2 (upL L1 48 0 (Int32.toInt64 y))
    rw [hc_39, e3, cIx_i, g_L_law_2532, hc_39, c_thrown, cIx_i, q2, if_pos rfl]
    first | rw [if_pos trivial] | rw [if_pos (show (0 : Int32) = 0 from rfl)]
    rw [a48, q1, upL_48, lg_cc, if_pos rfl]
    exact t_end (by omega) hR2
  · rw [e1, cIx_i, g_L_law_2506]
    try simp -implicitDefEqProofs only [iA_a, iA_r, h1, h2, h3, h4, h5, h6]
    obtain ⟨A2, L2, y, e3, q1, q2, hR2⟩ := e2 L1
    rw [hc_39, e3, cIx_i, g_L_law_2532, hc_39, c_thrown, cIx_i, q2, if_pos rfl, if_neg hx]
    exact t_end (by omega) hR2
theorem t_2563 (h1 : ∀ κ, xL S (.retAddr 0) (x4 + 1) κ = κ b1) (h2 : ∀ κ, xL S (.retAddr 0) (x4 + 2) κ = κ b2) (h3 : ∀ κ, xL S (.retAddr 0) (x4 + 3) κ = κ b3) (h4 : ∀ κ, xL S (.retAddr 0) (x4 + 4) κ = κ b4) (h5 : ∀ κ, xL S (.retAddr 0) (x4 + 5) κ = κ b5) (h6 : ∀ κ, xL S (.retAddr 0) (x4 + 6) κ = κ b6) (hc : c < 1000000) (hR : Rel c k E A T) : TN c S (d + 40) x4 f (bd S (ex S (d + 40)) dflT E_L_law (f + 4) 2563 [some (.retAddr 0), some (.ref 0), some (.ref 39), some (.ref 48), some (.int x4), o5, o6] [] (Hh k E A L T)) := by
  rw [g_L_law_2563]
  try simp -implicitDefEqProofs only [iA_a, iA_r, h1, h2, h3, h4, h5, h6]
  obtain ⟨k', E', A1, L1, T', hq⟩ := h_row (PI_K (p_row (S := S) (d := d + 34) hR b1 b2)) L
  rcases hq with ⟨y, e1, e2⟩ | ⟨x, hx, e1, e2⟩
  · rw [e1, cIx_i, g_L_law_2580]
    try simp -implicitDefEqProofs only [iA_a, iA_r, h1, h2, h3, h4, h5, h6]
    obtain ⟨A2, L2, e3, q1, q2, hR2⟩ := e2 (upL L1 48 0 (Int32.toInt64 y))
    rw [hc_39, e3, cIx_i, hc_39, c_thrown, cIx_i, q2, if_pos rfl]
    first | rw [if_pos trivial] | rw [if_pos (show (0 : Int32) = 0 from rfl)]
    rw [a48, q1, upL_48, lg_cc, if_pos rfl]
    exact t_end (by omega) hR2
  · rw [e1, cIx_i, g_L_law_2580]
    try simp -implicitDefEqProofs only [iA_a, iA_r, h1, h2, h3, h4, h5, h6]
    obtain ⟨A2, L2, y, e3, q1, q2, hR2⟩ := e2 L1
    rw [hc_39, e3, cIx_i, hc_39, c_thrown, cIx_i, q2, if_pos rfl, if_neg hx]
    exact t_end (by omega) hR2
theorem t_2631 (h1 : ∀ κ, xL S (.retAddr 0) (x4 + 1) κ = κ b1) (h2 : ∀ κ, xL S (.retAddr 0) (x4 + 2) κ = κ b2) (h3 : ∀ κ, xL S (.retAddr 0) (x4 + 3) κ = κ b3) (h4 : ∀ κ, xL S (.retAddr 0) (x4 + 4) κ = κ b4) (h5 : ∀ κ, xL S (.retAddr 0) (x4 + 5) κ = κ b5) (h6 : ∀ κ, xL S (.retAddr 0) (x4 + 6) κ = κ b6) (hc : c < 1000000) (hR : Rel c k E A T) : TN c S (d + 40) x4 f (bd S (ex S (d + 40)) dflT E_L_law (f + 4) 2631 [some (.retAddr 0), some (.ref 0), some (.ref 39), some (.ref 48), some (.int x4), o5, o6] [] (Hh k E A L T)) := by
  rw [g_L_law_2631]
  try simp -implicitDefEqProofs only [iA_a, iA_r, h1, h2, h3, h4, h5, h6]
  obtain ⟨k', E', A1, L1, T', hq⟩ := h_tear (PI_K (p_tear (S := S) (d := d + 34) hR b1 b2 b3)) L
  rcases hq with ⟨y, e1, e2⟩ | ⟨x, hx, e1, e2⟩
  · rw [e1, cIx_i, g_L_law_2654]
    try simp -implicitDefEqProofs only [iA_a, iA_r, h1, h2, h3, h4, h5, h6]
    obtain ⟨A2, L2, e3, q1, q2, hR2⟩ := e2 (upL L1 48 0 (Int32.toInt64 y))
    rw [hc_39, e3, cIx_i, g_L_law_2680, hc_39, c_thrown, cIx_i, q2, if_pos rfl]
    first | rw [if_pos trivial] | rw [if_pos (show (0 : Int32) = 0 from rfl)]
    rw [a48, q1, upL_48, lg_cc, if_pos rfl]
    exact t_end (by omega) hR2
  · rw [e1, cIx_i, g_L_law_2654]
    try simp -implicitDefEqProofs only [iA_a, iA_r, h1, h2, h3, h4, h5, h6]
    obtain ⟨A2, L2, y, e3, q1, q2, hR2⟩ := e2 L1
    rw [hc_39, e3, cIx_i, g_L_law_2680, hc_39, c_thrown, cIx_i, q2, if_pos rfl, if_neg hx]
    exact t_end (by omega) hR2
theorem t_2711 (h1 : ∀ κ, xL S (.retAddr 0) (x4 + 1) κ = κ b1) (h2 : ∀ κ, xL S (.retAddr 0) (x4 + 2) κ = κ b2) (h3 : ∀ κ, xL S (.retAddr 0) (x4 + 3) κ = κ b3) (h4 : ∀ κ, xL S (.retAddr 0) (x4 + 4) κ = κ b4) (h5 : ∀ κ, xL S (.retAddr 0) (x4 + 5) κ = κ b5) (h6 : ∀ κ, xL S (.retAddr 0) (x4 + 6) κ = κ b6) (hc : c < 1000000) (hR : Rel c k E A T) : TN c S (d + 40) x4 f (bd S (ex S (d + 40)) dflT E_L_law (f + 4) 2711 [some (.retAddr 0), some (.ref 0), some (.ref 39), some (.ref 48), some (.int x4), o5, o6] [] (Hh k E A L T)) := by
  rw [g_L_law_2711]
  try simp -implicitDefEqProofs only [iA_a, iA_r, h1, h2, h3, h4, h5, h6]
  obtain ⟨k', E', A1, L1, T', hq⟩ := (PI_K (p_check (S := S) (d := d + 35) hR ) : PK c S (d + 40) k E A T 363 364 [] _) L
  rcases hq with ⟨v, ok, e1, e2⟩ | ⟨e, q, e1, e2⟩
  · obtain ⟨y, rfl⟩ := okI_i rfl ok
    obtain ⟨A2, L2, e3, q1, q2, hR2⟩ := e2 L1
    rw [hc_0, e1, cIx_i]
    try simp -implicitDefEqProofs only [iA_a, iA_r, h1, h2, h3, h4, h5, h6]
    rw [hc_39, e3, cIx_i, if_pos rfl]
    exact t_end (by omega) hR2
  · exact absurd rfl q
theorem t_2724 (h1 : ∀ κ, xL S (.retAddr 0) (x4 + 1) κ = κ b1) (h2 : ∀ κ, xL S (.retAddr 0) (x4 + 2) κ = κ b2) (h3 : ∀ κ, xL S (.retAddr 0) (x4 + 3) κ = κ b3) (h4 : ∀ κ, xL S (.retAddr 0) (x4 + 4) κ = κ b4) (h5 : ∀ κ, xL S (.retAddr 0) (x4 + 5) κ = κ b5) (h6 : ∀ κ, xL S (.retAddr 0) (x4 + 6) κ = κ b6) (hc : c < 1000000) (hR : Rel c k E A T) : TN c S (d + 40) x4 f (bd S (ex S (d + 40)) dflT E_L_law (f + 4) 2724 [some (.retAddr 0), some (.ref 0), some (.ref 39), some (.ref 48), some (.int x4), o5, o6] [] (Hh k E A L T)) := by
  rw [g_L_law_2724]
  try simp -implicitDefEqProofs only [iA_a, iA_r, h1, h2, h3, h4, h5, h6]
  obtain ⟨k', E', A1, L1, T', hq⟩ := (p_image (S := S) (d := d + 36) hR  : PK c S (d + 40) k E A T 373 374 [] _) L
  rcases hq with ⟨v, ok, e1, e2⟩ | ⟨e, q, e1, e2⟩
  · obtain rfl := okI_n rfl ok
    obtain ⟨A2, L2, e3, q1, q2, hR2⟩ := e2 L1
    rw [hc_0, e1, cUx_i, hc_39, e3, cUx_i]
    exact t_end (by omega) hR2
  · exact absurd rfl q
theorem t_2735 (h1 : ∀ κ, xL S (.retAddr 0) (x4 + 1) κ = κ b1) (h2 : ∀ κ, xL S (.retAddr 0) (x4 + 2) κ = κ b2) (h3 : ∀ κ, xL S (.retAddr 0) (x4 + 3) κ = κ b3) (h4 : ∀ κ, xL S (.retAddr 0) (x4 + 4) κ = κ b4) (h5 : ∀ κ, xL S (.retAddr 0) (x4 + 5) κ = κ b5) (h6 : ∀ κ, xL S (.retAddr 0) (x4 + 6) κ = κ b6) (hc : c < 1000000) (hR : Rel c k E A T) : TN c S (d + 40) x4 f (bd S (ex S (d + 40)) dflT E_L_law (f + 4) 2735 [some (.retAddr 0), some (.ref 0), some (.ref 39), some (.ref 48), some (.int x4), o5, o6] [] (Hh k E A L T)) := by
  rw [g_L_law_2735]
  try simp -implicitDefEqProofs only [iA_a, iA_r, h1, h2, h3, h4, h5, h6]
  obtain ⟨k', E', A1, L1, T', hq⟩ := (p_back (S := S) (d := d + 36) hR  : PK c S (d + 40) k E A T 375 376 [] _) L
  rcases hq with ⟨v, ok, e1, e2⟩ | ⟨e, q, e1, e2⟩
  · obtain ⟨y, rfl⟩ := okI_i rfl ok
    obtain ⟨A2, L2, e3, q1, q2, hR2⟩ := e2 L1
    rw [hc_0, e1, cIx_i]
    try simp -implicitDefEqProofs only [iA_a, iA_r, h1, h2, h3, h4, h5, h6]
    rw [hc_39, e3, cIx_i, if_pos rfl]
    exact t_end (by omega) hR2
  · exact absurd rfl q
theorem t_2748 (h1 : ∀ κ, xL S (.retAddr 0) (x4 + 1) κ = κ b1) (h2 : ∀ κ, xL S (.retAddr 0) (x4 + 2) κ = κ b2) (h3 : ∀ κ, xL S (.retAddr 0) (x4 + 3) κ = κ b3) (h4 : ∀ κ, xL S (.retAddr 0) (x4 + 4) κ = κ b4) (h5 : ∀ κ, xL S (.retAddr 0) (x4 + 5) κ = κ b5) (h6 : ∀ κ, xL S (.retAddr 0) (x4 + 6) κ = κ b6) (hc : c < 1000000) (hR : Rel c k E A T) : TN c S (d + 40) x4 f (bd S (ex S (d + 40)) dflT E_L_law (f + 4) 2748 [some (.retAddr 0), some (.ref 0), some (.ref 39), some (.ref 48), some (.int x4), o5, o6] [] (Hh k E A L T)) := by
  rw [g_L_law_2748]
  try simp -implicitDefEqProofs only [iA_a, iA_r, h1, h2, h3, h4, h5, h6]
  obtain ⟨k', E', A1, L1, T', hq⟩ := (p_count (S := S) (d := d + 34) hR b1 : PK c S (d + 40) k E A T 383 386 [.int b1] _) L
  rcases hq with ⟨v, ok, e1, e2⟩ | ⟨e, q, e1, e2⟩
  · obtain ⟨y, rfl⟩ := okI_i rfl ok
    obtain ⟨A2, L2, e3, q1, q2, hR2⟩ := e2 L1
    rw [hc_0, e1, cIx_i]
    try simp -implicitDefEqProofs only [iA_a, iA_r, h1, h2, h3, h4, h5, h6]
    rw [hc_39, e3, cIx_i, if_pos rfl]
    exact t_end (by omega) hR2
  · exact absurd rfl q
theorem t_23 {b0 : Int32} (h0 : ∀ κ, xL S (.retAddr 0) x4 κ = κ b0) (hn : ¬ nI S.1 - 7 < x4) (h1 : ∀ κ, xL S (.retAddr 0) (x4 + 1) κ = κ b1) (h2 : ∀ κ, xL S (.retAddr 0) (x4 + 2) κ = κ b2) (h3 : ∀ κ, xL S (.retAddr 0) (x4 + 3) κ = κ b3) (h4 : ∀ κ, xL S (.retAddr 0) (x4 + 4) κ = κ b4) (h5 : ∀ κ, xL S (.retAddr 0) (x4 + 5) κ = κ b5) (h6 : ∀ κ, xL S (.retAddr 0) (x4 + 6) κ = κ b6) (hc : c < 1000000) (hR : Rel c k E A T) : TN c S (d + 40) x4 f (bd S (ex S (d + 40)) dflT E_L_law (f + 5) 23 [some (.retAddr 0), some (.ref 0), some (.ref 39), some (.ref 48), some (.int x4), o5, o6] [] (Hh k E A L T)) := by
  rw [g_L_law_23]
  simp -implicitDefEqProofs only [iA_a, h0]
  unfold xN
  dsimp only
  rw [if_neg hn]
  by_cases q0 : (b0 &&& 63) = 0
  · rw [if_pos q0]; exact t_216 h1 h2 h3 h4 h5 h6 hc hR
  rw [if_neg q0]
  by_cases q1 : (b0 &&& 63) = 1
  · rw [if_pos q1]; exact t_289 h1 h2 h3 h4 h5 h6 hc hR
  rw [if_neg q1]
  by_cases q2 : (b0 &&& 63) = 2
  · rw [if_pos q2]; exact t_314 h1 h2 h3 h4 h5 h6 hc hR
  rw [if_neg q2]
  by_cases q3 : (b0 &&& 63) = 3
  · rw [if_pos q3]; exact t_439 h1 h2 h3 h4 h5 h6 hc hR
  rw [if_neg q3]
  by_cases q4 : (b0 &&& 63) = 4
  · rw [if_pos q4]; exact t_515 h1 h2 h3 h4 h5 h6 hc hR
  rw [if_neg q4]
  by_cases q5 : (b0 &&& 63) = 5
  · rw [if_pos q5]; exact t_571 h1 h2 h3 h4 h5 h6 hc hR
  rw [if_neg q5]
  by_cases q6 : (b0 &&& 63) = 6
  · rw [if_pos q6]; exact t_651 h1 h2 h3 h4 h5 h6 hc hR
  rw [if_neg q6]
  by_cases q7 : (b0 &&& 63) = 7
  · rw [if_pos q7]; exact t_731 h1 h2 h3 h4 h5 h6 hc hR
  rw [if_neg q7]
  by_cases q8 : (b0 &&& 63) = 8
  · rw [if_pos q8]; exact t_851 h1 h2 h3 h4 h5 h6 hc hR
  rw [if_neg q8]
  by_cases q9 : (b0 &&& 63) = 9
  · rw [if_pos q9]; exact t_955 h1 h2 h3 h4 h5 h6 hc hR
  rw [if_neg q9]
  by_cases q10 : (b0 &&& 63) = 10
  · rw [if_pos q10]; exact t_1030 h1 h2 h3 h4 h5 h6 hc hR
  rw [if_neg q10]
  by_cases q11 : (b0 &&& 63) = 11
  · rw [if_pos q11]; exact t_1093 h1 h2 h3 h4 h5 h6 hc hR
  rw [if_neg q11]
  by_cases q12 : (b0 &&& 63) = 12
  · rw [if_pos q12]; exact t_1149 h1 h2 h3 h4 h5 h6 hc hR
  rw [if_neg q12]
  by_cases q13 : (b0 &&& 63) = 13
  · rw [if_pos q13]; exact t_1205 h1 h2 h3 h4 h5 h6 hc hR
  rw [if_neg q13]
  by_cases q14 : (b0 &&& 63) = 14
  · rw [if_pos q14]; exact t_1273 h1 h2 h3 h4 h5 h6 hc hR
  rw [if_neg q14]
  by_cases q15 : (b0 &&& 63) = 15
  · rw [if_pos q15]; exact t_1341 h1 h2 h3 h4 h5 h6 hc hR
  rw [if_neg q15]
  by_cases q16 : (b0 &&& 63) = 16
  · rw [if_pos q16]; exact t_1397 h1 h2 h3 h4 h5 h6 hc hR
  rw [if_neg q16]
  by_cases q17 : (b0 &&& 63) = 17
  · rw [if_pos q17]; exact t_1453 h1 h2 h3 h4 h5 h6 hc hR
  rw [if_neg q17]
  by_cases q18 : (b0 &&& 63) = 18
  · rw [if_pos q18]; exact t_1478 h1 h2 h3 h4 h5 h6 hc hR
  rw [if_neg q18]
  by_cases q19 : (b0 &&& 63) = 19
  · rw [if_pos q19]; exact t_1534 h1 h2 h3 h4 h5 h6 hc hR
  rw [if_neg q19]
  by_cases q20 : (b0 &&& 63) = 20
  · rw [if_pos q20]; exact t_1547 h1 h2 h3 h4 h5 h6 hc hR
  rw [if_neg q20]
  by_cases q21 : (b0 &&& 63) = 21
  · rw [if_pos q21]; exact t_1615 h1 h2 h3 h4 h5 h6 hc hR
  rw [if_neg q21]
  by_cases q22 : (b0 &&& 63) = 22
  · rw [if_pos q22]; exact t_1683 h1 h2 h3 h4 h5 h6 hc hR
  rw [if_neg q22]
  by_cases q23 : (b0 &&& 63) = 23
  · rw [if_pos q23]; exact t_1767 h1 h2 h3 h4 h5 h6 hc hR
  rw [if_neg q23]
  by_cases q24 : (b0 &&& 63) = 24
  · rw [if_pos q24]; exact t_1875 h1 h2 h3 h4 h5 h6 hc hR
  rw [if_neg q24]
  by_cases q25 : (b0 &&& 63) = 25
  · rw [if_pos q25]; exact t_1931 h1 h2 h3 h4 h5 h6 hc hR
  rw [if_neg q25]
  by_cases q26 : (b0 &&& 63) = 26
  · rw [if_pos q26]; exact t_2022 h1 h2 h3 h4 h5 h6 hc hR
  rw [if_neg q26]
  by_cases q27 : (b0 &&& 63) = 27
  · rw [if_pos q27]; exact t_2106 h1 h2 h3 h4 h5 h6 hc hR
  rw [if_neg q27]
  by_cases q28 : (b0 &&& 63) = 28
  · rw [if_pos q28]; exact t_2119 h1 h2 h3 h4 h5 h6 hc hR
  rw [if_neg q28]
  by_cases q29 : (b0 &&& 63) = 29
  · rw [if_pos q29]; exact t_2187 h1 h2 h3 h4 h5 h6 hc hR
  rw [if_neg q29]
  by_cases q30 : (b0 &&& 63) = 30
  · rw [if_pos q30]; exact t_2267 h1 h2 h3 h4 h5 h6 hc hR
  rw [if_neg q30]
  by_cases q31 : (b0 &&& 63) = 31
  · rw [if_pos q31]; exact t_2335 h1 h2 h3 h4 h5 h6 hc hR
  rw [if_neg q31]
  by_cases q32 : (b0 &&& 63) = 32
  · rw [if_pos q32]; exact t_2415 h1 h2 h3 h4 h5 h6 hc hR
  rw [if_neg q32]
  by_cases q33 : (b0 &&& 63) = 33
  · rw [if_pos q33]; exact t_2483 h1 h2 h3 h4 h5 h6 hc hR
  rw [if_neg q33]
  by_cases q34 : (b0 &&& 63) = 34
  · rw [if_pos q34]; exact t_2563 h1 h2 h3 h4 h5 h6 hc hR
  rw [if_neg q34]
  by_cases q35 : (b0 &&& 63) = 35
  · rw [if_pos q35]; exact t_2631 h1 h2 h3 h4 h5 h6 hc hR
  rw [if_neg q35]
  by_cases q36 : (b0 &&& 63) = 36
  · rw [if_pos q36]; exact t_2711 h1 h2 h3 h4 h5 h6 hc hR
  rw [if_neg q36]
  by_cases q37 : (b0 &&& 63) = 37
  · rw [if_pos q37]; exact t_2724 h1 h2 h3 h4 h5 h6 hc hR
  rw [if_neg q37]
  by_cases q38 : (b0 &&& 63) = 38
  · rw [if_pos q38]; exact t_2735 h1 h2 h3 h4 h5 h6 hc hR
  rw [if_neg q38]
  by_cases q39 : (b0 &&& 63) = 39
  · rw [if_pos q39]; exact t_2748 h1 h2 h3 h4 h5 h6 hc hR
  rw [if_neg q39]
  exact t_end (m := f + 3) (by omega) (Rel_fr hR (fun _ _ => rfl) (fun _ _ => rfl) rfl rfl rfl rfl rfl rfl)
end Turn
