/-! counts -/
section CountB
variable {S : sT} {d c : Nat} {k : Value} {E : List dsc} {A : fA} {L : fL} {T : fT} {W : fW}
theorem sumI_add (p q : Nat → Int32) (n : Nat) : sumI (fun f => p f + q f) n = sumI p n + sumI q n := by
  induction n with
  | zero => rfl
  | succ n ih => unfold sumI; rw [ih]; ac_rfl
theorem sumI_0 (n : Nat) : sumI (fun _ => 0) n = 0 := by
  induction n with
  | zero => rfl
  | succ n ih => unfold sumI; rw [ih]; rfl
theorem sumI_comm (g : Nat → Nat → Int32) (n m : Nat) : sumI (fun a => sumI (g a) m) n = sumI (fun b => sumI (fun a => g a b) n) m := by
  induction n with
  | zero => exact (sumI_0 m).symm
  | succ n ih =>
    show sumI (fun a => sumI (g a) m) n + sumI (g n) m = _
    rw [ih, ← sumI_add]
    rfl
/-- lines of a verb in a text -/
def cO (W : fW) (t : Nat) (s : Int32) : Int32 := sumI (fun n => if W (tx t + 2 + 6 * n) = s then 1 else 0) (lnT W t)
def liW (W : fW) : Int32 := sumI (fun j => sumI (fun n => if j < lkN W (W (tx (fl W j) + 2 + 6 * n)) (FW W).length then 0 else 1) (lnT W (fl W j))) (FW W).length
theorem li_7 {s : Int32} (hs : rg s 10 16) (l : Int32 → Nat) (j : Nat) : sumI (fun v => if j < l (nI (10 + v)) then 0 else if s = nI (10 + v) then 1 else 0) 7 = if j < l s then 0 else 1 := by
  obtain ⟨n, h1, -, rfl⟩ := rg_of (b := 16) (x := s) ⟨by have := hs.1; omega, hs.2⟩
  have h2 : 10 ≤ n := by have := hs.1; rw [nI_toInt (by omega)] at this; omega
  obtain ⟨v, hv, rfl⟩ : ∃ v, v < 7 ∧ n = 10 + v := ⟨n - 10, by omega, by omega⟩
  have key : ∀ w, w ≤ 7 → sumI (fun u => if j < l (nI (10 + u)) then 0 else if nI (10 + v) = nI (10 + u) then 1 else 0) w = if v < w then (if j < l (nI (10 + v)) then 0 else 1) else 0 := by
    intro w
    induction w with
    | zero => intro _; rfl
    | succ w ih =>
      intro hw
      show sumI _ w + (if j < l (nI (10 + w)) then (0 : Int32) else if nI (10 + v) = nI (10 + w) then 1 else 0) = _
      rw [ih (by omega)]
      by_cases q : v = w
      · subst q
        rw [if_neg (Nat.lt_irrefl v), if_pos rfl, if_pos (Nat.lt_succ_self v)]
        split <;> decide
      · have : ¬ nI (10 + v) = nI (10 + w) := fun e => q (by have := (nI_eq (by omega) (by omega)).mp e; omega)
        rw [if_neg this]
        by_cases q2 : v < w
        · rw [if_pos q2, if_pos (show v < w + 1 by omega)]
          split <;> split <;> decide
        · rw [if_neg q2, if_neg (show ¬ v < w + 1 by omega)]
          split <;> decide
  rw [key 7 (Nat.le_refl _), if_pos hv]
theorem li_c (hX : IvXs W) : sumI (fun v => sumI (fun j => if j < lkN W (nI (10 + v)) (FW W).length then 0 else cO W (fl W j) (nI (10 + v))) (FW W).length) 7 = liW W := by
  rw [sumI_comm]
  unfold liW
  refine sumI_congr (fun j hj => ?_)
  obtain ⟨f1, f2⟩ := fl_at hj
  obtain ⟨-, nl, nc, hw, hv⟩ := hX.2.2 _ f2
  have hl := lnT_eq hw
  generalize (FW W).length = m
  generalize fl W j = t at *
  have e : ∀ v, (if j < lkN W (nI (10 + v)) m then 0 else cO W t (nI (10 + v))) = sumI (fun n => if j < lkN W (nI (10 + v)) m then 0 else if W (tx t + 2 + 6 * n) = nI (10 + v) then 1 else 0) nl := by
    intro v
    unfold cO
    rw [hl]
    split
    · exact (sumI_0 nl).symm
    · rfl
  rw [show (fun v => if j < lkN W (nI (10 + v)) m then 0 else cO W t (nI (10 + v))) = _ from funext e, sumI_comm, hl]
  exact sumI_congr (fun n hn => li_7 (hv n hn) (fun s => lkN W s m) j)
theorem c_linesOf {a b nl nc t : Nat} {s : Int32} (h : TX k E A a b nl nc W (tx t)) (hs : rg s 10 16) : ex S (d + 2) 379 [.ref a, .int (vb s)] (Hh k E A L T) = some (.inl (some (.int (cO W t s))), Hh k E A L T) := by
  obtain ⟨n1, n2⟩ := tx_n h
  obtain ⟨h1, h2, h3, h4, -, -⟩ := id h
  have hl := lnT_eq h4
  rw [x_X9_linesOf, g_X9_linesOf_0]
  unfold cO
  rw [hl]
  refine loop_Q (α := Unit) (F := fun g i _ => bd S (ex S (d + 1)) dflT E_X9_linesOf g 4 [some (.ref a), some (.int (vb s)), some (.int (sumI (fun n => if W (tx t + 2 + 6 * n) = s then 1 else 0) i)), some (.int (nI i))] [] (Hh k E A L T)) (N := nl) (P := fun _ _ => True) (Q := fun r => r = some (.inl (some (.int (sumI (fun n => if W (tx t + 2 + 6 * n) = s then 1 else 0) nl))), Hh k E A L T)) ?_ ?_ (s := ()) trivial (by omega)
  · rintro g i - hi -
    right
    refine ⟨(), ?_, trivial⟩
    have g0 : ¬ nI nl ≤ nI i := nI_ge hi (by omega)
    have e : sumI (fun n => if W (tx t + 2 + 6 * n) = s then (1 : Int32) else 0) (i + 1) = sumI (fun n => if W (tx t + 2 + 6 * n) = s then 1 else 0) i + (if W (tx t + 2 + 6 * i) = s then 1 else 0) := rfl
    have ev := vb_eq2 (h4.2.2.2 i hi).1 (Or.inr hs)
    rw [g_X9_linesOf_4]
    simp -implicitDefEqProofs only [q_iR, q_zr, tl h1, h3, if_neg g0, tc h1, c_tg0 h hi, q_I, nI_p1]
    by_cases c1 : W (tx t + 2 + 6 * i) = s
    · rw [if_pos (ev.mpr c1), e, if_pos c1]
    · rw [if_neg (fun q => c1 (ev.mp q)), e, if_neg c1, Int32.add_zero]
  · rintro g - -
    rw [g_X9_linesOf_4]
    simp -implicitDefEqProofs only [q_iR, q_zr, tl h1, h3, if_pos (Int32.le_refl (nI nl))]
theorem vb_n : ∀ v : Fin 7, vb (nI (10 + v.1)) = nI (17 + v.1) := by decide
theorem c_lines (hX : LkX k E A (A 5) (T 6) (A 7) (A 8) W) (hI : IvXs W) : ex S (d + 4) 380 [.ref 5, .int (W 0)] (Hh k E A L T) = some (.inl (some (.int (liW W))), Hh k E A L T) := by
  have hp : W 2650 = nI (xn W) ∧ xn W ≤ 12 := ⟨hI.1, hI.2.1⟩
  have hm := FW_len (W := W)
  have p2 := hp.2
  rw [x_X9_linesInForce, g_X9_linesInForce_0]
  simp -implicitDefEqProofs only [hc_5, c_inF hX hp, q_I]
  rw [← li_c hI]
  have lkl := fun s => lk_le (W := W) (s := s) (FW W).length
  have lst := fun (v : Nat) (hv : v < 7) => c_lastStrike (S := S) (d := d) (L := L) (s := nI (10 + v)) hX hp ⟨by rw [nI_toInt (by omega)]; omega, by rw [nI_toInt (by omega)]; omega⟩
  have tat := fun (i : Nat) (hi : i < (FW W).length) => txt_at (i := i) hX hi
  generalize hM : (FW W).length = m at *
  refine loop_QK (K := 20) (α := Option Value) (F := fun g v o => bd S (ex S (d + 3)) dflT E_X9_linesInForce g 12 [some (.ref 5), some (.int (W 0)), some (.int (nI m)), some (.int (sumI (fun v => sumI (fun j => if j < lkN W (nI (10 + v)) m then 0 else cO W (fl W j) (nI (10 + v))) m) v)), some (.int (nI (17 + v))), o] [] (Hh k E A L T)) (N := 7) (P := fun _ _ => True) (Q := fun r => r = some (.inl (some (.int (sumI (fun v => sumI (fun j => if j < lkN W (nI (10 + v)) m then 0 else cO W (fl W j) (nI (10 + v))) m) 7))), Hh k E A L T)) ?_ ?_ (s := none) trivial (by decide)
  · rintro g v o hv -
    right
    have g0 : ¬ (23 : Int32) < nI (17 + v) := nI_nlt (a := 23) (by omega) (by decide)
    have e : sumI (fun v => sumI (fun j => if j < lkN W (nI (10 + v)) m then 0 else cO W (fl W j) (nI (10 + v))) m) (v + 1) = sumI (fun v => sumI (fun j => if j < lkN W (nI (10 + v)) m then 0 else cO W (fl W j) (nI (10 + v))) m) v + sumI (fun j => if j < lkN W (nI (10 + v)) m then 0 else cO W (fl W j) (nI (10 + v))) m := rfl
    have ls := lst v hv
    have hs : rg (nI (10 + v)) 10 16 := ⟨by rw [nI_toInt (by omega)]; omega, by rw [nI_toInt (by omega)]; omega⟩
    have hl := lkl (nI (10 + v))
    have vv : vb (nI (10 + v)) = nI (17 + v) := vb_n ⟨v, hv⟩
    rw [vv] at ls
    rw [show g + 20 = (g + 19) + 1 from rfl, g_X9_linesInForce_12]
    simp -implicitDefEqProofs only [if_neg g0, hc_5, ls, q_I]
    rw [e]
    generalize sumI (fun v => sumI (fun j => if j < lkN W (nI (10 + v)) m then 0 else cO W (fl W j) (nI (10 + v))) m) v = z
    generalize lkN W (nI (10 + v)) m = l at *
    rw [show sumI (fun j => if j < l then 0 else cO W (fl W j) (nI (10 + v))) m = sumI (fun i => cO W (fl W (l + i)) (nI (10 + v))) (m - l) from by
      rw [← sumI_off (fun j => cO W (fl W j) (nI (10 + v))) l (m - l), show l + (m - l) = m by omega]]
    obtain ⟨-, g', hg', f1, -⟩ := loop_RK (K := 1) (α := Unit) (F := fun g i _ => bd S (ex S (d + 3)) dflT E_X9_linesInForce g 28 [some (.ref 5), some (.int (W 0)), some (.int (nI m)), some (.int (z + sumI (fun i => cO W (fl W (l + i)) (nI (10 + v))) i)), some (.int (nI (17 + v))), some (.int (nI (l + i)))] [] (Hh k E A L T)) (N := m - l) (P := fun _ _ => True) (s := ()) (by
      rintro g i - hi -
      have g1 : ¬ nI m ≤ nI (l + i) := nI_ge (by omega) (by omega)
      obtain ⟨f1, f2, a, b, nl, nc, f3, f4⟩ := tat (l + i) (by omega)
      have hc := c_tAt (S := S) (d := d + 2) (L := L) hX hp f1
      have cl := c_linesOf (S := S) (d := d + 1) (L := L) (T := T) f4 hs
      rw [vv] at cl
      rw [g_X9_linesInForce_28]
      simp -implicitDefEqProofs only [if_neg g1, hv_5_1, hc_5, hc, q_I, an_6 (show fl W (l + i) < 12 by omega), f3, q_rf, cl, nI_p1]
      exact ⟨(), g, Nat.le_refl _, by rw [Int32.add_assoc]; rfl, trivial⟩) trivial (g + 1) (g + 19) (by omega)
    have f1' : bd S (ex S (d + 3)) dflT E_X9_linesInForce (g + 19) 28 [some (.ref 5), some (.int (W 0)), some (.int (nI m)), some (.int (z + 0)), some (.int (nI (17 + v))), some (.int (nI l))] [] (Hh k E A L T) = _ := f1
    rw [Int32.add_zero] at f1'
    rw [f1']
    obtain ⟨g2, rfl⟩ : ∃ g2, g' = g2 + 1 := ⟨g' - 1, by omega⟩
    rw [g_X9_linesInForce_28, show l + (m - l) = m by omega, if_pos (Int32.le_refl (nI m)), nI_p1]
    exact ⟨_, g2, by omega, rfl, trivial⟩
  · rintro g o -
    rw [show g + 20 = (g + 19) + 1 from rfl, g_X9_linesInForce_12, if_pos (by decide)]
theorem q_h5 {a b : Nat} {x y z : Int32} {κ : rO} : h8f [.ref a, .int x, .int y, .ref b, .int z] κ = κ := if_pos (Nat.le_of_ble_eq_true rfl)
theorem r_lines (hI : Iv c (A 40)) : ∃ B, ex S (d + 5) 385 [.ref 39] (Hh k E A L T) = some (.inl (some (.int (liW (A 40)))), Hh k E B L T) ∧ Fo A B := by
  obtain ⟨B, e1, hO, hFo⟩ := r_ord (S := S) (d := d + 2) (k := k) (E := E) (L := L) (T := T) (hp_of hI)
  have e40 : B 40 = A 40 := hFo.1 40 (by decide) (by decide)
  refine ⟨B, ?_, hFo⟩
  rw [x_X12_linesInForce, g_X12_linesInForce_0]
  simp -implicitDefEqProofs only [hc_39, e1, q_U]
  have hX : Xw (B 40) := by rw [e40]; exact Xw_of hI
  rw [← e40]
  clear e1 hFo
  have hl := FW_len (W := B 40)
  have h12 := hX.1
  have e16 := hO.2
  unfold liW
  refine loop_QK (K := 20) (α := Option Value) (F := fun g j o => bd S (ex S (d + 4)) dflT E_X12_linesInForce g 8 [some (.ref 39), some (.int (sumI (fun j => sumI (fun n => if j < lkN (B 40) (B 40 (tx (fl (B 40) j) + 2 + 6 * n)) (FW (B 40)).length then 0 else 1) (lnT (B 40) (fl (B 40) j))) j)), some (.int (nI j)), o] [] (Hh k E B L T)) (N := (FW (B 40)).length) (P := fun _ _ => True) (Q := fun r => r = some (.inl (some (.int (sumI (fun j => sumI (fun n => if j < lkN (B 40) (B 40 (tx (fl (B 40) j) + 2 + 6 * n)) (FW (B 40)).length then 0 else 1) (lnT (B 40) (fl (B 40) j))) (FW (B 40)).length))), Hh k E B L T)) ?_ ?_ (s := none) trivial (by omega)
  · rintro g j o hj -
    right
    have g0 : ¬ nI (FW (B 40)).length ≤ nI j := nI_ge hj (by omega)
    rw [show g + 20 = (g + 19) + 1 from rfl, g_X12_linesInForce_8]
    simp -implicitDefEqProofs only [hg_39_16, e16, if_neg g0]
    rw [show sumI (fun j => sumI (fun n => if j < lkN (B 40) (B 40 (tx (fl (B 40) j) + 2 + 6 * n)) (FW (B 40)).length then (0 : Int32) else 1) (lnT (B 40) (fl (B 40) j))) (j + 1) = sumI (fun j => sumI (fun n => if j < lkN (B 40) (B 40 (tx (fl (B 40) j) + 2 + 6 * n)) (FW (B 40)).length then 0 else 1) (lnT (B 40) (fl (B 40) j))) j + sumI (fun n => if j < lkN (B 40) (B 40 (tx (fl (B 40) j) + 2 + 6 * n)) (FW (B 40)).length then 0 else 1) (lnT (B 40) (fl (B 40) j)) from rfl]
    generalize sumI (fun j => sumI (fun n => if j < lkN (B 40) (B 40 (tx (fl (B 40) j) + 2 + 6 * n)) (FW (B 40)).length then (0 : Int32) else 1) (lnT (B 40) (fl (B 40) j))) j = z
    obtain ⟨-, o2, o3, o4⟩ := od_at (k := k) (E := E) (L := L) (T := T) (κ := fun _ => none) hX hO hj
    have oa : ∀ {κ : Int32 → rO}, aI (Hh k E B L T) (.ref 46) 0 (nI j) κ = κ (nI (fl (B 40) j)) := fun {κ} => (od_at hX hO hj).1
    have il : ∀ n s, n < 16 → ex S (d + 4) 143 [.ref 39, .int (nI j), .int (nI n), .int s] (Hh k E B L T) = _ := fun n s hn => r_isLine (s := s) hX hO hj hn
    generalize ht : fl (B 40) j = t at *
    generalize hnl : lnT (B 40) t = nl at *
    have sk : ∀ s, skN (B 40) s j (FW (B 40)).length = true ↔ j < lkN (B 40) s (FW (B 40)).length := fun s => lk_sk
    generalize hM : (FW (B 40)).length = m at *
    obtain ⟨-, g', hg', f1, -⟩ := loop_RK (K := 1) (α := Unit) (F := fun g n _ => bd S (ex S (d + 4)) dflT E_X12_linesInForce g 18 [some (.ref 39), some (.int (z + sumI (fun n => if j < lkN (B 40) (B 40 (tx t + 2 + 6 * n)) m then 0 else 1) n)), some (.int (nI j)), some (.int (nI n))] [] (Hh k E B L T)) (N := nl) (P := fun _ _ => True) (s := ()) (by
      rintro g n - hn -
      have g1 : ¬ nI nl ≤ nI n := nI_ge hn (by omega)
      have e : sumI (fun n => if j < lkN (B 40) (B 40 (tx t + 2 + 6 * n)) m then (0 : Int32) else 1) (n + 1) = sumI (fun n => if j < lkN (B 40) (B 40 (tx t + 2 + 6 * n)) m then 0 else 1) n + (if j < lkN (B 40) (B 40 (tx t + 2 + 6 * n)) m then 0 else 1) := rfl
      refine ⟨(), g, Nat.le_refl _, ?_, trivial⟩
      rw [g_X12_linesInForce_18]
      simp -implicitDefEqProofs only [hv_39_15, oa, hc_39, r_lns (show t < 37 by omega), o3, q_I, if_neg g1, hv_39_1, q_h5, r_lat, an_40 (show tx t + 2 + 6 * n < 35877 by unfold tx; omega), il n _ (show n < 16 by omega), nI_p1, true_and]
      rw [e]
      by_cases q : j < lkN (B 40) (B 40 (tx t + 2 + 6 * n)) m
      · have q2 := (sk _).mpr q
        rw [if_neg (show ¬ skN (B 40) (B 40 (tx t + 2 + 6 * n)) j m = false by rw [q2]; decide), if_pos rfl, if_pos q, Int32.add_zero, Int32.add_zero]
      · have q2 : skN (B 40) (B 40 (tx t + 2 + 6 * n)) j m = false := by
          cases hz : skN (B 40) (B 40 (tx t + 2 + 6 * n)) j m
          · rfl
          · exact absurd ((sk _).mp hz) q
        rw [if_pos q2, if_neg (by decide), if_neg q, Int32.add_assoc]) trivial (g + 1) (g + 19) (by omega)
    have f1' : bd S (ex S (d + 4)) dflT E_X12_linesInForce (g + 19) 18 [some (.ref 39), some (.int (z + 0)), some (.int (nI j)), some (.int 0)] [] (Hh k E B L T) = _ := f1
    rw [Int32.add_zero] at f1'
    rw [f1']
    obtain ⟨g2, rfl⟩ : ∃ g2, g' = g2 + 1 := ⟨g' - 1, by omega⟩
    rw [g_X12_linesInForce_18]
    simp -implicitDefEqProofs only [hv_39_15, oa, hc_39, r_lns (show t < 37 by omega), o3, q_I, if_pos (Int32.le_refl (nI nl)), nI_p1]
    exact ⟨_, g2, by omega, rfl, trivial⟩
  · rintro g o -
    rw [show g + 20 = (g + 19) + 1 from rfl, g_X12_linesInForce_8]
    simp -implicitDefEqProofs only [hg_39_16, e16, if_pos (Int32.le_refl (nI (FW (B 40)).length))]
/-- holdings that go on; sums over holdings; sold fields -/
def goW (W : fW) : Int32 := sumI (fun h => if fo W h = 0 then 0 else 1) (hn W)
theorem c_going (l1 : A 11 0 = nI (hn W)) (h24 : hn W ≤ 24) (hC : ∀ h, h < hn W → LkC (A 12) W h) : ex S (d + 4) 377 [.ref 11] (Hh k E A L T) = some (.inl (some (.int (goW W))), Hh k E A L T) := by
  rw [x_X1_goingOn, g_X1_goingOn_0]
  refine loop_Q (α := Unit) (F := fun g i _ => bd S (ex S (d + 3)) dflT E_X1_goingOn g 4 [some (.ref 11), some (.int (sumI (fun h => if fo W h = 0 then 0 else 1) i)), some (.int (nI i))] [] (Hh k E A L T)) (N := hn W) (P := fun _ _ => True) (Q := fun r => r = some (.inl (some (.int (goW W))), Hh k E A L T)) ?_ ?_ (s := ()) trivial (by omega)
  · rintro g i - hi -
    right
    refine ⟨(), ?_, trivial⟩
    have g0 : ¬ nI (hn W) ≤ nI i := nI_ge hi (by omega)
    have e : sumI (fun h => if fo W h = 0 then (0 : Int32) else 1) (i + 1) = sumI (fun h => if fo W h = 0 then 0 else 1) i + (if fo W i = 0 then 0 else 1) := rfl
    rw [g_X1_goingOn_4]
    simp -implicitDefEqProofs only [hg_11_0, l1, if_neg g0, hc_11, c_isOver (hC i hi) (show i < 24 by omega), q_I, overW, nI_p1]
    rw [e]
    by_cases q : fo W i = 0
    · rw [if_pos q, if_pos q, if_neg (by decide)]
    · rw [if_neg q, if_neg q, if_pos rfl]
  · rintro g - -
    rw [g_X1_goingOn_4]
    simp -implicitDefEqProofs only [hg_11_0, l1, if_pos (Int32.le_refl (nI (hn W)))]
    rfl
theorem r_going (hp : A 40 1683 = nI (hn (A 40))) (h24 : hn (A 40) ≤ 24) (x1 : Int32) (m : Nat) (hm : 30 ≤ m) : bd S (ex S (d + 3)) dflT E_X12_count m 135 [some (.ref 39), some (.int x1), some (.int 0), some (.int 0)] [] (Hh k E A L T) = some (.inl (some (.int (goW (A 40)))), Hh k E A L T) := by
  refine loop_Q (α := Unit) (F := fun g i _ => bd S (ex S (d + 3)) dflT E_X12_count g 135 [some (.ref 39), some (.int x1), some (.int (sumI (fun h => if fo (A 40) h = 0 then 0 else 1) i)), some (.int (nI i))] [] (Hh k E A L T)) (N := hn (A 40)) (P := fun _ _ => True) (Q := fun r => r = some (.inl (some (.int (goW (A 40)))), Hh k E A L T)) ?_ ?_ (s := ()) trivial (by omega)
  · rintro g i - hi -
    right
    refine ⟨(), ?_, trivial⟩
    have g0 : ¬ nI (hn (A 40)) ≤ nI i := nI_ge hi (by omega)
    have e : sumI (fun h => if fo (A 40) h = 0 then (0 : Int32) else 1) (i + 1) = sumI (fun h => if fo (A 40) h = 0 then 0 else 1) i + (if fo (A 40) i = 0 then 0 else 1) := rfl
    have fl := fo_lt (A 40) i
    rw [g_X12_count_135]
    simp -implicitDefEqProofs only [hv_39_1, aw_40_1683, hp, if_neg g0, hc_39, r_fieldsOf, q_I, nI_p1]
    rw [e]
    by_cases q : fo (A 40) i = 0
    · rw [if_pos (by rw [q]; decide), if_pos q]
    · rw [if_neg (show ¬ nI (fo (A 40) i) ≤ 0 from nI_ge (b := fo (A 40) i) (a := 0) (by omega) fl), if_neg q]
  · rintro g - -
    rw [g_X12_count_135]
    simp -implicitDefEqProofs only [hv_39_1, aw_40_1683, hp, if_pos (Int32.le_refl (nI (hn (A 40))))]
    rfl
def suW (W : fW) (w : Nat) : Int32 := kp (sumJ (fun h => (W (1684 + 11 * h + w)).toInt64) (hn W))
theorem c_sumOf {x : Int32} {w : Nat} (l1 : A 11 0 = nI (hn W)) (h24 : hn W ≤ 24) (hg : ∀ h, h < hn W → ex S (d + 2) 102 [.ref 11, .int x, .int (nI h)] (Hh k E A L T) = some (.inl (some (.int (W (1684 + 11 * h + w)))), Hh k E A L T)) : ex S (d + 3) 378 [.ref 11, .int x] (Hh k E A L T) = some (.inl (some (.int (suW W w))), Hh k E A L T) := by
  rw [x_X1_sumOf, g_X1_sumOf_0]
  refine loop_Q (α := Unit) (F := fun g i _ => bd S (ex S (d + 2)) dflT E_X1_sumOf g 5 [some (.ref 11), some (.int x), some (.long (sumJ (fun h => (W (1684 + 11 * h + w)).toInt64) i)), none, some (.int (nI i))] [] (Hh k E A L T)) (N := hn W) (P := fun _ _ => True) (Q := fun r => r = some (.inl (some (.int (suW W w))), Hh k E A L T)) ?_ ?_ (s := ()) trivial (by omega)
  · rintro g i - hi -
    right
    refine ⟨(), ?_, trivial⟩
    have g0 : ¬ nI (hn W) ≤ nI i := nI_ge hi (by omega)
    rw [g_X1_sumOf_5]
    simp -implicitDefEqProofs only [hg_11_0, l1, if_neg g0, hc_11, hg i hi, q_I, nI_p1]
    rfl
  · rintro g - -
    rw [g_X1_sumOf_5]
    simp -implicitDefEqProofs only [hg_11_0, l1, if_pos (Int32.le_refl (nI (hn W))), c_capped, q_Ix]
    rfl
theorem r_sumOf {w : Nat} (hw : w < 11) (hp : A 40 1683 = nI (hn (A 40))) (h24 : hn (A 40) ≤ 24) : ex S (d + 3) 384 [.ref 39, .int (nI w)] (Hh k E A L T) = some (.inl (some (.int (suW (A 40) w))), Hh k E A L T) := by
  rw [x_X12_sumOf, g_X12_sumOf_0]
  refine loop_Q (α := Unit) (F := fun g i _ => bd S (ex S (d + 2)) dflT E_X12_sumOf g 5 [some (.ref 39), some (.int (nI w)), some (.long (sumJ (fun h => (A 40 (1684 + 11 * h + w)).toInt64) i)), none, some (.int (nI i))] [] (Hh k E A L T)) (N := hn (A 40)) (P := fun _ _ => True) (Q := fun r => r = some (.inl (some (.int (suW (A 40) w))), Hh k E A L T)) ?_ ?_ (s := ()) trivial (by omega)
  · rintro g i - hi -
    right
    refine ⟨(), ?_, trivial⟩
    have g0 : ¬ nI (hn (A 40)) ≤ nI i := nI_ge hi (by omega)
    rw [g_X12_sumOf_5]
    simp -implicitDefEqProofs only [hv_39_1, aw_40_1683, hp, if_neg g0, hc_39, r_its (show i < 24 by omega) hw, q_I, nI_p1]
    rfl
  · rintro g - -
    rw [g_X12_sumOf_5]
    simp -implicitDefEqProofs only [hv_39_1, aw_40_1683, hp, if_pos (Int32.le_refl (nI (hn (A 40)))), r_kept, q_I]
    rfl
def soW (W : fW) : Int32 := sumI (fun f => W (8 + 14 * f + 11)) 48
theorem c_soldF (hL : LkL (A 10) W) : ex S (d + 3) 381 [.ref 9] (Hh k E A L T) = some (.inl (some (.int (soW W))), Hh k E A L T) := by
  rw [x_X2_soldFields, g_X2_soldFields_0]
  refine loop_Q (α := Unit) (F := fun g i _ => bd S (ex S (d + 2)) dflT E_X2_soldFields g 4 [some (.ref 9), some (.int (sumI (fun f => W (8 + 14 * f + 11)) i)), some (.int (nI i))] [] (Hh k E A L T)) (N := 48) (P := fun _ _ => True) (Q := fun r => r = some (.inl (some (.int (soW W))), Hh k E A L T)) ?_ ?_ (s := ()) trivial (by decide)
  · rintro g i - hi -
    right
    refine ⟨(), ?_, trivial⟩
    rw [g_X2_soldFields_4, if_neg (show ¬ (48 : Int32) ≤ nI i from nI_ge (b := 48) hi (by decide))]
    simp -implicitDefEqProofs only [hc_9, gL_11 hL hi, q_I, nI_p1]
    rfl
  · rintro g - -
    rw [g_X2_soldFields_4, if_pos (by decide)]
    rfl
theorem r_soldF (x1 : Int32) (m : Nat) (hm : 60 ≤ m) : bd S (ex S (d + 3)) dflT E_X12_count m 228 [some (.ref 39), some (.int x1), some (.int 0), some (.int 0)] [] (Hh k E A L T) = some (.inl (some (.int (soW (A 40)))), Hh k E A L T) := by
  refine loop_Q (α := Unit) (F := fun g i _ => bd S (ex S (d + 3)) dflT E_X12_count g 228 [some (.ref 39), some (.int x1), some (.int (sumI (fun f => A 40 (8 + 14 * f + 11)) i)), some (.int (nI i))] [] (Hh k E A L T)) (N := 48) (P := fun _ _ => True) (Q := fun r => r = some (.inl (some (.int (soW (A 40)))), Hh k E A L T)) ?_ ?_ (s := ()) trivial (by omega)
  · rintro g i - hi -
    right
    refine ⟨(), ?_, trivial⟩
    rw [g_X12_count_228, if_neg (show ¬ (48 : Int32) ≤ nI i from nI_ge (b := 48) hi (by decide))]
    simp -implicitDefEqProofs only [hc_39, ro_11 hi, q_I, nI_p1]
    rfl
  · rintro g - -
    rw [g_X12_count_228, if_pos (by decide)]
    rfl
theorem p_count (hR : Rel c k E A T) (x : Int32) : PK c S (d + 6) k E A T 383 386 [.int x] cd0 := by
  have hI := Rel_w hR
  obtain ⟨i0, i1, i2, i3, i4, i5, i6, i7, i8, i9, i10⟩ := id hI
  have h24 := i4.2.1
  have lh := (Rel_h hR).1
  have l1 : A 11 0 = nI (hn (A 40)) := lh.trans i4.1
  have hCs := (Rel_h hR).2.1
  have s7 := Rel_s hR
  have lx := (Rel_x hR).1
  have lr := (Rel_r hR).1
  obtain ⟨⟨m0, m1, m2, m3, m4, m5, m6, m8⟩, -, -⟩ := Rel_g hR
  have cs3 := fun L => c_sumOf (S := S) (d := d + 2) (k := k) (E := E) (A := A) (L := L) (T := T) (x := 3) (w := 2) l1 h24 (fun h hh => gH_3 (hCs h hh) (by omega))
  have cs4 := fun L => c_sumOf (S := S) (d := d + 2) (k := k) (E := E) (A := A) (L := L) (T := T) (x := 4) (w := 3) l1 h24 (fun h hh => gH_4 (hCs h hh) (by omega))
  have hI1 : Iv (c + 1) (A 40) := Iv_c (Nat.le_succ c) hI
  by_cases q0 : x = 0
  · subst q0
    refine PK_v (v := some (.int (A 40 0))) (V := A 40) hR hI1 (fun L => ⟨A, L, ?_, Fr_refl, hR.2.1⟩) (fun B M hB => ?_)
    · simp -implicitDefEqProofs only [x_X11_count, g_X11_count_0, show ((0 : Int32) = 0) = True by decide, if_true, g_X11_count_88, hv_0_1, hg_4_7, s7]
    · refine ⟨_, M, ?_, rfl, Fg_refl, by rw [u40_39, hB]⟩
      simp -implicitDefEqProofs only [x_X12_count, g_X12_count_0, hp_39_0, show ((0 : Int32) = 0) = True by decide, if_true, g_X12_count_100, hc_39, r_season, q_I, u40_39, hB]
  by_cases q1 : x = 1
  · subst q1
    refine PK_v (v := some (.int (A 40 0 / 4))) (V := A 40) hR hI1 (fun L => ⟨A, L, ?_, Fr_refl, hR.2.1⟩) (fun B M hB => ?_)
    · simp -implicitDefEqProofs only [x_X11_count, g_X11_count_0, show ((1 : Int32) = 0) = False by decide, show ((1 : Int32) = 1) = True by decide, if_true, if_false, g_X11_count_96, hv_0_1, hg_4_7, s7, dv_4]
    · refine ⟨_, M, ?_, rfl, Fg_refl, by rw [u40_39, hB]⟩
      simp -implicitDefEqProofs only [x_X12_count, g_X12_count_0, hp_39_0, show ((1 : Int32) = 0) = False by decide, show ((1 : Int32) = 1) = True by decide, if_true, if_false, g_X12_count_105, hc_39, r_year, q_I, u40_39, hB]
  by_cases q2 : x = 2
  · subst q2
    refine PK_v (v := some (.int (A 40 1))) (V := A 40) hR hI1 (fun L => ⟨A, L, ?_, Fr_refl, hR.2.1⟩) (fun B M hB => ?_)
    · simp -implicitDefEqProofs only [x_X11_count, g_X11_count_0, show ((2 : Int32) = 0) = False by decide, show ((2 : Int32) = 1) = False by decide, show ((2 : Int32) = 2) = True by decide, if_true, if_false, g_X11_count_203, hv_0_1, hv_4_4, hc_22, x_X3_told, g_X3_told_0, g_X3_told_84, q_I, hg_22_0, m0]
    · refine ⟨_, M, ?_, rfl, Fg_refl, by rw [u40_39, hB]⟩
      simp -implicitDefEqProofs only [x_X12_count, g_X12_count_0, hp_39_0, show ((2 : Int32) = 0) = False by decide, show ((2 : Int32) = 1) = False by decide, show ((2 : Int32) = 2) = True by decide, if_true, if_false, g_X12_count_110, hv_39_1, aw_40_1, u40_39, hB]
  by_cases q3 : x = 3
  · subst q3
    refine PK_v (v := some (.int (A 40 2))) (V := A 40) hR hI1 (fun L => ⟨A, L, ?_, Fr_refl, hR.2.1⟩) (fun B M hB => ?_)
    · simp -implicitDefEqProofs only [x_X11_count, g_X11_count_0, show ((3 : Int32) = 0) = False by decide, show ((3 : Int32) = 1) = False by decide, show ((3 : Int32) = 2) = False by decide, show ((3 : Int32) = 3) = True by decide, if_true, if_false, g_X11_count_203, hv_0_1, hv_4_4, hc_22, x_X3_told, g_X3_told_0, g_X3_told_89, q_I, hg_22_1, m1]
    · refine ⟨_, M, ?_, rfl, Fg_refl, by rw [u40_39, hB]⟩
      simp -implicitDefEqProofs only [x_X12_count, g_X12_count_0, hp_39_0, show ((3 : Int32) = 0) = False by decide, show ((3 : Int32) = 1) = False by decide, show ((3 : Int32) = 2) = False by decide, show ((3 : Int32) = 3) = True by decide, if_true, if_false, g_X12_count_117, hv_39_1, aw_40_2, u40_39, hB]
  by_cases q4 : x = 4
  · subst q4
    refine PK_v (v := some (.int (A 40 1683))) (V := A 40) hR hI1 (fun L => ⟨A, L, ?_, Fr_refl, hR.2.1⟩) (fun B M hB => ?_)
    · simp -implicitDefEqProofs only [x_X11_count, g_X11_count_0, show ((4 : Int32) = 0) = False by decide, show ((4 : Int32) = 1) = False by decide, show ((4 : Int32) = 2) = False by decide, show ((4 : Int32) = 3) = False by decide, show ((4 : Int32) = 4) = True by decide, if_true, if_false, g_X11_count_106, hv_0_1, hv_4_2, hg_11_0, lh]
    · refine ⟨_, M, ?_, rfl, Fg_refl, by rw [u40_39, hB]⟩
      simp -implicitDefEqProofs only [x_X12_count, g_X12_count_0, hp_39_0, show ((4 : Int32) = 0) = False by decide, show ((4 : Int32) = 1) = False by decide, show ((4 : Int32) = 2) = False by decide, show ((4 : Int32) = 3) = False by decide, show ((4 : Int32) = 4) = True by decide, if_true, if_false, g_X12_count_124, hv_39_1, aw_40_1683, u40_39, hB]
  by_cases q5 : x = 5
  · subst q5
    refine PK_v (v := some (.int (goW (A 40)))) (V := A 40) hR hI1 (fun L => ⟨A, L, ?_, Fr_refl, hR.2.1⟩) (fun B M hB => ?_)
    · simp -implicitDefEqProofs only [x_X11_count, g_X11_count_0, show ((5 : Int32) = 0) = False by decide, show ((5 : Int32) = 1) = False by decide, show ((5 : Int32) = 2) = False by decide, show ((5 : Int32) = 3) = False by decide, show ((5 : Int32) = 4) = False by decide, show ((5 : Int32) = 5) = True by decide, if_true, if_false, g_X11_count_117, hv_0_1, hv_4_2, hc_11, c_going l1 h24 hCs, q_I]
    · have rg5 := r_going (S := S) (d := d + 2) (k := k) (E := E) (A := up B 39 0 0) (L := M) (T := T) (by rw [u40_39, hB]; exact i4.1) (by rw [u40_39, hB]; exact h24) 5 99998 (by decide)
      rw [u40_39, hB] at rg5
      refine ⟨_, M, ?_, rfl, Fg_refl, by rw [u40_39, hB]⟩
      simp -implicitDefEqProofs only [x_X12_count, g_X12_count_0, hp_39_0, show ((5 : Int32) = 0) = False by decide, show ((5 : Int32) = 1) = False by decide, show ((5 : Int32) = 2) = False by decide, show ((5 : Int32) = 3) = False by decide, show ((5 : Int32) = 4) = False by decide, show ((5 : Int32) = 5) = True by decide, if_true, if_false, g_X12_count_133, rg5]
  by_cases q6 : x = 6
  · subst q6
    refine PK_v (v := some (.int (suW (A 40) 2))) (V := A 40) hR hI1 (fun L => ⟨A, L, ?_, Fr_refl, hR.2.1⟩) (fun B M hB => ?_)
    · simp -implicitDefEqProofs only [x_X11_count, g_X11_count_0, show ((6 : Int32) = 0) = False by decide, show ((6 : Int32) = 1) = False by decide, show ((6 : Int32) = 2) = False by decide, show ((6 : Int32) = 3) = False by decide, show ((6 : Int32) = 4) = False by decide, show ((6 : Int32) = 5) = False by decide, show ((6 : Int32) = 6) = True by decide, if_true, if_false, g_X11_count_128, hv_0_1, hv_4_2, hc_11, cs3, q_I]
    · have rs2 : ex S (d + 5) 384 [.ref 39, .int 2] (Hh k E (up B 39 0 0) M T) = _ := r_sumOf (S := S) (d := d + 2) (k := k) (E := E) (A := up B 39 0 0) (L := M) (T := T) (w := 2) (by decide) (by rw [u40_39, hB]; exact i4.1) (by rw [u40_39, hB]; exact h24)
      rw [u40_39, hB] at rs2
      refine ⟨_, M, ?_, rfl, Fg_refl, by rw [u40_39, hB]⟩
      simp -implicitDefEqProofs only [x_X12_count, g_X12_count_0, hp_39_0, show ((6 : Int32) = 0) = False by decide, show ((6 : Int32) = 1) = False by decide, show ((6 : Int32) = 2) = False by decide, show ((6 : Int32) = 3) = False by decide, show ((6 : Int32) = 4) = False by decide, show ((6 : Int32) = 5) = False by decide, show ((6 : Int32) = 6) = True by decide, if_true, if_false, g_X12_count_171, hc_39, rs2, q_I]
  by_cases q7 : x = 7
  · subst q7
    refine PK_v (v := some (.int (suW (A 40) 3))) (V := A 40) hR hI1 (fun L => ⟨A, L, ?_, Fr_refl, hR.2.1⟩) (fun B M hB => ?_)
    · simp -implicitDefEqProofs only [x_X11_count, g_X11_count_0, show ((7 : Int32) = 0) = False by decide, show ((7 : Int32) = 1) = False by decide, show ((7 : Int32) = 2) = False by decide, show ((7 : Int32) = 3) = False by decide, show ((7 : Int32) = 4) = False by decide, show ((7 : Int32) = 5) = False by decide, show ((7 : Int32) = 6) = False by decide, show ((7 : Int32) = 7) = True by decide, if_true, if_false, g_X11_count_140, hv_0_1, hv_4_2, hc_11, cs4, q_I]
    · have rs3 : ex S (d + 5) 384 [.ref 39, .int 3] (Hh k E (up B 39 0 0) M T) = _ := r_sumOf (S := S) (d := d + 2) (k := k) (E := E) (A := up B 39 0 0) (L := M) (T := T) (w := 3) (by decide) (by rw [u40_39, hB]; exact i4.1) (by rw [u40_39, hB]; exact h24)
      rw [u40_39, hB] at rs3
      refine ⟨_, M, ?_, rfl, Fg_refl, by rw [u40_39, hB]⟩
      simp -implicitDefEqProofs only [x_X12_count, g_X12_count_0, hp_39_0, show ((7 : Int32) = 0) = False by decide, show ((7 : Int32) = 1) = False by decide, show ((7 : Int32) = 2) = False by decide, show ((7 : Int32) = 3) = False by decide, show ((7 : Int32) = 4) = False by decide, show ((7 : Int32) = 5) = False by decide, show ((7 : Int32) = 6) = False by decide, show ((7 : Int32) = 7) = True by decide, if_true, if_false, g_X12_count_177, hc_39, rs3, q_I]
  by_cases q8 : x = 8
  · subst q8
    refine PK_v (v := some (.int (A 40 2650))) (V := A 40) hR hI1 (fun L => ⟨A, L, ?_, Fr_refl, hR.2.1⟩) (fun B M hB => ?_)
    · simp -implicitDefEqProofs only [x_X11_count, g_X11_count_0, show ((8 : Int32) = 0) = False by decide, show ((8 : Int32) = 1) = False by decide, show ((8 : Int32) = 2) = False by decide, show ((8 : Int32) = 3) = False by decide, show ((8 : Int32) = 4) = False by decide, show ((8 : Int32) = 5) = False by decide, show ((8 : Int32) = 6) = False by decide, show ((8 : Int32) = 7) = False by decide, show ((8 : Int32) = 8) = True by decide, if_true, if_false, g_X11_count_152, hv_0_1, hv_4_0, hg_5_0, lx]
    · refine ⟨_, M, ?_, rfl, Fg_refl, by rw [u40_39, hB]⟩
      simp -implicitDefEqProofs only [x_X12_count, g_X12_count_0, hp_39_0, show ((8 : Int32) = 0) = False by decide, show ((8 : Int32) = 1) = False by decide, show ((8 : Int32) = 2) = False by decide, show ((8 : Int32) = 3) = False by decide, show ((8 : Int32) = 4) = False by decide, show ((8 : Int32) = 5) = False by decide, show ((8 : Int32) = 6) = False by decide, show ((8 : Int32) = 7) = False by decide, show ((8 : Int32) = 8) = True by decide, if_true, if_false, g_X12_count_183, hv_39_1, aw_40_2650, u40_39, hB]
  by_cases q9 : x = 9
  · subst q9
    refine PK_v (v := some (.int (liW (A 40)))) (V := A 40) hR hI1 (fun L => ⟨A, L, ?_, Fr_refl, hR.2.1⟩) (fun B M hB => ?_)
    · simp -implicitDefEqProofs only [x_X11_count, g_X11_count_0, show ((9 : Int32) = 0) = False by decide, show ((9 : Int32) = 1) = False by decide, show ((9 : Int32) = 2) = False by decide, show ((9 : Int32) = 3) = False by decide, show ((9 : Int32) = 4) = False by decide, show ((9 : Int32) = 5) = False by decide, show ((9 : Int32) = 6) = False by decide, show ((9 : Int32) = 7) = False by decide, show ((9 : Int32) = 8) = False by decide, show ((9 : Int32) = 9) = True by decide, if_true, if_false, g_X11_count_163, hv_0_1, hv_4_0, hg_4_7, s7, hc_5, c_lines (Rel_x hR) i10, q_I]
    · obtain ⟨B2, e1, e2⟩ := r_lines (S := S) (d := d) (k := k) (E := E) (A := up B 39 0 0) (L := M) (T := T) (c := c) (by rw [u40_39, hB]; exact hI)
      rw [u40_39, hB] at e1
      refine ⟨B2, M, ?_, rfl, Fo_g e2, by rw [e2.1 40 (by decide) (by decide), u40_39, hB]⟩
      simp -implicitDefEqProofs only [x_X12_count, g_X12_count_0, hp_39_0, show ((9 : Int32) = 0) = False by decide, show ((9 : Int32) = 1) = False by decide, show ((9 : Int32) = 2) = False by decide, show ((9 : Int32) = 3) = False by decide, show ((9 : Int32) = 4) = False by decide, show ((9 : Int32) = 5) = False by decide, show ((9 : Int32) = 6) = False by decide, show ((9 : Int32) = 7) = False by decide, show ((9 : Int32) = 8) = False by decide, show ((9 : Int32) = 9) = True by decide, if_true, if_false, g_X12_count_192, hc_39, e1, q_I]
  by_cases q10 : x = 10
  · subst q10
    refine PK_v (v := some (.int (A 40 1948))) (V := A 40) hR hI1 (fun L => ⟨A, L, ?_, Fr_refl, hR.2.1⟩) (fun B M hB => ?_)
    · simp -implicitDefEqProofs only [x_X11_count, g_X11_count_0, show ((10 : Int32) = 0) = False by decide, show ((10 : Int32) = 1) = False by decide, show ((10 : Int32) = 2) = False by decide, show ((10 : Int32) = 3) = False by decide, show ((10 : Int32) = 4) = False by decide, show ((10 : Int32) = 5) = False by decide, show ((10 : Int32) = 6) = False by decide, show ((10 : Int32) = 7) = False by decide, show ((10 : Int32) = 8) = False by decide, show ((10 : Int32) = 9) = False by decide, show ((10 : Int32) = 10) = True by decide, if_true, if_false, g_X11_count_203, hv_0_1, hv_4_4, hc_22, x_X3_told, g_X3_told_0, g_X3_told_94, q_I, hg_22_8, m8]
    · refine ⟨_, M, ?_, rfl, Fg_refl, by rw [u40_39, hB]⟩
      simp -implicitDefEqProofs only [x_X12_count, g_X12_count_0, hp_39_0, show ((10 : Int32) = 0) = False by decide, show ((10 : Int32) = 1) = False by decide, show ((10 : Int32) = 2) = False by decide, show ((10 : Int32) = 3) = False by decide, show ((10 : Int32) = 4) = False by decide, show ((10 : Int32) = 5) = False by decide, show ((10 : Int32) = 6) = False by decide, show ((10 : Int32) = 7) = False by decide, show ((10 : Int32) = 8) = False by decide, show ((10 : Int32) = 9) = False by decide, show ((10 : Int32) = 10) = True by decide, if_true, if_false, g_X12_count_197, hv_39_1, aw_40_1948, u40_39, hB]
  by_cases q11 : x = 11
  · subst q11
    refine PK_v (v := some (.int (owW (A 40)))) (V := A 40) hR hI1 (fun L => ⟨A, L, ?_, Fr_refl, hR.2.1⟩) (fun B M hB => ?_)
    · simp -implicitDefEqProofs only [x_X11_count, g_X11_count_0, show ((11 : Int32) = 0) = False by decide, show ((11 : Int32) = 1) = False by decide, show ((11 : Int32) = 2) = False by decide, show ((11 : Int32) = 3) = False by decide, show ((11 : Int32) = 4) = False by decide, show ((11 : Int32) = 5) = False by decide, show ((11 : Int32) = 6) = False by decide, show ((11 : Int32) = 7) = False by decide, show ((11 : Int32) = 8) = False by decide, show ((11 : Int32) = 9) = False by decide, show ((11 : Int32) = 10) = False by decide, show ((11 : Int32) = 11) = True by decide, if_true, if_false, g_X11_count_203, hv_0_1, hv_4_4, hc_22, x_X3_told, g_X3_told_0, g_X3_told_99, q_I, hc_22, c_owed (Rel_g hR) i6]
    · have ro := r_owed (S := S) (d := d + 3) (k := k) (E := E) (A := up B 39 0 0) (L := M) (T := T) (by rw [u40_39, hB]; exact i6)
      rw [u40_39, hB] at ro
      refine ⟨_, M, ?_, rfl, Fg_refl, by rw [u40_39, hB]⟩
      simp -implicitDefEqProofs only [x_X12_count, g_X12_count_0, hp_39_0, show ((11 : Int32) = 0) = False by decide, show ((11 : Int32) = 1) = False by decide, show ((11 : Int32) = 2) = False by decide, show ((11 : Int32) = 3) = False by decide, show ((11 : Int32) = 4) = False by decide, show ((11 : Int32) = 5) = False by decide, show ((11 : Int32) = 6) = False by decide, show ((11 : Int32) = 7) = False by decide, show ((11 : Int32) = 8) = False by decide, show ((11 : Int32) = 9) = False by decide, show ((11 : Int32) = 10) = False by decide, show ((11 : Int32) = 11) = True by decide, if_true, if_false, g_X12_count_206, hc_39, ro, q_I]
  by_cases q12 : x = 12
  · subst q12
    refine PK_v (v := some (.int (A 40 5))) (V := A 40) hR hI1 (fun L => ⟨A, L, ?_, Fr_refl, hR.2.1⟩) (fun B M hB => ?_)
    · simp -implicitDefEqProofs only [x_X11_count, g_X11_count_0, show ((12 : Int32) = 0) = False by decide, show ((12 : Int32) = 1) = False by decide, show ((12 : Int32) = 2) = False by decide, show ((12 : Int32) = 3) = False by decide, show ((12 : Int32) = 4) = False by decide, show ((12 : Int32) = 5) = False by decide, show ((12 : Int32) = 6) = False by decide, show ((12 : Int32) = 7) = False by decide, show ((12 : Int32) = 8) = False by decide, show ((12 : Int32) = 9) = False by decide, show ((12 : Int32) = 10) = False by decide, show ((12 : Int32) = 11) = False by decide, show ((12 : Int32) = 12) = True by decide, if_true, if_false, g_X11_count_203, hv_0_1, hv_4_4, hc_22, x_X3_told, g_X3_told_0, g_X3_told_104, q_I, hg_22_5, m5]
    · refine ⟨_, M, ?_, rfl, Fg_refl, by rw [u40_39, hB]⟩
      simp -implicitDefEqProofs only [x_X12_count, g_X12_count_0, hp_39_0, show ((12 : Int32) = 0) = False by decide, show ((12 : Int32) = 1) = False by decide, show ((12 : Int32) = 2) = False by decide, show ((12 : Int32) = 3) = False by decide, show ((12 : Int32) = 4) = False by decide, show ((12 : Int32) = 5) = False by decide, show ((12 : Int32) = 6) = False by decide, show ((12 : Int32) = 7) = False by decide, show ((12 : Int32) = 8) = False by decide, show ((12 : Int32) = 9) = False by decide, show ((12 : Int32) = 10) = False by decide, show ((12 : Int32) = 11) = False by decide, show ((12 : Int32) = 12) = True by decide, if_true, if_false, g_X12_count_211, hv_39_1, aw_40_5, u40_39, hB]
  by_cases q13 : x = 13
  · subst q13
    refine PK_v (v := some (.int (A 40 6))) (V := A 40) hR hI1 (fun L => ⟨A, L, ?_, Fr_refl, hR.2.1⟩) (fun B M hB => ?_)
    · simp -implicitDefEqProofs only [x_X11_count, g_X11_count_0, show ((13 : Int32) = 0) = False by decide, show ((13 : Int32) = 1) = False by decide, show ((13 : Int32) = 2) = False by decide, show ((13 : Int32) = 3) = False by decide, show ((13 : Int32) = 4) = False by decide, show ((13 : Int32) = 5) = False by decide, show ((13 : Int32) = 6) = False by decide, show ((13 : Int32) = 7) = False by decide, show ((13 : Int32) = 8) = False by decide, show ((13 : Int32) = 9) = False by decide, show ((13 : Int32) = 10) = False by decide, show ((13 : Int32) = 11) = False by decide, show ((13 : Int32) = 12) = False by decide, show ((13 : Int32) = 13) = True by decide, if_true, if_false, g_X11_count_203, hv_0_1, hv_4_4, hc_22, x_X3_told, g_X3_told_0, g_X3_told_109, q_I, hg_22_6, m6]
    · refine ⟨_, M, ?_, rfl, Fg_refl, by rw [u40_39, hB]⟩
      simp -implicitDefEqProofs only [x_X12_count, g_X12_count_0, hp_39_0, show ((13 : Int32) = 0) = False by decide, show ((13 : Int32) = 1) = False by decide, show ((13 : Int32) = 2) = False by decide, show ((13 : Int32) = 3) = False by decide, show ((13 : Int32) = 4) = False by decide, show ((13 : Int32) = 5) = False by decide, show ((13 : Int32) = 6) = False by decide, show ((13 : Int32) = 7) = False by decide, show ((13 : Int32) = 8) = False by decide, show ((13 : Int32) = 9) = False by decide, show ((13 : Int32) = 10) = False by decide, show ((13 : Int32) = 11) = False by decide, show ((13 : Int32) = 12) = False by decide, show ((13 : Int32) = 13) = True by decide, if_true, if_false, g_X12_count_218, hv_39_1, aw_40_6, u40_39, hB]
  by_cases q14 : x = 14
  · subst q14
    refine PK_v (v := some (.int (soW (A 40)))) (V := A 40) hR hI1 (fun L => ⟨A, L, ?_, Fr_refl, hR.2.1⟩) (fun B M hB => ?_)
    · simp -implicitDefEqProofs only [x_X11_count, g_X11_count_0, show ((14 : Int32) = 0) = False by decide, show ((14 : Int32) = 1) = False by decide, show ((14 : Int32) = 2) = False by decide, show ((14 : Int32) = 3) = False by decide, show ((14 : Int32) = 4) = False by decide, show ((14 : Int32) = 5) = False by decide, show ((14 : Int32) = 6) = False by decide, show ((14 : Int32) = 7) = False by decide, show ((14 : Int32) = 8) = False by decide, show ((14 : Int32) = 9) = False by decide, show ((14 : Int32) = 10) = False by decide, show ((14 : Int32) = 11) = False by decide, show ((14 : Int32) = 12) = False by decide, show ((14 : Int32) = 13) = False by decide, show ((14 : Int32) = 14) = True by decide, if_true, if_false, g_X11_count_181, hv_0_1, hv_4_1, hc_9, c_soldF (Rel_l hR), q_I]
    · have rg5 := r_soldF (S := S) (d := d + 2) (k := k) (E := E) (A := up B 39 0 0) (L := M) (T := T) 14 99998 (by decide)
      rw [u40_39, hB] at rg5
      refine ⟨_, M, ?_, rfl, Fg_refl, by rw [u40_39, hB]⟩
      simp -implicitDefEqProofs only [x_X12_count, g_X12_count_0, hp_39_0, show ((14 : Int32) = 0) = False by decide, show ((14 : Int32) = 1) = False by decide, show ((14 : Int32) = 2) = False by decide, show ((14 : Int32) = 3) = False by decide, show ((14 : Int32) = 4) = False by decide, show ((14 : Int32) = 5) = False by decide, show ((14 : Int32) = 6) = False by decide, show ((14 : Int32) = 7) = False by decide, show ((14 : Int32) = 8) = False by decide, show ((14 : Int32) = 9) = False by decide, show ((14 : Int32) = 10) = False by decide, show ((14 : Int32) = 11) = False by decide, show ((14 : Int32) = 12) = False by decide, show ((14 : Int32) = 13) = False by decide, show ((14 : Int32) = 14) = True by decide, if_true, if_false, g_X12_count_226, rg5]
  by_cases q15 : x = 15
  · subst q15
    refine PK_v (v := some (.int (A 40 3))) (V := A 40) hR hI1 (fun L => ⟨A, L, ?_, Fr_refl, hR.2.1⟩) (fun B M hB => ?_)
    · simp -implicitDefEqProofs only [x_X11_count, g_X11_count_0, show ((15 : Int32) = 0) = False by decide, show ((15 : Int32) = 1) = False by decide, show ((15 : Int32) = 2) = False by decide, show ((15 : Int32) = 3) = False by decide, show ((15 : Int32) = 4) = False by decide, show ((15 : Int32) = 5) = False by decide, show ((15 : Int32) = 6) = False by decide, show ((15 : Int32) = 7) = False by decide, show ((15 : Int32) = 8) = False by decide, show ((15 : Int32) = 9) = False by decide, show ((15 : Int32) = 10) = False by decide, show ((15 : Int32) = 11) = False by decide, show ((15 : Int32) = 12) = False by decide, show ((15 : Int32) = 13) = False by decide, show ((15 : Int32) = 14) = False by decide, show ((15 : Int32) = 15) = True by decide, if_true, if_false, g_X11_count_203, hv_0_1, hv_4_4, hc_22, x_X3_told, g_X3_told_0, g_X3_told_114, q_I, hg_22_2, m2]
    · refine ⟨_, M, ?_, rfl, Fg_refl, by rw [u40_39, hB]⟩
      simp -implicitDefEqProofs only [x_X12_count, g_X12_count_0, hp_39_0, show ((15 : Int32) = 0) = False by decide, show ((15 : Int32) = 1) = False by decide, show ((15 : Int32) = 2) = False by decide, show ((15 : Int32) = 3) = False by decide, show ((15 : Int32) = 4) = False by decide, show ((15 : Int32) = 5) = False by decide, show ((15 : Int32) = 6) = False by decide, show ((15 : Int32) = 7) = False by decide, show ((15 : Int32) = 8) = False by decide, show ((15 : Int32) = 9) = False by decide, show ((15 : Int32) = 10) = False by decide, show ((15 : Int32) = 11) = False by decide, show ((15 : Int32) = 12) = False by decide, show ((15 : Int32) = 13) = False by decide, show ((15 : Int32) = 14) = False by decide, show ((15 : Int32) = 15) = True by decide, if_true, if_false, g_X12_count_252, hv_39_1, aw_40_3, u40_39, hB]
  by_cases q16 : x = 16
  · subst q16
    refine PK_v (v := some (.int (A 40 4))) (V := A 40) hR hI1 (fun L => ⟨A, L, ?_, Fr_refl, hR.2.1⟩) (fun B M hB => ?_)
    · simp -implicitDefEqProofs only [x_X11_count, g_X11_count_0, show ((16 : Int32) = 0) = False by decide, show ((16 : Int32) = 1) = False by decide, show ((16 : Int32) = 2) = False by decide, show ((16 : Int32) = 3) = False by decide, show ((16 : Int32) = 4) = False by decide, show ((16 : Int32) = 5) = False by decide, show ((16 : Int32) = 6) = False by decide, show ((16 : Int32) = 7) = False by decide, show ((16 : Int32) = 8) = False by decide, show ((16 : Int32) = 9) = False by decide, show ((16 : Int32) = 10) = False by decide, show ((16 : Int32) = 11) = False by decide, show ((16 : Int32) = 12) = False by decide, show ((16 : Int32) = 13) = False by decide, show ((16 : Int32) = 14) = False by decide, show ((16 : Int32) = 15) = False by decide, show ((16 : Int32) = 16) = True by decide, if_true, if_false, g_X11_count_203, hv_0_1, hv_4_4, hc_22, x_X3_told, g_X3_told_0, g_X3_told_119, q_I, hg_22_3, m3]
    · refine ⟨_, M, ?_, rfl, Fg_refl, by rw [u40_39, hB]⟩
      simp -implicitDefEqProofs only [x_X12_count, g_X12_count_0, hp_39_0, show ((16 : Int32) = 0) = False by decide, show ((16 : Int32) = 1) = False by decide, show ((16 : Int32) = 2) = False by decide, show ((16 : Int32) = 3) = False by decide, show ((16 : Int32) = 4) = False by decide, show ((16 : Int32) = 5) = False by decide, show ((16 : Int32) = 6) = False by decide, show ((16 : Int32) = 7) = False by decide, show ((16 : Int32) = 8) = False by decide, show ((16 : Int32) = 9) = False by decide, show ((16 : Int32) = 10) = False by decide, show ((16 : Int32) = 11) = False by decide, show ((16 : Int32) = 12) = False by decide, show ((16 : Int32) = 13) = False by decide, show ((16 : Int32) = 14) = False by decide, show ((16 : Int32) = 15) = False by decide, show ((16 : Int32) = 16) = True by decide, if_true, if_false, g_X12_count_259, hv_39_1, aw_40_4, u40_39, hB]
  by_cases q17 : x = 17
  · subst q17
    refine PK_v (v := some (.int (A 40 2265))) (V := A 40) hR hI1 (fun L => ⟨A, L, ?_, Fr_refl, hR.2.1⟩) (fun B M hB => ?_)
    · simp -implicitDefEqProofs only [x_X11_count, g_X11_count_0, show ((17 : Int32) = 0) = False by decide, show ((17 : Int32) = 1) = False by decide, show ((17 : Int32) = 2) = False by decide, show ((17 : Int32) = 3) = False by decide, show ((17 : Int32) = 4) = False by decide, show ((17 : Int32) = 5) = False by decide, show ((17 : Int32) = 6) = False by decide, show ((17 : Int32) = 7) = False by decide, show ((17 : Int32) = 8) = False by decide, show ((17 : Int32) = 9) = False by decide, show ((17 : Int32) = 10) = False by decide, show ((17 : Int32) = 11) = False by decide, show ((17 : Int32) = 12) = False by decide, show ((17 : Int32) = 13) = False by decide, show ((17 : Int32) = 14) = False by decide, show ((17 : Int32) = 15) = False by decide, show ((17 : Int32) = 16) = False by decide, show ((17 : Int32) = 17) = True by decide, if_true, if_false, g_X11_count_192, hv_0_1, hv_4_6, hg_33_0, lr]
    · refine ⟨_, M, ?_, rfl, Fg_refl, by rw [u40_39, hB]⟩
      simp -implicitDefEqProofs only [x_X12_count, g_X12_count_0, hp_39_0, show ((17 : Int32) = 0) = False by decide, show ((17 : Int32) = 1) = False by decide, show ((17 : Int32) = 2) = False by decide, show ((17 : Int32) = 3) = False by decide, show ((17 : Int32) = 4) = False by decide, show ((17 : Int32) = 5) = False by decide, show ((17 : Int32) = 6) = False by decide, show ((17 : Int32) = 7) = False by decide, show ((17 : Int32) = 8) = False by decide, show ((17 : Int32) = 9) = False by decide, show ((17 : Int32) = 10) = False by decide, show ((17 : Int32) = 11) = False by decide, show ((17 : Int32) = 12) = False by decide, show ((17 : Int32) = 13) = False by decide, show ((17 : Int32) = 14) = False by decide, show ((17 : Int32) = 15) = False by decide, show ((17 : Int32) = 16) = False by decide, show ((17 : Int32) = 17) = True by decide, if_true, if_false, g_X12_count_266, hv_39_1, aw_40_2265, u40_39, hB]
  by_cases q18 : x = 18
  · subst q18
    refine PK_v (v := some (.int (A 40 7))) (V := A 40) hR hI1 (fun L => ⟨A, L, ?_, Fr_refl, hR.2.1⟩) (fun B M hB => ?_)
    · simp -implicitDefEqProofs only [x_X11_count, g_X11_count_0, show ((18 : Int32) = 0) = False by decide, show ((18 : Int32) = 1) = False by decide, show ((18 : Int32) = 2) = False by decide, show ((18 : Int32) = 3) = False by decide, show ((18 : Int32) = 4) = False by decide, show ((18 : Int32) = 5) = False by decide, show ((18 : Int32) = 6) = False by decide, show ((18 : Int32) = 7) = False by decide, show ((18 : Int32) = 8) = False by decide, show ((18 : Int32) = 9) = False by decide, show ((18 : Int32) = 10) = False by decide, show ((18 : Int32) = 11) = False by decide, show ((18 : Int32) = 12) = False by decide, show ((18 : Int32) = 13) = False by decide, show ((18 : Int32) = 14) = False by decide, show ((18 : Int32) = 15) = False by decide, show ((18 : Int32) = 16) = False by decide, show ((18 : Int32) = 17) = False by decide, show ((18 : Int32) = 18) = True by decide, if_true, if_false, g_X11_count_203, hv_0_1, hv_4_4, hc_22, x_X3_told, g_X3_told_0, g_X3_told_124, q_I, hg_22_4, m4]
    · refine ⟨_, M, ?_, rfl, Fg_refl, by rw [u40_39, hB]⟩
      simp -implicitDefEqProofs only [x_X12_count, g_X12_count_0, hp_39_0, show ((18 : Int32) = 0) = False by decide, show ((18 : Int32) = 1) = False by decide, show ((18 : Int32) = 2) = False by decide, show ((18 : Int32) = 3) = False by decide, show ((18 : Int32) = 4) = False by decide, show ((18 : Int32) = 5) = False by decide, show ((18 : Int32) = 6) = False by decide, show ((18 : Int32) = 7) = False by decide, show ((18 : Int32) = 8) = False by decide, show ((18 : Int32) = 9) = False by decide, show ((18 : Int32) = 10) = False by decide, show ((18 : Int32) = 11) = False by decide, show ((18 : Int32) = 12) = False by decide, show ((18 : Int32) = 13) = False by decide, show ((18 : Int32) = 14) = False by decide, show ((18 : Int32) = 15) = False by decide, show ((18 : Int32) = 16) = False by decide, show ((18 : Int32) = 17) = False by decide, show ((18 : Int32) = 18) = True by decide, if_true, if_false, g_X12_count_275, hv_39_1, aw_40_7, u40_39, hB]
  refine PK_v (v := some (.int (-1))) (V := A 40) hR hI1 (fun L => ⟨A, L, ?_, Fr_refl, hR.2.1⟩) (fun B M hB => ?_)
  · simp -implicitDefEqProofs only [x_X11_count, g_X11_count_0, if_neg q0, if_neg q1, if_neg q2, if_neg q3, if_neg q4, if_neg q5, if_neg q6, if_neg q7, if_neg q8, if_neg q9, if_neg q10, if_neg q11, if_neg q12, if_neg q13, if_neg q14, if_neg q15, if_neg q16, if_neg q17, if_neg q18, g_X11_count_203, hv_0_1, hv_4_4, hc_22, x_X3_told, g_X3_told_0, g_X3_told_129, q_I]
  · refine ⟨_, M, ?_, rfl, Fg_refl, by rw [u40_39, hB]⟩
    simp -implicitDefEqProofs only [x_X12_count, g_X12_count_0, hp_39_0, if_neg q0, if_neg q1, if_neg q2, if_neg q3, if_neg q4, if_neg q5, if_neg q6, if_neg q7, if_neg q8, if_neg q9, if_neg q10, if_neg q11, if_neg q12, if_neg q13, if_neg q14, if_neg q15, if_neg q16, if_neg q17, if_neg q18, g_X12_count_283]
end CountB
