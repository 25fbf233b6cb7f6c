/-! what the words are depends on the texts and the season alone -/
section CongrW
variable {V W : fW}
/-- alike in the season and in the texts -/
def sT0 (V W : fW) : Prop := V 0 = W 0 ∧ ∀ i, 2650 ≤ i → V i = W i
theorem sT_at (h : sT0 V W) {t j : Nat} : V (tx t + j) = W (tx t + j) := h.2 _ (by unfold tx; omega)
theorem sT_t (h : sT0 V W) {t : Nat} : V (tx t) = W (tx t) := h.2 _ (by unfold tx; omega)
theorem FW_c (h : sT0 V W) : FW V = FW W := by
  unfold FW
  rw [xn_c (h.2 2650 (by omega)), srt_c (fun t _ => sT_t h)]
  have : pf V = pf W := by funext t; unfold pf; rw [h.1, sT_t h]
  rw [this]
theorem fl_c (h : sT0 V W) : fl V = fl W := by funext i; unfold fl; rw [FW_c h]
theorem lnT_c (h : sT0 V W) : lnT V = lnT W := by funext t; unfold lnT; rw [sT_at h]
theorem ml_c (h : sT0 V W) : ml V = ml W := by
  funext t s th n; unfold ml; rw [show V (tx t + 2 + 6 * n) = W (tx t + 2 + 6 * n) from h.2 _ (by unfold tx; omega), h.2 _ (by unfold tx; omega)]
theorem lsT_c (h : sT0 V W) : lsT V = lsT W := by funext t s th; unfold lsT; rw [ml_c h, lnT_c h]
theorem stN_c (h : sT0 V W) (t : Nat) (s : Int32) (n : Nat) : stN V t s n = stN W t s n := by
  induction n with
  | zero => rfl
  | succ n ih =>
    show (stN V t s n || (decide (V (tx t + 2 + 6 * n) = 16) && decide (V (tx t + 2 + 6 * n + 2) = s))) = (stN W t s n || (decide (W (tx t + 2 + 6 * n) = 16) && decide (W (tx t + 2 + 6 * n + 2) = s)))
    rw [ih, show V (tx t + 2 + 6 * n) = W (tx t + 2 + 6 * n) from h.2 _ (by unfold tx; omega), show V (tx t + 2 + 6 * n + 2) = W (tx t + 2 + 6 * n + 2) from h.2 _ (by unfold tx; omega)]
theorem stT_c (h : sT0 V W) : stT V = stT W := by funext t s; unfold stT; rw [stN_c h, lnT_c h]
theorem cl_cg (h : sT0 V W) (s th : Int32) (j : Nat) : cl V s th j = cl W s th j := by
  induction j with
  | zero => rfl
  | succ j ih =>
    show (if ¬ lsT V (fl V j) s th = -1 then 16 * nI (fl V j) + lsT V (fl V j) s th else if stT V (fl V j) s = true then -1 else cl V s th j) = (if ¬ lsT W (fl W j) s th = -1 then 16 * nI (fl W j) + lsT W (fl W j) s th else if stT W (fl W j) s = true then -1 else cl W s th j)
    rw [ih, lsT_c h, fl_c h, stT_c h]
theorem llW_c (h : sT0 V W) (s th : Int32) : llW V s th = llW W s th := by unfold llW; rw [cl_cg h, FW_c h]
theorem numW_c (h : sT0 V W) (x : Int32) : numW V x = numW W x := by
  unfold numW; rw [h.2 _ (by unfold tx; omega)]
theorem partW_c (h : sT0 V W) (th : Int32) : partW V th = partW W th := by unfold partW; rw [llW_c h, numW_c h]
theorem cmQ_cg (h : sT0 V W) (th x : Int32) : cmQ V th x = cmQ W th x := by unfold cmQ; rw [partW_c h]
theorem lkN_c (h : sT0 V W) (s : Int32) (j : Nat) : lkN V s j = lkN W s j := by
  induction j with
  | zero => rfl
  | succ j ih =>
    show (if 0 < j ∧ stT V (fl V j) s = true then j else lkN V s j) = (if 0 < j ∧ stT W (fl W j) s = true then j else lkN W s j)
    rw [ih, fl_c h, stT_c h]
theorem hlW_c (h : sT0 V W) (t n : Nat) (Fc : Nat → Int64) : hlW V (tx t) n Fc = hlW W (tx t) n Fc := by
  have e : cds V (tx t) = cds W (tx t) := by
    funext i; unfold cds; rw [show V (tx t + 98 + 2 * i) = W (tx t + 98 + 2 * i) from h.2 _ (by unfold tx; omega), show V (tx t + 98 + 2 * i + 1) = W (tx t + 98 + 2 * i + 1) from h.2 _ (by unfold tx; omega)]
  unfold hlW
  rw [e, show V (tx t + 2 + 6 * n + 4) = W (tx t + 2 + 6 * n + 4) from h.2 _ (by unfold tx; omega), show V (tx t + 2 + 6 * n + 5) = W (tx t + 2 + 6 * n + 5) from h.2 _ (by unfold tx; omega)]
theorem hm_c (h : sT0 V W) (t : Nat) : hm V (tx t) = hm W (tx t) := by
  funext s Fc n; unfold hm; rw [hlW_c h, show V (tx t + 2 + 6 * n) = W (tx t + 2 + 6 * n) from h.2 _ (by unfold tx; omega)]
theorem shB_c (h : sT0 V W) (t : Nat) : shB V (tx t) = shB W (tx t) := by
  funext s Fc n; unfold shB; rw [hm_c h, show V (tx t + 2 + 6 * n + 1) = W (tx t + 2 + 6 * n + 1) from h.2 _ (by unfold tx; omega)]
theorem shT_c (h : sT0 V W) : shT V = shT W := by funext t s Fc; unfold shT; rw [shB_c h, lnT_c h]
theorem knF_c {x y z : Int32} {n : Nat} (hn : n ≤ 200) (e : ∀ i, 882 ≤ i → i < 1683 → V i = W i) : knF V x y z n = knF W x y z n := by
  induction n with
  | zero => rfl
  | succ n ih =>
    unfold knF
    rw [ih (by omega), e (883 + 4 * n) (by omega) (by omega), e (883 + 4 * n + 1) (by omega) (by omega), e (883 + 4 * n + 2) (by omega) (by omega), e (883 + 4 * n + 3) (by omega) (by omega)]
theorem prW_c (hp : pn W ≤ 200) (e0 : V 0 = W 0) (e : ∀ i, 882 ≤ i → i < 1683 → V i = W i) : prW V = prW W := by
  funext x; unfold prW; rw [e0, pn_c (e 882 (by omega) (by omega)), knF_c hp e]
theorem fc0_c (hp : pn W ≤ 200) (e0 : V 0 = W 0) (e : ∀ i, 882 ≤ i → i < 1683 → V i = W i) : fc0 V = fc0 W := by
  funext x y j; unfold fc0; rw [e0, prW_c hp e0 e]
/-- what comes of a thing, and another cell -/
theorem com_upd {th x y : Int32} {i : Nat} (h0 : i ≠ 0) (h1 : i ≠ 1) (h2 : i ≠ 2) (hi : i < 2650) : comW (upd W i y) th x = upd (comW W th x) i y := by
  have hs : sT0 (upd W i y) W := ⟨upd_o (by omega), fun j hj => upd_o (by omega)⟩
  unfold comW
  rw [cmQ_cg hs, upd_o (show (2 : Nat) ≠ i by omega), upd_o (show (1 : Nat) ≠ i by omega), upd_cm (show i ≠ 2 by omega), upd_cm (show i ≠ 1 by omega)]
theorem err_com {kd x th y : Int32} {m : Nat} (hm : W 6 = nI m) (h31 : m < 2 ^ 31) : comW (errW W kd x) th y = errW (comW W th y) kd x := by
  have hs : sT0 (errW W kd x) W := ⟨err_o hm h31 (by omega) (by omega), fun j hj => err_o hm h31 (by omega) (by omega)⟩
  unfold comW
  rw [cmQ_cg hs, err_o hm h31 (by omega) (by omega), err_o hm h31 (by omega) (by omega), err_upd (by rw [upd_o (by omega)]; exact hm) h31 (by omega) (by omega) (by omega) (by omega), err_upd hm h31 (by omega) (by omega) (by omega) (by omega)]
end CongrW
