/-! strings; the dictionary -/
section StrB
variable {S : sT} {d c : Nat} {k : Value} {E : List dsc} {A : fA} {L : fL} {T : fT} {W : fW}
theorem chr_ok : ∀ c : Fin 128, ((nI c.1 &&& 255).toUInt32 % 65536).toInt32 = nI c.1 ∧ narrow .char (.int (nI c.1)) = .int (nI c.1) := by decide
theorem cod_ok : ∀ j : Fin 43, sIn (100 + j.1) = true ∧ (100 + j.1) - 100 = j.1 := by decide
set_option maxRecDepth 100000 in
theorem byt_ok : ∀ j : Fin 43, (strByt.getD j.1 []).length = strLen.getD j.1 0 ∧ (strByt.getD j.1 []).all (fun b => decide (b = nI b.toNatClampNeg) && decide (b.toNatClampNeg < 128)) = true := by decide
theorem strN : strT.length = 43 := by decide
theorem nar_b : narrow .byte (.int 0) = .int 0 := by decide
theorem s_cod {j : Nat} {h : pH} (hj : j < 43) : ex S (d + 1) 57 [.retAddr (100 + j)] h = some (.inl (some (.int 0)), h) := by
  have h1 := (cod_ok ⟨j, hj⟩).1
  rw [x_J0_coder_7d493, g_J0_coder_7d493_0, if_neg (by decide), q_iS]
  simp -implicitDefEqProofs only [sCod, h1, cond_true, nR, nar_b, if_true]
theorem s_lat {j : Nat} {h : pH} (hj : j < 43) : ex S (d + 1) 59 [.retAddr (100 + j)] h = some (.inl (some (.int 1)), h) := by
  have h1 := (cod_ok ⟨j, hj⟩).1
  rw [x_J0_isLatin1_aae02, g_J0_isLatin1_aae02_0, if_neg (by decide), q_iS]
  simp -implicitDefEqProofs only [sCod, h1, cond_true, if_true, q_z1]
theorem s_len {j : Nat} {h : pH} (hj : j < 43) : ex S (d + 2) 58 [.retAddr (100 + j)] h = some (.inl (some (.int (nI (strLen.getD j 0)))), h) := by
  obtain ⟨h1, h2⟩ := cod_ok ⟨j, hj⟩
  have h3 : (10000 ≤ 10000 + j ∧ 10000 + j - 10000 < strT.length) := ⟨by omega, by rw [strN]; omega⟩
  have h4 : 10000 + j - 10000 = j := by omega
  have h0 : ∀ x : Int32, x >>> ((0 : Int32) &&& 31) = x := fun x => by rw [show ((0 : Int32) &&& 31) = 0 by decide]; exact Int32.shiftRight_zero
  rw [x_J0_length_8abf5, g_J0_length_8abf5_0, q_iS]
  have hjl : j < strT.length := by rw [strN]; exact hj
  simp -implicitDefEqProofs only [sVal, h1, cond_true, h2, sLen, h3, if_true, h4, q_iS, rS0, s_cod hj, q_Ix, h0, and_self, hjl]
  try rw [q_iS]
theorem s_chr {j i : Nat} {h : pH} (hj : j < 43) (hi : i < strLen.getD j 0) : ex S (d + 3) 62 [.retAddr (100 + j), .int (nI i)] h = some (.inl (some (.int ((strByt.getD j []).getD i 0))), h) := by
  obtain ⟨h1, h2⟩ := cod_ok ⟨j, hj⟩
  obtain ⟨b1, b2⟩ := byt_ok ⟨j, hj⟩
  simp only at h2 b1 b2
  have hl : strLen.getD j 0 ≤ 193 := (show ∀ j : Fin 43, strLen.getD j.1 0 ≤ 193 by decide) ⟨j, hj⟩
  have h3 : (10000 ≤ 10000 + j ∧ 10000 + j - 10000 < strT.length) := ⟨by omega, by rw [strN]; omega⟩
  have h4 : 10000 + j - 10000 = j := by omega
  have hb : ∃ c, c < 128 ∧ (strByt.getD j []).getD i 0 = nI c := by
    rw [List.all_eq_true] at b2
    have hg : ∀ bs : List Int32, i < bs.length → bs.getD i 0 ∈ bs := by
      intro bs hb
      rw [List.getD_eq_getElem?_getD, List.getElem?_eq_getElem hb]
      exact List.getElem_mem _
    have hm := hg (strByt.getD j []) (by rw [b1]; exact hi)
    have := b2 _ hm
    simp -implicitDefEqProofs only [Bool.and_eq_true, decide_eq_true_eq] at this
    exact ⟨_, this.2, this.1⟩
  obtain ⟨c, hc, ec⟩ := hb
  obtain ⟨c1, c2⟩ := chr_ok ⟨c, hc⟩
  simp only at c1 c2
  have hk : ex S (d + 1) 60 [.int (nI i), .int (nI (strLen.getD j 0))] h = some (.inl none, h) := by
    rw [x_J0_checkIndex_df160, g_J0_checkIndex_df160_0]
    unfold ckI
    rw [if_neg (fun q => q.elim (nI_pos (by omega)) (nI_ge hi (by omega)))]
  have h5 : ¬ (nI i < 0 ∨ strLen.getD j 0 ≤ (nI i).toNatClampNeg) := by
    rw [nI_clamp (by omega)]
    exact fun q => q.elim (nI_pos (by omega)) (by omega)
  have hc1 : ex S (d + 2) 61 [.retAddr (10000 + j), .int (nI i)] h = some (.inl (some (.int (nI c))), h) := by
    rw [x_J1_charAt_3b067, g_J1_charAt_3b067_0, q_iS]
    have hjl : j < strT.length := by rw [strN]; exact hj
    have h6 : ¬ (nI i < 0 ∨ strLen.getD j 0 ≤ i) := by rw [nI_clamp (by omega)] at h5; exact h5
    simp -implicitDefEqProofs only [sLen, h3, if_true, h4, and_self, hk, q_U, q_iS, sByt, nI_clamp (show i < 2 ^ 31 by omega), ec, c1, nR, c2, hjl, true_and, if_pos h6]
    try rw [q_iS]
  rw [ec, x_J0_charAt_5068e, g_J0_charAt_5068e_0, q_iS]
  simp -implicitDefEqProofs only [rS0, h1, cond_true, s_lat hj, q_Ix, i1_0, if_false, q_iS, sVal, h2, hc1, q_I, nR, c2, if_true]
/-- the dictionary's words -/
def DW : List (List Int32) := [[121, 101, 97, 114], [119, 104, 101, 97, 116], [98, 97, 114, 108, 101, 121], [116, 117, 114, 110, 105, 112, 115], [103, 114, 97, 115, 115], [97, 103, 101], [119, 111, 114, 110], [119, 101, 116], [115, 111, 105, 108], [99, 111, 105, 110], [97, 114, 114, 101, 97, 114, 115], [102, 97, 108, 108, 111, 119], [108, 105, 109, 101], [100, 114, 97, 105, 110], [119, 111, 111, 100], [109, 105, 110, 101], [108, 97, 110, 100], [121, 101, 97, 114, 115], [102, 101, 108, 108], [98, 111, 114, 114, 111, 119], [115, 101, 108, 108], [112, 97, 114, 116], [99, 104, 97, 114, 103, 101], [115, 116, 114, 105, 107, 101], [114, 101, 110, 116], [99, 111, 114, 110], [98, 97, 114], [111, 119, 101], [119, 97, 115, 116, 101], [112, 117, 116], [103, 97, 109, 101], [105, 102], [111, 102], [97, 102, 116, 101, 114], [97, 110, 100], [111, 114], [110, 111, 116]]
set_option maxRecDepth 100000 in
theorem dict_eq : (strByt.getD 2 []) ++ [32] = DW.flatMap (fun w => w ++ [32]) := by decide
theorem DW_len : DW.length = 37 := by decide
set_option maxRecDepth 100000 in
theorem DW_nd : ∀ i : Fin 37, ∀ j : Fin 37, DW.getD i.1 [] = DW.getD j.1 [] → i = j := by decide
theorem DW_ok : DW.all (fun w => w.all (fun b => decide (¬ b = 32)) && decide (w.length ≤ 7) && decide (0 < w.length)) = true := by decide
/-- these bytes stand from a place on -/
def mt (t : Nat → Int32) : List Int32 → Nat → Bool
  | [], _ => true
  | b :: r, i => decide (t i = b) && mt t r (i + 1)
def isWd (t : Nat → Int32) (s e : Nat) (w : List Int32) : Bool := decide (e = s + w.length) && mt t w s
def wdN (t : Nat → Int32) (s e : Nat) : List (List Int32) → Nat → Int32
  | [], _ => -1
  | w :: r, j => if isWd t s e w = true then nI j else wdN t s e r (j + 1)
def wdx (t : Nat → Int32) (s e : Nat) : Int32 := wdN t s e DW 0
theorem mt_eq {t : Nat → Int32} {w v : List Int32} {s : Nat} (hl : w.length = v.length) (h1 : mt t w s = true) (h2 : mt t v s = true) : w = v := by
  induction w generalizing v s with
  | nil => cases v with
    | nil => rfl
    | cons b r => cases hl
  | cons a w ih => cases v with
    | nil => cases hl
    | cons b r =>
      unfold mt at h1 h2
      simp -implicitDefEqProofs only [Bool.and_eq_true, decide_eq_true_eq] at h1 h2
      rw [ih (by simpa using hl) h1.2 h2.2, ← h1.1, ← h2.1]
theorem isWd_eq {t : Nat → Int32} {s e : Nat} {w v : List Int32} (h1 : isWd t s e w = true) (h2 : isWd t s e v = true) : w = v := by
  unfold isWd at h1 h2
  simp -implicitDefEqProofs only [Bool.and_eq_true, decide_eq_true_eq] at h1 h2
  exact mt_eq (by omega) h1.2 h2.2
theorem wdN_c {t : Nat → Int32} {s e : Nat} (l : List (List Int32)) (j : Nat) : (wdN t s e l j = -1 ∧ ∀ i, i < l.length → isWd t s e (l.getD i []) = false) ∨ ∃ i, i < l.length ∧ wdN t s e l j = nI (j + i) ∧ isWd t s e (l.getD i []) = true := by
  induction l generalizing j with
  | nil => exact Or.inl ⟨rfl, fun i hi => by simp at hi⟩
  | cons w r ih =>
    unfold wdN
    by_cases q : isWd t s e w = true
    · rw [if_pos q]
      exact Or.inr ⟨0, by simp, rfl, q⟩
    · rw [if_neg q]
      rcases ih (j + 1) with ⟨h1, h2⟩ | ⟨i, h1, h2, h3⟩
      · refine Or.inl ⟨h1, fun i hi => ?_⟩
        cases i with
        | zero => simpa using q
        | succ i => exact h2 i (by simpa using hi)
      · exact Or.inr ⟨i + 1, by simpa using h1, by rw [h2]; congr 1; omega, h3⟩
theorem wd_iff {t : Nat → Int32} {s e j : Nat} (hj : j < 37) : wdx t s e = nI j ↔ isWd t s e (DW.getD j []) = true := by
  unfold wdx
  rcases wdN_c (t := t) (s := s) (e := e) DW 0 with ⟨h1, h2⟩ | ⟨i, h1, h2, h3⟩
  · rw [h1]
    constructor
    · intro q; exact absurd q.symm (nI_m1 (by omega))
    · intro q; rw [h2 j (by rw [DW_len]; exact hj)] at q; cases q
  · rw [DW_len] at h1
    rw [h2, Nat.zero_add]
    constructor
    · intro q
      have : i = j := (nI_eq (by omega) (by omega)).mp q
      subst this; exact h3
    · intro q
      have := DW_nd ⟨i, h1⟩ ⟨j, hj⟩ (isWd_eq h3 q)
      rw [show i = j from congrArg Fin.val this]
theorem wd_rg {t : Nat → Int32} {s e : Nat} : wdx t s e = -1 ∨ ∃ j, j < 37 ∧ wdx t s e = nI j := by
  unfold wdx
  rcases wdN_c (t := t) (s := s) (e := e) DW 0 with ⟨h1, -⟩ | ⟨i, h1, h2, -⟩
  · exact Or.inl h1
  · rw [DW_len] at h1; exact Or.inr ⟨i, h1, by rw [h2, Nat.zero_add]⟩
/-- the class's search through the dictionary -/
def wf (t : Nat → Int32) (s e : Nat) : List Int32 → Nat → Nat → Bool → Int32
  | [], _, _, _ => -1
  | b :: r, w, i, same => if b = 32 then (if same = true ∧ i = e then nI w else wf t s e r (w + 1) s true) else (if same = true ∧ i < e ∧ t i = b then wf t s e r w (i + 1) true else wf t s e r w i false)
theorem wf_f {t : Nat → Int32} {s e : Nat} (v r : List Int32) (w i : Nat) (hv : v.all (fun b => decide (¬ b = 32)) = true) : wf t s e (v ++ 32 :: r) w i false = wf t s e r (w + 1) s true := by
  induction v with
  | nil => show (if (32 : Int32) = 32 then _ else _) = _; rw [if_pos rfl, if_neg (fun q => by cases q.1)]
  | cons b v ih =>
    simp -implicitDefEqProofs only [List.all_cons, Bool.and_eq_true, decide_eq_true_eq] at hv
    show (if b = 32 then _ else _) = _
    rw [if_neg hv.1, if_neg (fun q => by cases q.1)]
    exact ih hv.2
theorem wf_t {t : Nat → Int32} {s e : Nat} (v r : List Int32) (w i : Nat) (hv : v.all (fun b => decide (¬ b = 32)) = true) (hi : i ≤ e) : wf t s e (v ++ 32 :: r) w i true = if (decide (e = i + v.length) && mt t v i) = true then nI w else wf t s e r (w + 1) s true := by
  induction v generalizing i with
  | nil =>
    show (if (32 : Int32) = 32 then _ else _) = _
    rw [if_pos rfl]
    by_cases q : i = e
    · rw [if_pos ⟨rfl, q⟩, if_pos (by simp [mt, q])]
    · rw [if_neg (fun z => q z.2), if_neg (fun z => q (by simp [mt] at z; omega))]
  | cons b v ih =>
    simp -implicitDefEqProofs only [List.all_cons, Bool.and_eq_true, decide_eq_true_eq] at hv
    show (if b = 32 then _ else _) = _
    rw [if_neg hv.1]
    by_cases q : i < e ∧ t i = b
    · rw [if_pos ⟨rfl, q⟩]
      have := ih (i + 1) (by simpa using hv.2) (by omega)
      show wf t s e (v ++ 32 :: r) w (i + 1) true = _
      rw [this]
      have e1 : (decide (e = i + 1 + v.length) && mt t v (i + 1)) = (decide (e = i + (b :: v).length) && mt t (b :: v) i) := by
        show _ = (decide (e = i + (v.length + 1)) && (decide (t i = b) && mt t v (i + 1)))
        rw [show i + 1 + v.length = i + (v.length + 1) by omega]
        simp [q.2]
      rw [e1]
    · rw [if_neg (fun z => q z.2)]
      have := wf_f (t := t) (s := s) (e := e) v r w i (by simpa using hv.2)
      show wf t s e (v ++ 32 :: r) w i false = _
      rw [this, if_neg]
      intro z
      simp -implicitDefEqProofs only [Bool.and_eq_true, decide_eq_true_eq, mt, List.length_cons] at z
      exact q ⟨by omega, z.2.1⟩
theorem wf_all {t : Nat → Int32} {s e : Nat} (hs : s ≤ e) (l : List (List Int32)) (w : Nat) (hl : l.all (fun v => v.all (fun b => decide (¬ b = 32))) = true) : wf t s e (l.flatMap (fun v => v ++ [32])) w s true = wdN t s e l w := by
  induction l generalizing w with
  | nil => rfl
  | cons v l ih =>
    rw [List.all_cons, Bool.and_eq_true] at hl
    rw [List.flatMap_cons, List.append_assoc, List.singleton_append, wf_t v _ w s hl.1 hs, ih (w + 1) hl.2]
    rfl
theorem wf_dict {t : Nat → Int32} {s e : Nat} (hs : s ≤ e) : wf t s e ((strByt.getD 2 []) ++ [32]) 0 s true = wdx t s e := by
  rw [dict_eq]
  refine wf_all hs DW 0 ?_
  have := DW_ok
  rw [List.all_eq_true] at this ⊢
  intro v hv
  have := this v hv
  simp -implicitDefEqProofs only [Bool.and_eq_true] at this
  exact this.1.1
end StrB
