/-! THE PURE MACHINE IS RIGHT: what its function tells, the machine does -/
section SoundA
variable {z : rS × pH}
theorem i1_x {st : List Value} {κ : Int32 → List Value → rO} (H : i1 st κ = some z) : ∃ x s, st = .int x :: s ∧ κ x s = some z := by
  unfold i1 at H; split at H
  · exact ⟨_, _, rfl, H⟩
  · cases H
theorem i2_x {st : List Value} {κ : Int32 → Int32 → List Value → rO} (H : i2 st κ = some z) : ∃ x y s, st = .int y :: .int x :: s ∧ κ x y s = some z := by
  unfold i2 at H; split at H
  · exact ⟨_, _, _, rfl, H⟩
  · cases H
theorem j1_x {st : List Value} {κ : Int64 → List Value → rO} (H : j1 st κ = some z) : ∃ x s, st = .long x :: s ∧ κ x s = some z := by
  unfold j1 at H; split at H
  · exact ⟨_, _, rfl, H⟩
  · cases H
theorem j2_x {st : List Value} {κ : Int64 → Int64 → List Value → rO} (H : j2 st κ = some z) : ∃ x y s, st = .long y :: .long x :: s ∧ κ x y s = some z := by
  unfold j2 at H; split at H
  · exact ⟨_, _, _, rfl, H⟩
  · cases H
theorem a1_x {st : List Value} {κ : Value → List Value → rO} (H : a1 st κ = some z) : ∃ v s, st = v :: s ∧ κ v s = some z := by
  unfold a1 at H; split at H
  · exact ⟨_, _, rfl, H⟩
  · cases H
theorem z0_x {st : List Value} {κ : rO} (H : z0 st κ = some z) : st = [] ∧ κ = some z := by
  unfold z0 at H; split at H
  · exact ⟨rfl, H⟩
  · cases H
theorem nl_x {v : Value} {κ : rO} (H : nl v κ = some z) : v.category = 1 ∧ κ = some z := by
  unfold nl at H; split at H
  · cases H
  · cases H
  · rename_i h1 h2
    exact ⟨by cases v <;> first | rfl | exact absurd rfl (h1 _) | exact absurd rfl (h2 _), H⟩
theorem iA_x {v : Value} {κ : rO} (H : iA v κ = some z) : isRv v = true ∧ κ = some z := by
  cases v <;> first | exact ⟨rfl, H⟩ | cases H
theorem nth_x : ∀ {l : pL} {i : Nat} {v : Value}, nth l i = some v → l[i]? = some (some v)
  | [], _, _, h => by cases h
  | x :: l, 0, v, h => by simp only [nth] at h; simp [h]
  | x :: l, n + 1, v, h => by simp only [nth] at h; simp [nth_x h]
theorem nth_n : ∀ {l : pL} {i : Nat} {v : Value}, l[i]? = some (some v) → nth l i = some v
  | [], _, _, h => by simp at h
  | x :: l, 0, v, h => by simp at h; simp [nth, h]
  | x :: l, n + 1, v, h => by simp at h; simp only [nth]; exact nth_n h
theorem ldI_x {l : pL} {i : Nat} {κ : Int32 → rO} (H : ldI l i κ = some z) : ∃ x, l[i]? = some (some (.int x)) ∧ κ x = some z := by
  unfold ldI at H; split at H
  · exact ⟨_, nth_x ‹_›, H⟩
  · cases H
theorem ldJ_x {l : pL} {i : Nat} {κ : Int64 → rO} (H : ldJ l i κ = some z) : ∃ x, l[i]? = some (some (.long x)) ∧ κ x = some z := by
  unfold ldJ at H; split at H
  · exact ⟨_, nth_x ‹_›, H⟩
  · cases H
theorem ldA_x {l : pL} {i : Nat} {κ : Value → rO} (H : ldA l i κ = some z) : ∃ x, l[i]? = some (some x) ∧ isRv x = true ∧ κ x = some z := by
  unfold ldA at H; split at H
  · obtain ⟨h1, h2⟩ := iA_x H
    exact ⟨_, nth_x ‹_›, h1, h2⟩
  · cases H
theorem under_x {l : pL} {i : Nat} {κ : rO} (H : under l i κ = some z) : lvB l i = true ∧ κ = some z := by
  unfold under at H; unfold lvB
  split at H
  · exact ⟨rfl, H⟩
  · rename_i j
    unfold undO at H
    split at H
    · rename_i v hv
      obtain ⟨h1, h2⟩ := nl_x H
      refine ⟨?_, h2⟩
      simp only [nth_x hv]
      cases v <;> first | rfl | cases h1
    · rename_i hv
      refine ⟨?_, H⟩
      show (match l[j]? with | some (some (.long _)) => false | some (some (.double _)) => false | _ => true) = true
      split
      · rename_i h9; rw [nth_n h9] at hv; cases hv
      · rename_i h9; rw [nth_n h9] at hv; cases hv
      · rfl
theorem sto_x {n i : Nat} {l : pL} {κ : rO} (H : sto n l i κ = some z) : i < n ∧ i < l.length ∧ lvB l i = true ∧ κ = some z := by
  unfold sto at H
  cases hb : (Nat.blt i n && Nat.blt i l.length) with
  | false => rw [hb] at H; cases H
  | true =>
    rw [hb] at H
    obtain ⟨h1, h2⟩ := under_x H
    simp only [Bool.and_eq_true, Nat.blt_eq] at hb
    exact ⟨hb.1, hb.2, h1, h2⟩
theorem stoJ_x {n i : Nat} {l : pL} {κ : rO} (H : stoJ n l i κ = some z) : i + 1 < n ∧ i + 1 < l.length ∧ lvB l i = true ∧ κ = some z := by
  unfold stoJ at H
  cases hb : (Nat.blt (i + 1) n && Nat.blt (i + 1) l.length) with
  | false => rw [hb] at H; cases H
  | true =>
    rw [hb] at H
    obtain ⟨h1, h2⟩ := under_x H
    simp only [Bool.and_eq_true, Nat.blt_eq] at hb
    exact ⟨hb.1, hb.2, h1, h2⟩
theorem cat_le (v : Value) : v.category ≤ 2 := by cases v <;> simp [Value.category]
theorem cats_le : ∀ l : List Value, (l.map (fun v => v.category)).sum ≤ 2 * l.length
  | [] => Nat.le_refl _
  | v :: l => by
    have := cats_le l; have := cat_le v
    simp only [List.map_cons, List.sum_cons, List.length_cons]; omega
theorem h8_x {rest : List Value} {κ : rO} (H : h8 rest κ = some z) : (rest.map (fun v => v.category)).sum ≤ 8 ∧ κ = some z := by
  unfold h8 at H
  cases hb : Nat.ble rest.length 4 with
  | true =>
    rw [hb] at H
    have := Nat.le_of_ble_eq_true hb; have := cats_le rest
    exact ⟨by omega, H⟩
  | false =>
    rw [hb] at H
    simp only [h8f] at H
    split at H
    · exact ⟨‹_›, H⟩
    · cases H
theorem popA_x : ∀ {n : Nat} {st av : List Value} {κ : List Value → List Value → rO}, popA n st av κ = some z → ∃ vs s, vs.length = n ∧ st = vs.reverse ++ s ∧ κ (vs ++ av) s = some z
  | 0, st, av, κ, H => ⟨[], st, rfl, rfl, H⟩
  | n + 1, [], _, _, H => by cases H
  | n + 1, v :: st, av, κ, H => by
    obtain ⟨vs, s, h1, h2, h3⟩ := popA_x (n := n) H
    exact ⟨vs ++ [v], s, by simp [h1], by simp [h2], by simpa using h3⟩
theorem nR_x {ty : FieldType} {x : Int32} {κ : rO} (H : nR ty x κ = some z) : narrow ty (.int x) = .int x ∧ κ = some z := by
  unfold nR at H; split at H
  · exact ⟨‹_›, H⟩
  · cases H
theorem ckI_x {i n : Int32} {κ : rO} (H : ckI i n κ = some z) : ¬ i < 0 ∧ ¬ n ≤ i ∧ κ = some z := by
  unfold ckI at H; split at H
  · cases H
  · rename_i hc
    exact ⟨fun q => hc (Or.inl q), fun q => hc (Or.inr q), H⟩
theorem zR_n {x : Int32} {κ : rO} (H : zR x κ = some z) : (x = 0 ∨ x = 1) ∧ κ = some z := by
  unfold zR at H; split at H
  · exact ⟨‹_›, H⟩
  · cases H
theorem dv_x {y : Int32} {κ : rO} (H : dv y κ = some z) : ¬ y = 0 ∧ κ = some z := by
  unfold dv at H; split at H
  · cases H
  · exact ⟨‹_›, H⟩
theorem dvJ_x {y : Int64} {κ : rO} (H : dvJ y κ = some z) : ¬ y = 0 ∧ κ = some z := by
  unfold dvJ at H; split at H
  · cases H
  · exact ⟨‹_›, H⟩
theorem sIn_x {j : Nat} (H : sIn j = true) : ∃ i, j = 100 + i ∧ i < strT.length := by
  simp only [sIn, Bool.and_eq_true, Nat.blt_eq] at H
  have := Nat.le_of_ble_eq_true H.1
  exact ⟨j - 100, by omega, H.2⟩
theorem sCod_x {v : Value} {κ : Int32 → rO} (H : sCod v κ = some z) : ∃ i, v = .retAddr (100 + i) ∧ i < strT.length ∧ κ 0 = some z := by
  unfold sCod at H; split at H
  · rename_i j
    cases hb : sIn j with
    | false => rw [hb] at H; cases H
    | true =>
      rw [hb] at H
      obtain ⟨i, rfl, h2⟩ := sIn_x hb
      exact ⟨i, rfl, h2, H⟩
  · cases H
theorem sVal_x {v : Value} {κ : Value → rO} (H : sVal v κ = some z) : ∃ i, v = .retAddr (100 + i) ∧ i < strT.length ∧ κ (.retAddr (10000 + i)) = some z := by
  unfold sVal at H; split at H
  · rename_i j
    cases hb : sIn j with
    | false => rw [hb] at H; cases H
    | true =>
      rw [hb] at H
      obtain ⟨i, rfl, h2⟩ := sIn_x hb
      exact ⟨i, rfl, h2, by rw [Nat.add_sub_cancel_left] at H; exact H⟩
  · cases H
theorem rS0_x {v : Value} {κ : rO} (H : rS0 v κ = some z) : ∃ i, v = .retAddr (100 + i) ∧ i < strT.length ∧ κ = some z := by
  unfold rS0 at H; split at H
  · rename_i j
    cases hb : sIn j with
    | false => rw [hb] at H; cases H
    | true =>
      rw [hb] at H
      obtain ⟨i, rfl, h2⟩ := sIn_x hb
      exact ⟨i, rfl, h2, H⟩
  · cases H
theorem sByt_x {v : Value} {i : Int32} {κ : Int32 → rO} (H : sByt v i κ = some z) : ∃ k, v = .retAddr (10000 + k) ∧ k < strT.length ∧ vp_in i (strLen.getD k 0) ∧ κ ((strByt.getD k []).getD i.toNatClampNeg 0) = some z := by
  unfold sByt at H; split at H
  · rename_i j
    split at H
    · rename_i hc
      obtain ⟨⟨h1, h2⟩, h3⟩ := hc
      exact ⟨j - 10000, congrArg Value.retAddr (by omega), h2, h3, H⟩
    · cases H
  · cases H
theorem sLen_x {v : Value} {κ : Int32 → rO} (H : sLen v κ = some z) : ∃ k, v = .retAddr (10000 + k) ∧ k < strT.length ∧ κ (nI (strLen.getD k 0)) = some z := by
  unfold sLen at H; split at H
  · rename_i j
    split at H
    · rename_i hc
      exact ⟨j - 10000, congrArg Value.retAddr (by omega), hc.2, H⟩
    · cases H
  · cases H
theorem xL_x {S : sT} {v : Value} {i : Int32} {κ : Int32 → rO} (H : xL S v i κ = some z) : v = .retAddr 0 ∧ vp_in i S.1 ∧ κ (S.2 i.toNatClampNeg) = some z := by
  unfold xL at H; split at H
  · split at H
    · cases H
    · exact ⟨rfl, ‹_›, H⟩
  · cases H
theorem xN_x {S : sT} {v : Value} {κ : Int32 → rO} (H : xN S v κ = some z) : v = .retAddr 0 ∧ κ (nI S.1) = some z := by
  unfold xN at H; split at H
  · exact ⟨rfl, H⟩
  · cases H
theorem mkI_x {h : pH} {t : Nat} {n : Int32} {κ : pH → rO} (H : mkI h t n κ = some z) : ¬ n < 0 ∧ n.toNatClampNeg ≤ 100000 ∧ κ (h ++ [.inl (t, n.toNatClampNeg, .inl (fun _ => 0))]) = some z := by
  unfold mkI at H; split at H
  · cases H
  · rename_i hc
    exact ⟨fun q => hc (Or.inl q), Nat.le_of_not_lt fun q => hc (Or.inr q), H⟩
theorem mkJ_x {h : pH} {n : Int32} {κ : pH → rO} (H : mkJ h n κ = some z) : ¬ n < 0 ∧ n.toNatClampNeg ≤ 100000 ∧ κ (h ++ [.inl (3, n.toNatClampNeg, .inr (.inl (fun _ => 0)))]) = some z := by
  unfold mkJ at H; split at H
  · cases H
  · rename_i hc
    exact ⟨fun q => hc (Or.inl q), Nat.le_of_not_lt fun q => hc (Or.inr q), H⟩
theorem mkT_x {h : pH} {n : Int32} {κ : pH → rO} (H : mkT h n κ = some z) : ¬ n < 0 ∧ n.toNatClampNeg ≤ 100000 ∧ κ (h ++ [.inl (4, n.toNatClampNeg, .inr (.inr (.inr (.inr (fun _ => none)))))]) = some z := by
  unfold mkT at H; split at H
  · cases H
  · rename_i hc
    exact ⟨fun q => hc (Or.inl q), Nat.le_of_not_lt fun q => hc (Or.inr q), H⟩
theorem sTx_x {h : pH} {o v : Value} {i : Int32} {κ : pH → rO} (H : sTx h o i v κ = some z) : ∃ a n f, o = .ref a ∧ h[a]? = some (.inl (4, n, .inr (.inr (.inr (.inr f))))) ∧ vp_in i n ∧ ((∃ k fs, v = .ref k ∧ h[k]? = some (.inr (11, fs)) ∧ κ (h.set a (.inl (4, n, .inr (.inr (.inr (.inr (va_up f i.toNatClampNeg (some k)))))))) = some z) ∨ (v = .null ∧ κ (h.set a (.inl (4, n, .inr (.inr (.inr (.inr (va_up f i.toNatClampNeg none))))))) = some z)) := by
  unfold sTx at H
  split at H <;> try cases H
  split at H <;> try cases H
  split at H <;> try cases H
  rename_i a _ u n f ha hc
  obtain ⟨hc, hi⟩ := hc
  subst hc
  refine ⟨a, n, f, rfl, ha, hi, ?_⟩
  split at H
  · split at H
    · split at H
      · rename_i k _ c fs hk hc
        subst hc
        exact Or.inl ⟨k, fs, rfl, hk, H⟩
      · cases H
    · cases H
  · exact Or.inr ⟨rfl, H⟩
  · cases H
theorem cpI_x {h : pH} {o o' : Value} {sp dp n : Int32} {κ : pH → rO} (H : cpI h o sp o' dp n κ = some z) : ∃ a b n0 n1 f g, o = .ref a ∧ o' = .ref b ∧ h[a]? = some (.inl (0, n0, .inl f)) ∧ h[b]? = some (.inl (0, n1, .inl g)) ∧ (¬ sp < 0 ∧ ¬ dp < 0 ∧ ¬ n < 0 ∧ sp.toNatClampNeg + n.toNatClampNeg ≤ n0 ∧ dp.toNatClampNeg + n.toNatClampNeg ≤ n1) ∧ κ (h.set b (.inl (0, n1, .inl (va_cpy f g sp.toNatClampNeg dp.toNatClampNeg n.toNatClampNeg)))) = some z := by
  unfold cpI at H
  split at H <;> try cases H
  split at H <;> try cases H
  split at H <;> try cases H
  split at H <;> try cases H
  split at H <;> try cases H
  rename_i a _ b _ t n0 f ha _ t' n1 g hb hc
  obtain ⟨⟨h1, h2⟩, hc⟩ := hc
  subst h1; subst h2
  exact ⟨a, b, n0, n1, f, g, rfl, rfl, ha, hb, hc, H⟩
theorem aLen_x {h : pH} {v : Value} {κ : Int32 → rO} (H : aLen h v κ = some z) : ∃ a u x, v = .ref a ∧ h[a]? = some (.inl (u, x)) ∧ u < 5 ∧ κ (nI x.1) = some z := by
  unfold aLen at H
  split at H <;> try cases H
  split at H <;> try cases H
  split at H <;> try cases H
  rename_i a _ u x ha hu
  exact ⟨a, u, x, rfl, ha, hu, H⟩
theorem cI_x {r : rO} {κ : Int32 → pH → rO} (H : cI r κ = some z) : (∃ x h1, r = some (.inl (some (.int x)), h1) ∧ κ x h1 = some z) ∨ (∃ E h1, r = some (.inr E, h1) ∧ z = (.inr E, h1)) := by
  unfold cI at H; split at H
  · exact Or.inl ⟨_, _, rfl, H⟩
  · exact Or.inr ⟨_, _, rfl, by cases H; rfl⟩
  · cases H
theorem cJ_x {r : rO} {κ : Int64 → pH → rO} (H : cJ r κ = some z) : (∃ x h1, r = some (.inl (some (.long x)), h1) ∧ κ x h1 = some z) ∨ (∃ E h1, r = some (.inr E, h1) ∧ z = (.inr E, h1)) := by
  unfold cJ at H; split at H
  · exact Or.inl ⟨_, _, rfl, H⟩
  · exact Or.inr ⟨_, _, rfl, by cases H; rfl⟩
  · cases H
theorem cA_x {r : rO} {κ : Value → pH → rO} (H : cA r κ = some z) : (∃ x h1, r = some (.inl (some x), h1) ∧ κ x h1 = some z) ∨ (∃ E h1, r = some (.inr E, h1) ∧ z = (.inr E, h1)) := by
  unfold cA at H; split at H
  · split at H
    · exact Or.inl ⟨_, _, rfl, H⟩
    · cases H
  · exact Or.inr ⟨_, _, rfl, by cases H; rfl⟩
  · cases H
theorem cU_x {r : rO} {κ : pH → rO} (H : cU r κ = some z) : (∃ h1, r = some (.inl none, h1) ∧ κ h1 = some z) ∨ (∃ E h1, r = some (.inr E, h1) ∧ z = (.inr E, h1)) := by
  unfold cU at H; split at H
  · exact Or.inl ⟨_, rfl, H⟩
  · exact Or.inr ⟨_, _, rfl, by cases H; rfl⟩
  · cases H
theorem cIx_x {thr : String → pH → rO} {r : rO} {κ : Int32 → pH → rO} (H : cIx thr r κ = some z) : (∃ x h1, r = some (.inl (some (.int x)), h1) ∧ κ x h1 = some z) ∨ (∃ E h1, r = some (.inr E, h1) ∧ thr E h1 = some z) := by
  unfold cIx at H; split at H
  · exact Or.inl ⟨_, _, rfl, H⟩
  · exact Or.inr ⟨_, _, rfl, H⟩
  · cases H
theorem cUx_x {thr : String → pH → rO} {r : rO} {κ : pH → rO} (H : cUx thr r κ = some z) : (∃ h1, r = some (.inl none, h1) ∧ κ h1 = some z) ∨ (∃ E h1, r = some (.inr E, h1) ∧ thr E h1 = some z) := by
  unfold cUx at H; split at H
  · exact Or.inl ⟨_, rfl, H⟩
  · exact Or.inr ⟨_, _, rfl, H⟩
  · cases H
end SoundA
