/-! RULES: arrays, making things -/
section GoArr
variable {G : gC} {d mc ms : Nat} {Y : mY} {pc : Nat} {loc : List (Option Value)} {st : List Value} {h h' : pH} {R : rS}
theorem go_iaload {a n : Nat} {f : Nat → Int32} {i : Int32} (hd : decode (mYc Y) pc = .ok (.iaload, 1)) (ha : h[a]? = some (.inl (0, n, .inl f))) (hi : vp_in i n) (kk : Go G d mc ms Y (pc + 1) loc (.int (f i.toNatClampNeg) :: st) h R h') : Go G d mc ms Y pc loc (.int i :: .ref a :: st) h R h' := by
  intro p e s m args below meth c H locs cells slots MC MS ad ls S X
  obtain ⟨x1, x2, x3, x4, x5, x6, x7, x8, x9⟩ := X
  refine va_iald S.1 S.2.1 S.2.2.2.2.2.2.2.2.2.2.1 x1 a 0 (cA := gtc G 0) (n := n) (f := f) (by rw [wsO_at, ha]; rfl) rfl hi hd ?_
  exact kk p e s m args below meth c H locs cells slots MC MS ad ls S ⟨x1, x2, x3, x4, x5, okS_t trivial (okS_c (okS_c x6).2).2, x7, x8, x9⟩
theorem go_baload {a n : Nat} {f : Nat → Int32} {i : Int32} (hd : decode (mYc Y) pc = .ok (.baload, 1)) (ha : h[a]? = some (.inl (1, n, .inl f))) (hi : vp_in i n) (kk : Go G d mc ms Y (pc + 1) loc (.int (f i.toNatClampNeg) :: st) h R h') : Go G d mc ms Y pc loc (.int i :: .ref a :: st) h R h' := by
  intro p e s m args below meth c H locs cells slots MC MS ad ls S X
  obtain ⟨x1, x2, x3, x4, x5, x6, x7, x8, x9⟩ := X
  refine va_bald S.1 S.2.1 S.2.2.2.2.2.2.2.2.2.2.1 x1 a 1 (cA := gtc G 1) (n := n) (f := f) (by rw [wsO_at, ha]; rfl) rfl hi hd ?_
  exact kk p e s m args below meth c H locs cells slots MC MS ad ls S ⟨x1, x2, x3, x4, x5, okS_t trivial (okS_c (okS_c x6).2).2, x7, x8, x9⟩
theorem go_zaload {a n : Nat} {f : Nat → Int32} {i : Int32} (hd : decode (mYc Y) pc = .ok (.baload, 1)) (ha : h[a]? = some (.inl (2, n, .inl f))) (hi : vp_in i n) (kk : Go G d mc ms Y (pc + 1) loc (.int (f i.toNatClampNeg) :: st) h R h') : Go G d mc ms Y pc loc (.int i :: .ref a :: st) h R h' := by
  intro p e s m args below meth c H locs cells slots MC MS ad ls S X
  obtain ⟨x1, x2, x3, x4, x5, x6, x7, x8, x9⟩ := X
  refine va_zald S.1 S.2.1 S.2.2.2.2.2.2.2.2.2.2.1 x1 a 2 (cA := gtc G 2) (n := n) (f := f) (by rw [wsO_at, ha]; rfl) rfl hi hd ?_
  exact kk p e s m args below meth c H locs cells slots MC MS ad ls S ⟨x1, x2, x3, x4, x5, okS_t trivial (okS_c (okS_c x6).2).2, x7, x8, x9⟩
theorem go_laload {a n : Nat} {f : Nat → Int64} {i : Int32} (hd : decode (mYc Y) pc = .ok (.laload, 1)) (ha : h[a]? = some (.inl (3, n, .inr (.inl f)))) (hi : vp_in i n) (kk : Go G d mc ms Y (pc + 1) loc (.long (f i.toNatClampNeg) :: st) h R h') : Go G d mc ms Y pc loc (.int i :: .ref a :: st) h R h' := by
  intro p e s m args below meth c H locs cells slots MC MS ad ls S X
  obtain ⟨x1, x2, x3, x4, x5, x6, x7, x8, x9⟩ := X
  refine va_lald S.1 S.2.1 S.2.2.2.2.2.2.2.2.2.2.1 x1 a 3 (cA := gtc G 3) (n := n) (f := f) (by rw [wsO_at, ha]; rfl) rfl hi hd ?_
  exact kk p e s m args below meth c H locs cells slots MC MS ad ls S ⟨x1, x2, x3, x4, x5, okS_t trivial (okS_c (okS_c x6).2).2, x7, x8, x9⟩
theorem cv_rf {ad : Nat → Nat} (r : Option Nat) : cvV G ad (va_rf r) = va_rf (r.map ad) := by cases r <;> rfl
theorem go_aaload {a n : Nat} {f : Nat → Option Nat} {i : Int32} (hd : decode (mYc Y) pc = .ok (.aaload, 1)) (ha : h[a]? = some (.inl (4, n, .inr (.inr (.inr (.inr f)))))) (hi : vp_in i n) (kk : Go G d mc ms Y (pc + 1) loc (va_rf (f i.toNatClampNeg) :: st) h R h') : Go G d mc ms Y pc loc (.int i :: .ref a :: st) h R h' := by
  intro p e s m args below meth c H locs cells slots MC MS ad ls S X
  obtain ⟨x1, x2, x3, x4, x5, x6, x7, x8, x9⟩ := X
  refine va_aldq S.1 S.2.1 S.2.2.2.2.2.2.2.2.2.2.1 x1 a 4 (cA := gtc G 4) (C := "GreatEstate$Text") (n := n) (f := fun j => (f j).map ad) (by rw [wsO_at, ha]; rfl) rfl hi hd ?_
  rw [← cv_rf]
  refine kk p e s m args below meth c H locs cells slots MC MS ad ls S ⟨x1, x2, x3, x4, x5, okS_i ?_ (okS_c (okS_c x6).2).2, x7, x8, x9⟩
  cases hf : f i.toNatClampNeg with
  | none => exact trivial
  | some k => exact (show okA h.length (n, .inr (.inr (.inr (.inr f)))) from okH_at x4 ha) _ k hf
theorem go_setc {a pc' : Nat} {c1 : pC} {st' : List Value} (hok : okH h → okS h.length st → okC h.length c1) (hs : ∀ n, okS n st → okS n st')
    (row : ∀ (p : Program) (e : Env) (s : State) (m : MethodId) (args : Array Value) (below : List Frame) (meth : Method) (c : Code) (H : Heap) (locs : List Loc) (cells slots MC MS : Nat) (ad : Nat → Nat) (ls : Array Slot) (Q : State → Prop),
      SX G Y p s m args meth c → va_P (gD G) vwCl (wsO G ad h) H → va_D (gA G) (wsO G ad h) → va_S (gA G) s.heap H locs →
      (∀ (H1 : Heap) (locs1 : List Loc), va_P (gD G) vwCl ((wsO G ad h).set a (ad a, cvC G ad c1)) H1 → va_D (gA G) ((wsO G ad h).set a (ad a, cvC G ad c1)) → va_S (gA G) s.heap H1 locs1 → W p (gl G) e (rmR d MC MS) s m args below meth c H1 locs1 cells slots Q (F0 m pc' ls (st'.map (cvV G ad)))) →
      W p (gl G) e (rmR d MC MS) s m args below meth c H locs cells slots Q (F0 m pc ls (st.map (cvV G ad))))
    (kk : Go G d mc ms Y pc' loc st' (h.set a c1) R h') : Go G d mc ms Y pc loc st h R h' := by
  intro p e s m args below meth c H locs cells slots MC MS ad ls S X
  obtain ⟨x1, x2, x3, x4, x5, x6, x7, x8, x9⟩ := X
  refine row p e s m args below meth c H locs cells slots MC MS ad ls _ S x1 x2 x3 (fun H1 locs1 hP hD hS1 => ?_)
  rw [wsO_set] at hP hD
  refine W_mono (QF_mono (by rw [List.length_set]; exact Nat.le_refl _) adX.rf) (kk p e s m args below meth c H1 locs1 cells slots MC MS ad ls S ⟨hP, hD, hS1, okH_set x4 (hok x4 x6), ?_, ?_, x7, x8, x9⟩)
  · rw [List.length_set]; exact x5
  · rw [List.length_set]; exact hs _ x6
theorem go_iastore {a n : Nat} {f : Nat → Int32} {i x : Int32} (hd : decode (mYc Y) pc = .ok (.iastore, 1)) (ha : h[a]? = some (.inl (0, n, .inl f))) (hi : vp_in i n) (kk : Go G d mc ms Y (pc + 1) loc st (h.set a (.inl (0, n, .inl (upd f i.toNatClampNeg x)))) R h') : Go G d mc ms Y pc loc (.int x :: .int i :: .ref a :: st) h R h' :=
  go_setc (c1 := (.inl (0, n, .inl (upd f i.toNatClampNeg x)))) (fun _ _ => trivial) (fun n hs => (okS_c (okS_c (okS_c hs).2).2).2) (fun p e s m args below meth c H locs cells slots MC MS ad ls Q S x1 x2 x3 w => va_iast S.1 S.2.1 S.2.2.2.2.2.2.2.2.2.2.1 x1 x2 x3 a 0 (cA := gtc G 0) (n := n) (f := f) (by rw [wsO_at, ha]; rfl) rfl hi hd w) kk
theorem go_bastore {a n : Nat} {f : Nat → Int32} {i x : Int32} (hd : decode (mYc Y) pc = .ok (.bastore, 1)) (ha : h[a]? = some (.inl (1, n, .inl f))) (hi : vp_in i n) (kk : Go G d mc ms Y (pc + 1) loc st (h.set a (.inl (1, n, .inl (upd f i.toNatClampNeg x.toInt8.toInt32)))) R h') : Go G d mc ms Y pc loc (.int x :: .int i :: .ref a :: st) h R h' :=
  go_setc (c1 := (.inl (1, n, .inl (upd f i.toNatClampNeg x.toInt8.toInt32)))) (fun _ _ => trivial) (fun n hs => (okS_c (okS_c (okS_c hs).2).2).2) (fun p e s m args below meth c H locs cells slots MC MS ad ls Q S x1 x2 x3 w => va_bast S.1 S.2.1 S.2.2.2.2.2.2.2.2.2.2.1 x1 x2 x3 a 1 (cA := gtc G 1) (n := n) (f := f) (by rw [wsO_at, ha]; rfl) rfl hi hd w) kk
theorem go_zastore {a n : Nat} {f : Nat → Int32} {i x : Int32} (hd : decode (mYc Y) pc = .ok (.bastore, 1)) (ha : h[a]? = some (.inl (2, n, .inl f))) (hi : vp_in i n) (kk : Go G d mc ms Y (pc + 1) loc st (h.set a (.inl (2, n, .inl (upd f i.toNatClampNeg (vp_nar .boolean x))))) R h') : Go G d mc ms Y pc loc (.int x :: .int i :: .ref a :: st) h R h' :=
  go_setc (c1 := (.inl (2, n, .inl (upd f i.toNatClampNeg (vp_nar .boolean x))))) (fun _ _ => trivial) (fun n hs => (okS_c (okS_c (okS_c hs).2).2).2) (fun p e s m args below meth c H locs cells slots MC MS ad ls Q S x1 x2 x3 w => va_zast S.1 S.2.1 S.2.2.2.2.2.2.2.2.2.2.1 x1 x2 x3 a 2 (cA := gtc G 2) (n := n) (f := f) (by rw [wsO_at, ha]; rfl) rfl hi hd w) kk
theorem go_lastore {a n : Nat} {f : Nat → Int64} {i : Int32} {x : Int64} (hd : decode (mYc Y) pc = .ok (.lastore, 1)) (ha : h[a]? = some (.inl (3, n, .inr (.inl f)))) (hi : vp_in i n) (kk : Go G d mc ms Y (pc + 1) loc st (h.set a (.inl (3, n, .inr (.inl (vp_updL f i.toNatClampNeg x))))) R h') : Go G d mc ms Y pc loc (.long x :: .int i :: .ref a :: st) h R h' :=
  go_setc (c1 := (.inl (3, n, .inr (.inl (vp_updL f i.toNatClampNeg x))))) (fun _ _ => trivial) (fun n hs => (okS_c (okS_c (okS_c hs).2).2).2) (fun p e s m args below meth c H locs cells slots MC MS ad ls Q S x1 x2 x3 w => va_last S.1 S.2.1 S.2.2.2.2.2.2.2.2.2.2.1 x1 x2 x3 a 3 (cA := gtc G 3) (n := n) (f := f) (by rw [wsO_at, ha]; rfl) rfl hi hd w) kk
theorem cvA_up {ad : Nat → Nat} {n k : Nat} {f : Nat → Option Nat} {r : Option Nat} : cvA ad (n, .inr (.inr (.inr (.inr (va_up f k r))))) = (n, .inr (.inr (.inr (.inr (va_up (fun j => (f j).map ad) k (r.map ad)))))) := by
  simp only [cvA]
  congr 5
  funext j
  simp only [va_up]
  split <;> rfl
theorem okA_up {m n k : Nat} {f : Nat → Option Nat} {r : Option Nat} (o : okA m (n, .inr (.inr (.inr (.inr f))))) (hr : ∀ q, r = some q → q < m) : okA m (n, .inr (.inr (.inr (.inr (va_up f k r))))) := by
  intro j q hj
  simp only [va_up] at hj
  split at hj
  · exact hr q hj
  · exact o j q hj
theorem go_aastore {a n k : Nat} {f : Nat → Option Nat} {i : Int32} {fs : List Value} (hd : decode (mYc Y) pc = .ok (.aastore, 1)) (ha : h[a]? = some (.inl (4, n, .inr (.inr (.inr (.inr f)))))) (hk : h[k]? = some (.inr (11, fs))) (hi : vp_in i n) (kk : Go G d mc ms Y (pc + 1) loc st (h.set a (.inl (4, n, .inr (.inr (.inr (.inr (va_up f i.toNatClampNeg (some k)))))))) R h') : Go G d mc ms Y pc loc (.ref k :: .int i :: .ref a :: st) h R h' :=
  go_setc (c1 := (.inl (4, n, .inr (.inr (.inr (.inr (va_up f i.toNatClampNeg (some k)))))))) (fun o _ => okA_up (n := n) (okH_at o ha) (fun q hq => by cases hq; exact (List.getElem?_eq_some_iff.mp hk).1)) (fun n hs => (okS_c (okS_c (okS_c hs).2).2).2) (fun p e s m args below meth c H locs cells slots MC MS ad ls Q S x1 x2 x3 w => by
    refine va_astq S.1 S.2.1 S.2.2.2.2.2.2.2.2.2.2.1 x1 x2 x3 a 4 k 11 (cA := gtc G 4) (r := (RX8, TX8, 2)) (n := n) (v := ad k) (vs := fs.map (cvV G ad)) (f := fun j => (f j).map ad) (by rw [wsO_at, ha]; rfl) rfl (by rw [wsO_at, hk]; rfl) rfl hi hd ?_
    simpa only [cvC, cvA_up, Option.map_some] using w) kk
theorem go_aastoreN {a n : Nat} {f : Nat → Option Nat} {i : Int32} (hd : decode (mYc Y) pc = .ok (.aastore, 1)) (ha : h[a]? = some (.inl (4, n, .inr (.inr (.inr (.inr f)))))) (hi : vp_in i n) (kk : Go G d mc ms Y (pc + 1) loc st (h.set a (.inl (4, n, .inr (.inr (.inr (.inr (va_up f i.toNatClampNeg none))))))) R h') : Go G d mc ms Y pc loc (.null :: .int i :: .ref a :: st) h R h' :=
  go_setc (c1 := (.inl (4, n, .inr (.inr (.inr (.inr (va_up f i.toNatClampNeg none))))))) (fun o _ => okA_up (n := n) (okH_at o ha) (fun q hq => by cases hq)) (fun n hs => (okS_c (okS_c (okS_c hs).2).2).2) (fun p e s m args below meth c H locs cells slots MC MS ad ls Q S x1 x2 x3 w => by
    refine va_astqN S.1 S.2.1 S.2.2.2.2.2.2.2.2.2.2.1 x1 x2 x3 a 4 (cA := gtc G 4) (C := "GreatEstate$Text") (n := n) (f := fun j => (f j).map ad) (by rw [wsO_at, ha]; rfl) rfl hi hd ?_
    simpa only [cvC, cvA_up, Option.map_none] using w) kk
theorem cvA_1 {ad : Nat → Nat} (x : vp_A) : (cvA ad x).1 = x.1 := by
  obtain ⟨n, f⟩ := x
  rcases f with f | f | f | f | f <;> rfl
theorem go_alen {a t : Nat} {x : vp_A} (hd : decode (mYc Y) pc = .ok (.arraylength, 1)) (ha : h[a]? = some (.inl (t, x))) (ht : t < 5) (kk : Go G d mc ms Y (pc + 1) loc (.int (nI x.1) :: st) h R h') : Go G d mc ms Y pc loc (.ref a :: st) h R h' := by
  intro p e s m args below meth c H locs cells slots MC MS ad ls S X
  obtain ⟨x1, x2, x3, x4, x5, x6, x7, x8, x9⟩ := X
  obtain ⟨ty, hty⟩ : ∃ ty, (gT G)[t]? = some (gtc G t, ty) := by
    match t, ht with
    | 0, _ => exact ⟨_, rfl⟩
    | 1, _ => exact ⟨_, rfl⟩
    | 2, _ => exact ⟨_, rfl⟩
    | 3, _ => exact ⟨_, rfl⟩
    | 4, _ => exact ⟨_, rfl⟩
  refine va_alen S.1 S.2.1 S.2.2.2.2.2.2.2.2.2.2.1 x1 a t (cA := gtc G t) (x := cvA ad x) (by rw [wsO_at, ha]; rfl) hty (v := nI x.1) (by rw [cvA_1]; rfl) hd ?_
  exact kk p e s m args below meth c H locs cells slots MC MS ad ls S ⟨x1, x2, x3, x4, x5, okS_t trivial (okS_c x6).2, x7, x8, x9⟩
/-- a new cell at the heap's end -/
theorem push_go {ad : Nat → Nat} {q : Nat} {c1 : pC} (ho : okH h) (hc : okC h.length c1) : ∃ ad', adX h.length ad ad' ∧ ad' h.length = q ∧ wsO G ad' (h ++ [c1]) = wsO G ad h ++ [(q, cvC G ad c1)] := by
  refine ⟨fun k => if k = h.length then q else ad k, fun k hk => by simp [Nat.ne_of_lt hk], by simp, ?_⟩
  have e : adX h.length ad (fun k => if k = h.length then q else ad k) := fun k hk => by simp [Nat.ne_of_lt hk]
  rw [wsO_push, wsO_x e ho, cvC_x e hc]
  simp
theorem go_make {pc' n : Nat} {c1 : pC} {st' : List Value} (hc : ∀ n, okC n c1) (hs : ∀ n, okS n st → okS n st')
    (row : ∀ (p : Program) (e : Env) (s : State) (m : MethodId) (args : Array Value) (below : List Frame) (meth : Method) (c : Code) (H : Heap) (locs : List Loc) (cells slots MC MS : Nat) (ad : Nat → Nat) (ls : Array Slot) (Q : State → Prop),
      SX G Y p s m args meth c → va_P (gD G) vwCl (wsO G ad h) H → va_D (gA G) (wsO G ad h) → va_S (gA G) s.heap H locs → cells + 1 ≤ MC → slots + n ≤ MS →
      (∀ (q : Nat) (H1 : Heap), va_P (gD G) vwCl (wsO G ad h ++ [(q, cvC G ad c1)]) H1 → va_D (gA G) (wsO G ad h ++ [(q, cvC G ad c1)]) → va_S (gA G) s.heap H1 locs → W p (gl G) e (rmR d MC MS) s m args below meth c H1 locs (cells + 1) (slots + n) Q (F0 m pc' ls (.ref q :: st'.map (cvV G ad)))) →
      W p (gl G) e (rmR d MC MS) s m args below meth c H locs cells slots Q (F0 m pc ls (st.map (cvV G ad))))
    (kk : Go G d mc ms Y pc' loc (.ref h.length :: st') (h ++ [c1]) R h') : Go G d (mc + 1) (ms + n) Y pc loc st h R h' := by
  intro p e s m args below meth c H locs cells slots MC MS ad ls S X
  obtain ⟨x1, x2, x3, x4, x5, x6, x7, x8, x9⟩ := X
  refine row p e s m args below meth c H locs cells slots MC MS ad ls _ S x1 x2 x3 (by omega) (by omega) (fun q H1 hP hD hS1 => ?_)
  obtain ⟨ad', e1, e2, e3⟩ := push_go (G := G) (ad := ad) (q := q) x4 (hc h.length)
  rw [← e3] at hP hD
  have hlen : (h ++ [c1]).length = h.length + 1 := by simp
  have hmap : Value.ref q :: st'.map (cvV G ad) = (Value.ref h.length :: st').map (cvV G ad') := by
    rw [List.map_cons, cvS_x e1 (hs _ x6)]
    simp [cvV, e2]
  rw [hmap]
  refine W_mono (QF_mono (by omega) e1) (kk p e s m args below meth c H1 locs (cells + 1) (slots + n) MC MS ad' ls S ⟨hP, hD, hS1, okH_push x4 (hc _), ?_, ?_, ?_, by omega, by omega⟩)
  · rw [hlen]; exact okL_mono (by omega) x5
  · rw [hlen]; exact okS_i (show h.length < h.length + 1 by omega) (okS_mono (by omega) (hs _ x6))
  · rw [lcv_x e1 x5]; exact x7
end GoArr
