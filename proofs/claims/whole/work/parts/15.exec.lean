/-! THE PURE MACHINE IS RIGHT, 4: bodies, methods, the law -/
section SoundD
variable {G : gC} {d : Nat} {h' : pH} {R : rS} {S : sT} {call : cT} {dfl : Nat → List Value} {E : mE} {MY : List (mY × Nat)}
def eB (md n : Nat) (R : rS) : Nat := match md with | 0 => tcR R | 1 => n | _ => 10 * n
theorem sgm_sound {e e' : Nat} (hS : S = (gL G, gxs G)) (hst : (gl G).stackTraces = false) (hV : VE MY dfl E) (he : (E.2.2.1 = 0 ∧ e = tcR R ∧ e' = e) ∨ (E.2.2.1 ≠ 0 ∧ e' + (match E.2.2.1 with | 1 => 1 | _ => 10) ≤ e))
    (hcall : ∀ k av h1 R1 h2, call k av h1 = some (R1, h2) → ∃ Z m, MY[k]? = some (Z, m) ∧ EvE G d (ceE m R1) Z av h1 R1 h2)
    {jmp : Nat → pL → List Value → pH → rO} (hj : ∀ pc l s h1, jmp pc l s h1 = some (R, h') → GoE G (d + 1) e' E.1 pc l s h1 R h') :
    ∀ (K pc : Nat) (loc : pL) (st : List Value) (h : pH), sgm S call dfl E jmp K pc loc st h = some (R, h') → GoE G (d + 1) e E.1 pc loc st h R h' := by
  intro K
  induction K with
  | zero => intro pc loc st h H; cases H
  | succ K ih =>
    intro pc loc st h H
    unfold sgm at H
    split at H
    · cases H
    · rename_i ri hri
      have hle : e' ≤ e := by
        rcases he with ⟨_, _, rfl⟩ | ⟨h0, h1⟩
        · exact Nat.le_refl _
        · omega
      refine stp_sound (e := e) hS hst (lk1_x hV.1 hri) ?_ hcall ?_ ?_ H
      · rcases hV.2.2 with ⟨q1, q2, q3⟩ | ⟨q1, q2, q3⟩ | q1
        · rcases he with ⟨_, h1, _⟩ | ⟨h0, _⟩
          · exact Or.inl ⟨q1, q2, q3, h1⟩
          · exact absurd q1 h0
        · exact Or.inr (Or.inl ⟨q1, q2, q3⟩)
        · exact Or.inr (Or.inr q1)
      · intro f pc' l s h1 H1
        cases f with
        | true => exact ge_mono hle (hj _ _ _ _ H1)
        | false => exact ih _ _ _ _ H1
      · intro hm
        rcases he with ⟨h0, _⟩ | ⟨h0, h1⟩
        · exact absurd h0 hm
        · exact ⟨e', h1, fun pc' l s h2 H2 => hj _ _ _ _ H2⟩
theorem bd_sound (hS : S = (gL G, gxs G)) (hst : (gl G).stackTraces = false) (hV : VE MY dfl E)
    (hcall : ∀ k av h1 R1 h2, call k av h1 = some (R1, h2) → ∃ Z m, MY[k]? = some (Z, m) ∧ EvE G d (ceE m R1) Z av h1 R1 h2) :
    ∀ (n pc : Nat) (loc : pL) (st : List Value) (h : pH), bd S call dfl E n pc loc st h = some (R, h') → GoE G (d + 1) (eB E.2.2.1 n R) E.1 pc loc st h R h' := by
  intro n
  induction n with
  | zero => intro pc loc st h H; cases H
  | succ n ih =>
    intro pc loc st h H
    refine sgm_sound (e := eB E.2.2.1 (n + 1) R) (e' := eB E.2.2.1 n R) hS hst hV ?_ hcall (fun pc l s h1 H1 => ih pc l s h1 H1) 1000 pc loc st h H
    cases hm : E.2.2.1 with
    | zero => exact Or.inl ⟨rfl, rfl, rfl⟩
    | succ m =>
      refine Or.inr ⟨Nat.succ_ne_zero m, ?_⟩
      cases m with
      | zero => exact Nat.le_refl _
      | succ m => show 10 * n + 10 ≤ 10 * (n + 1); omega
theorem exec_sound {M : List mE} (hS : S = (gL G, gxs G)) (hst : (gl G).stackTraces = false) (hMY : MY = M.map (fun E => (E.1, E.2.2.1))) (hM : ∀ E ∈ M, VE MY dfl E ∧ E.2.2.1 < 2) :
    ∀ (d k : Nat) (av : List Value) (h : pH) (R : rS) (h' : pH), exec S M dfl d k av h = some (R, h') → ∃ Z m, MY[k]? = some (Z, m) ∧ EvE G d (ceE m R) Z av h R h' := by
  intro d
  induction d with
  | zero => intro k av h R h' H; cases H
  | succ d ih =>
    intro k av h R h' H
    unfold exec at H
    split at H
    · cases H
    · rename_i E hE
      obtain ⟨hV, hm⟩ := hM E (List.mem_of_getElem? hE)
      refine ⟨E.1, E.2.2.1, by rw [hMY, List.getElem?_map, hE]; rfl, ?_⟩
      cases hb : Nat.ble (lent av).length (mYl E.1) with
      | false => rw [hb] at H; cases H
      | true =>
        rw [hb] at H
        have hb := Nat.le_of_ble_eq_true hb
        have hk : (lent av).length + (mYl E.1 - (lent av).length) = mYl E.1 := by omega
        rcases hV.2.2 with ⟨q1, q2, q3⟩ | ⟨q1, q2, q3⟩ | q1
        · rw [q1] at H
          have g := bd_sound (G := G) hS hst hV ih _ _ _ _ _ H
          rw [q1] at g ⊢
          exact ⟨g.1, g.2.1, ev_of hV.2.1 q3 hk g.2.2 hst⟩
        · rw [q1] at H
          simp only [cond_true, onlyR] at H
          split at H
          · rename_i v h9 H9
            cases H
            have g := bd_sound (G := G) hS hst hV ih _ _ _ _ _ H9
            rw [q1] at g ⊢
            exact ⟨g.1, g.2.1, ev_ofH hV.2.1 q3 hk g.2.2 hst⟩
          · cases H
        · omega
theorem law_sound {M : List mE} {EL : mE} (hS : S = (gL G, gxs G)) (hst : (gl G).stackTraces = false) (hMY : MY = M.map (fun E => (E.1, E.2.2.1))) (hM : ∀ E ∈ M, VE MY dfl E ∧ E.2.2.1 < 2) (hEL : VE MY dfl EL) (h2 : EL.2.2.1 = 2) (hL : EL.1 = mLaw) (H : bd S (exec S M dfl 2031) dfl EL 2000 0 (some (.retAddr 0) :: List.replicate 6 none) [] [] = some (.inl (some (.int 1)), h')) (hc : h'.length + 20000 ≤ rmC) (hs : sz h' + 120000 ≤ rmS) :
    Go G 2032 rmC rmS mLaw 0 (some (.retAddr 0) :: List.replicate 6 none) [] [] (.inl (some (.int 1))) h' := by
  have g := bd_sound (G := G) hS hst hEL (exec_sound hS hst hMY hM 2031) _ _ _ _ _ H
  rw [h2, hL] at g
  refine go_mono ?_ ?_ g.2.2
  · show h'.length - 0 + 10 * 2000 ≤ rmC; omega
  · show sz h' - 0 + 6 * (10 * 2000) ≤ rmS; omega
end SoundD
