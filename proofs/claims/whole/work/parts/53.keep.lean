/-! keep -/
section KeepB
variable {S : sT} {d c : Nat} {k : Value} {E : List dsc} {A : fA} {L : fL} {T : fT} {W : fW}
theorem keep_core {f1 f2 : Nat} {kd x y : Int32} {V' : fW} (hR : Rel c k E A T) (hf1 : f1 < 48) (h24 : hn (A 40) < 24) (hfr : frN (A 40) (nI f1) (nI f2) 48 = true) (hk : rg kd 2 5)
    (p1 : ∀ j, j ≠ 1684 + 11 * hn (A 40) + 9 → j ≠ 1684 + 11 * hn (A 40) + 10 → V' j = begW (A 40) (nI f1) (nI f2) kd j) (p2 : (kd = 4 ∨ kd = 5) → V' (1684 + 11 * hn (A 40) + 9) = x) (p3 : kd = 4 → V' (1684 + 11 * hn (A 40) + 10) = y) (hV : Iv c V') :
    ∃ A1, ex S (d + 5) 156 [.ref 4, .int (nI f1), .int (nI f2), .int kd, .int x, .int y] (Hh k E A L T) = some (.inl (some (.int (nI (hn (A 40))))), Hh k E A1 L T) ∧ Fr A A1 ∧ LkA 4 k E A1 T V' := by
  have hI := Rel_w hR
  have h1 := hI.2.2.2.2.1.1
  have l1 : A 11 0 = nI (hn (A 40)) := (Rel_h hR).1.trans h1
  obtain ⟨A1, run, b10, b11, b12, br⟩ := c_openOn (S := S) (d := d) (k := k) (E := E) (L := L) (T := T) (a := nI f1) (b := nI f2) (kd := kd) (Rel_l hR) l1 h24
  have kd01 : ¬ (kd = 0 ∨ kd = 1) := by
    rintro (e | e) <;> subst e <;> exact absurd hk.1 (by decide)
  refine ⟨up (up A1 12 (264 + hn (A 40)) x) 12 (288 + hn (A 40)) y, ?_, ?_, ?_⟩
  · rw [x_X0_openKept, g_X0_openKept_0]
    simp -implicitDefEqProofs only [hc_4, run, q_I, if_neg (nI_m1 (show hn (A 40) < 2 ^ 31 by omega)), hv_4_2, hc_11, ts_11 h24, ts_12 h24, q_U]
  · refine ⟨fun r hr => ?_, ?_, ?_⟩
    · rw [up_ne (by omega), up_ne (by omega)]; exact br r (by omega) (by omega) (by omega)
    · rw [up_ne (by decide), up_ne (by decide), br 36 (by decide) (by decide) (by decide)]
    · rw [up_ne (by decide), up_ne (by decide), br 36 (by decide) (by decide) (by decide)]
  · generalize hH : hn (A 40) = h at *
    have pn : V' 1683 = nI (h + 1) := by rw [p1 1683 (by omega) (by omega), beg_n, hH]
    have pw : ∀ g w, g < h → w < 11 → V' (1684 + 11 * g + w) = A 40 (1684 + 11 * g + w) := fun g w hg hw => by
      rw [p1 _ (by omega) (by omega), beg_o (by omega) (by omega) (by omega)]
    have pf : ∀ f, f < 48 → ∀ w, w < 14 → V' (8 + 14 * f + w) = begW (A 40) (nI f1) (nI f2) kd (8 + 14 * f + w) := fun f hf w hw => p1 _ (by omega) (by omega)
    have pfo : ∀ g, fo V' g = fo (begW (A 40) (nI f1) (nI f2) kd) g := fun g => fo_congr (fun f hf => pf f hf 10 (by decide)) g
    have hm : ∃ f, f < 48 ∧ ¬ inW (nI f) (nI f1) (nI f2) = 0 := ⟨f1, hf1, inW_self _⟩
    have r12 : up (up A1 12 (264 + h) x) 12 (288 + h) y 12 = upd (upd (upd (upd (upd (opN (A 12) h 13) (0 + h) kd) (120 + h) (-1)) (24 + h) (nI (cntF (fun f => decide (¬ inW (nI f) (nI f1) (nI f2) = 0)) 48))) (264 + h) x) (288 + h) y := by rw [up_eq, up_eq, b12]
    refine LkA_open hI hR.2.1 (by omega) (fun j j1 j2 j3 => by rw [p1 j (by omega) (by omega), beg_o j1 (by omega) (by omega)]) ?_ (by rw [hH]; exact pn) ?_ ?_ (fun r r1 r2 r3 r4 => by rw [up_ne r3, up_ne r3]; exact br r r1 r2 r3) (fun r hr => by have := hr.1; rw [up_ne (by omega), up_ne (by omega)]; exact br r (by omega) (by omega) (by omega)) rfl (Rel_h hR).2.2.1 ?_
    · rw [up_ne (by decide), up_ne (by decide)]
      intro w f hw hf
      rw [b10 w f hw hf, pf f hf w hw, beg_at hf hw, ofN_at hw, hH]
      by_cases q : w = 10 ∧ ¬ inW (nI f) (nI f1) (nI f2) = 0
      · rw [if_pos q, if_pos ⟨hf, q⟩]
      · rw [if_neg q, if_neg (fun r => q r.2)]
    · rw [up_ne (by decide), up_ne (by decide), b11, upd_s, hH]
    · intro g hg
      rw [hH] at hg
      rw [r12]
      by_cases q : g = h
      · subst q
        have hpos : 0 < fo V' g := by
          rw [pfo, ← hH, fo_beg_s (by omega) hI.2.1]
          obtain ⟨f, h1, h2⟩ := hm
          exact cntF_pos h1 (by simp [h2])
        have v0 : V' (1684 + 11 * g + 0) = kd := by rw [p1 _ (by omega) (by omega), ← hH]; exact beg_h (w := 0) (by decide)
        have v4 : V' (1684 + 11 * g + 4) = -1 := by rw [p1 _ (by omega) (by omega), ← hH]; exact beg_h (w := 4) (by decide)
        have vw : ∀ w, w < 9 → w ≠ 0 → w ≠ 4 → V' (1684 + 11 * g + w) = 0 := fun w w1 w2 w3 => by
          rw [p1 _ (by omega) (by omega), ← hH]; rw [beg_h (by omega), if_neg w2, if_neg w3]
        have cw : ∀ w, w < 13 → opN (A 12) g 13 (24 * w + g) = 0 := fun w hw => by unfold opN; rw [if_pos (by omega)]
        unfold LkC
        rw [v0, v4, vw 1 (by decide) (by decide) (by decide), vw 2 (by decide) (by decide) (by decide), vw 3 (by decide) (by decide) (by decide), vw 5 (by decide) (by decide) (by decide), vw 6 (by decide) (by decide) (by decide), vw 7 (by decide) (by decide) (by decide), vw 8 (by decide) (by decide) (by decide)]
        refine ⟨?_, ?_, ?_, ?_, ?_, ?_, ?_, ?_, ?_, ?_, ?_, fun q => ?_, fun q => ?_⟩
        · rw [upd_o (by omega), upd_o (by omega), upd_o (by omega), upd_o (by omega), upd_s]
        · rw [upd_o (by omega), upd_o (by omega), upd_s, pfo, ← hH, fo_beg_s (by omega) hI.2.1]
        · rw [upd_o (by omega), upd_o (by omega), upd_o (by omega), upd_o (by omega), upd_o (by omega)]; exact cw 2 (by decide)
        · rw [upd_o (by omega), upd_o (by omega), upd_o (by omega), upd_o (by omega), upd_o (by omega)]; exact cw 3 (by decide)
        · rw [upd_o (by omega), upd_o (by omega), upd_o (by omega), upd_o (by omega), upd_o (by omega)]; exact cw 4 (by decide)
        · rw [upd_o (by omega), upd_o (by omega), upd_o (by omega), upd_s]
        · rw [upd_o (by omega), upd_o (by omega), upd_o (by omega), upd_o (by omega), upd_o (by omega), if_neg (by omega)]; exact cw 6 (by decide)
        · rw [upd_o (by omega), upd_o (by omega), upd_o (by omega), upd_o (by omega), upd_o (by omega)]; exact cw 7 (by decide)
        · rw [upd_o (by omega), upd_o (by omega), upd_o (by omega), upd_o (by omega), upd_o (by omega)]; exact cw 8 (by decide)
        · rw [upd_o (by omega), upd_o (by omega), upd_o (by omega), upd_o (by omega), upd_o (by omega)]; exact cw 9 (by decide)
        · rw [upd_o (by omega), upd_o (by omega), upd_o (by omega), upd_o (by omega), upd_o (by omega)]; exact cw 10 (by decide)
        · rw [upd_o (by omega), upd_s, p2 q]
        · rw [upd_s, p3 q]
      · have hg' : g < h := by omega
        refine LkC_old (by omega) ((Rel_h hR).2.1 g (by omega)) (fun w hw => ?_) (fun w hw => pw g w hg' hw) ?_
        · rw [upd_o (by omega), upd_o (by omega), upd_o (by omega), upd_o (by omega), upd_o (by omega)]
          unfold opN; rw [if_neg (by omega)]
        · rw [pfo]; exact fo_beg_o (by omega) hfr (by omega)
    · intro g hg hk2
      rw [hH] at hg
      by_cases q : g = h
      · subst q
        rw [p1 _ (by omega) (by omega), ← hH, show begW (A 40) (nI f1) (nI f2) kd (1684 + 11 * hn (A 40) + 0) = kd from beg_h (w := 0) (by decide)] at hk2
        exact absurd hk2 kd01
      · rw [pw g 0 (by omega) (by decide)] at hk2
        obtain ⟨a, e1, t⟩ := (Rel_h hR).2.2.2 g (by omega) hk2
        refine ⟨a, e1, TR_A (TR_c (fun i q1 q2 => ?_) t) (fun r hr => by have := hr.1; rw [up_ne (by omega), up_ne (by omega)]; exact br r (by omega) (by omega) (by omega))⟩
        unfold tx at q1
        rw [p1 i (by omega) (by omega), beg_o (by omega) (by omega) (by omega)]
end KeepB
