/-! by program: methods as data, that they are right, what their bodies do -/
theorem dL_field_0 : decode cL_field 0 = .ok (.aload 7, 2) := by decide +kernel
theorem dL_field_2 : decode cL_field 2 = .ok (.iconst 0, 1) := by decide +kernel
theorem dL_field_3 : decode cL_field 3 = .ok (.aload_n 0, 1) := by decide +kernel
theorem dL_field_4 : decode cL_field 4 = .ok (.iload_n 1, 1) := by decide +kernel
theorem dL_field_5 : decode cL_field 5 = .ok (.iload_n 2, 1) := by decide +kernel
theorem dL_field_6 : decode cL_field 6 = .ok (.iload_n 3, 1) := by decide +kernel
theorem dL_field_7 : decode cL_field 7 = .ok (.iload 4, 2) := by decide +kernel
theorem dL_field_9 : decode cL_field 9 = .ok (.iload 5, 2) := by decide +kernel
theorem dL_field_11 : decode cL_field 11 = .ok (.iload 6, 2) := by decide +kernel
theorem dL_field_13 : decode cL_field 13 = .ok (.invokevirtual 7, 3) := by decide +kernel
theorem dL_field_16 : decode cL_field 16 = .ok (.ifCond .eq 7, 3) := by decide +kernel
theorem dL_field_19 : decode cL_field 19 = .ok (.lconst 1, 1) := by decide +kernel
theorem dL_field_20 : decode cL_field 20 = .ok (.goto 4, 3) := by decide +kernel
theorem dL_field_23 : decode cL_field 23 = .ok (.lconst 0, 1) := by decide +kernel
theorem dL_field_24 : decode cL_field 24 = .ok (.lastore, 1) := by decide +kernel
theorem dL_field_25 : decode cL_field 25 = .ok (.goto 11, 3) := by decide +kernel
theorem dL_field_30 : decode cL_field 30 = .ok (.iconst 1, 1) := by decide +kernel
theorem dL_field_31 : decode cL_field 31 = .ok (.ireturn, 1) := by decide +kernel
theorem dL_field_34 : decode cL_field 34 = .ok (.iconst 2, 1) := by decide +kernel
theorem dL_field_35 : decode cL_field 35 = .ok (.ireturn, 1) := by decide +kernel
theorem dL_field_36 : decode cL_field 36 = .ok (.iconst 0, 1) := by decide +kernel
theorem dL_field_37 : decode cL_field 37 = .ok (.ireturn, 1) := by decide +kernel
theorem dL_field_28 : decode cL_field 28 = .ok (.astore 8, 2) := by decide +kernel
theorem dL_field_32 : decode cL_field 32 = .ok (.astore 8, 2) := by decide +kernel
theorem hcL_field : ∀ E q k, clk [("java/lang/IndexOutOfBoundsException", 30, 8), ("java/lang/IllegalArgumentException", 34, 8)] E = some (q, k) → HC mL_field 13 E q k := by
  intro E q k h
  unfold clk at h
  split at h
  · rename_i he; subst he; cases h
    exact ⟨[], ⟨0, 25, 28, 13⟩, [⟨0, 25, 32, 15⟩], 2, rfl, by decide, (fun z hz => by cases hz), by decide, by decide, tw_in tk_3 (i := 60) rfl rfl, by decide +kernel, Or.inl ⟨dL_field_28, rfl⟩, rfl⟩
  unfold clk at h
  split at h
  · rename_i he; subst he; cases h
    exact ⟨[⟨0, 25, 28, 13⟩], ⟨0, 25, 32, 15⟩, [], 2, rfl, by decide, (by
      intro z hz
      simp only [List.mem_cons, List.not_mem_nil, or_false] at hz
      rcases hz with rfl
      · exact ⟨by decide, "java/lang/IndexOutOfBoundsException", by decide, tw_in tk_3 (i := 60) rfl rfl, by decide⟩), by decide, by decide, tw_in tk_3 (i := 138) rfl rfl, by decide +kernel, Or.inl ⟨dL_field_32, rfl⟩, rfl⟩
  cases h
noncomputable def E_L_field : mE := (mL_field, [(37, [(0, (.aload 7, 2, false, false, 7, 0, 0, 0, 0, 0, [])), (2, (.iconst 0, 3, false, false, 0, 0, 0, 0, 0, 0, [])), (3, (.aload_n 0, 4, false, false, 0, 0, 0, 0, 0, 0, [])), (4, (.iload_n 1, 5, false, false, 1, 0, 0, 0, 0, 0, [])), (5, (.iload_n 2, 6, false, false, 2, 0, 0, 0, 0, 0, [])), (6, (.iload_n 3, 7, false, false, 3, 0, 0, 0, 0, 0, [])), (7, (.iload 4, 9, false, false, 4, 0, 0, 0, 0, 0, [])), (9, (.iload 5, 11, false, false, 5, 0, 0, 0, 0, 0, [])), (11, (.iload 6, 13, false, false, 6, 0, 0, 0, 0, 0, [])), (13, (.invokevirtual 7, 16, false, false, 26, 6, 1, 14, 0, 0, [])), (16, (.ifCond .eq 7, 19, false, false, 23, 0, 0, 0, 0, 0, [])), (19, (.lconst 1, 20, false, false, 0, 0, 0, 0, 0, 1, [])), (20, (.goto 4, 23, false, false, 24, 0, 0, 0, 0, 0, [])), (23, (.lconst 0, 24, false, false, 0, 0, 0, 0, 0, 0, [])), (24, (.lastore, 25, false, false, 0, 0, 0, 0, 0, 0, [])), (25, (.goto 11, 28, false, false, 36, 0, 0, 0, 0, 0, [])), (30, (.iconst 1, 31, false, false, 0, 0, 0, 0, 1, 0, [])), (31, (.ireturn, 32, false, false, 0, 0, 0, 0, 0, 0, [])), (34, (.iconst 2, 35, false, false, 0, 0, 0, 0, 2, 0, [])), (35, (.ireturn, 36, false, false, 0, 0, 0, 0, 0, 0, [])), (36, (.iconst 0, 37, false, false, 0, 0, 0, 0, 0, 0, [])), (37, (.ireturn, 38, false, false, 0, 0, 0, 0, 0, 0, []))])], 1, [("java/lang/IndexOutOfBoundsException", 30, 8), ("java/lang/IllegalArgumentException", 34, 8)])
set_option maxRecDepth 100000 in
theorem v_L_field : VE MYT dflT E_L_field := ⟨⟨⟨⟨⟨dL_field_0, rfl⟩, rfl⟩, ⟨⟨dL_field_2, rfl⟩, rfl⟩, ⟨⟨dL_field_3, rfl⟩, rfl⟩, ⟨⟨dL_field_4, rfl⟩, rfl⟩, ⟨⟨dL_field_5, rfl⟩, rfl⟩, ⟨⟨dL_field_6, rfl⟩, rfl⟩, ⟨⟨dL_field_7, rfl⟩, rfl⟩, ⟨⟨dL_field_9, rfl⟩, rfl⟩, ⟨⟨dL_field_11, rfl⟩, rfl⟩, ⟨⟨dL_field_13, rfl⟩, Or.inr ⟨by decide, ⟨_, my_26, sL_7⟩, fun _ E q k hq => hcL_field E q k hq⟩⟩, ⟨⟨dL_field_16, rfl⟩, rfl⟩, ⟨⟨dL_field_19, rfl⟩, rfl⟩, ⟨⟨dL_field_20, rfl⟩, rfl⟩, ⟨⟨dL_field_23, rfl⟩, rfl⟩, ⟨⟨dL_field_24, rfl⟩, trivial⟩, ⟨⟨dL_field_25, rfl⟩, rfl⟩, ⟨⟨dL_field_30, rfl⟩, rfl⟩, ⟨⟨dL_field_31, rfl⟩, Or.inl ⟨rfl, rfl⟩⟩, ⟨⟨dL_field_34, rfl⟩, rfl⟩, ⟨⟨dL_field_35, rfl⟩, Or.inl ⟨rfl, rfl⟩⟩, ⟨⟨dL_field_36, rfl⟩, rfl⟩, ⟨⟨dL_field_37, rfl⟩, Or.inl ⟨rfl, rfl⟩⟩, trivial⟩, trivial⟩, by decide, Or.inr (Or.inl ⟨rfl, by decide, by decide⟩)⟩
set_option maxRecDepth 100000 in
theorem g_L_field_0 (S : sT) (call : cT) (n : Nat) (v0 : Value) (x1 : Int32) (x2 : Int32) (x3 : Int32) (x4 : Int32) (x5 : Int32) (x6 : Int32) (v7 : Value) (h : pH) : bd S call dflT E_L_field (n + 1) 0 [some (v0), some (.int x1), some (.int x2), some (.int x3), some (.int x4), some (.int x5), some (.int x6), some (v7), none] [] h = (iA v7 (iA v0 (rC h v0 14 (cIx (thrH 1 9 [("java/lang/IndexOutOfBoundsException", 30, 8), ("java/lang/IllegalArgumentException", 34, 8)] [some (v0), some (.int x1), some (.int x2), some (.int x3), some (.int x4), some (.int x5), some (.int x6), some (v7), none] (bd S call dflT E_L_field n)) (call 26 [v0, .int x1, .int x2, .int x3, .int x4, .int x5, .int x6] h) (fun y2 h1 => (if y2 = 0 then sJ h1 v7 0 0 (fun h3 => some (.inl (some (.int 0)), h3)) else sJ h1 v7 0 1 (fun h4 => some (.inl (some (.int 0)), h4)))))))) := rfl
set_option maxRecDepth 100000 in
theorem g_L_field_30 (S : sT) (call : cT) (n : Nat) (v0 : Value) (x1 : Int32) (x2 : Int32) (x3 : Int32) (x4 : Int32) (x5 : Int32) (x6 : Int32) (v7 : Value) (o8 : Option Value) (h : pH) : bd S call dflT E_L_field (n + 1) 30 [some (v0), some (.int x1), some (.int x2), some (.int x3), some (.int x4), some (.int x5), some (.int x6), some (v7), o8] [] h = (some (.inl (some (.int 1)), h)) := rfl
set_option maxRecDepth 100000 in
theorem g_L_field_34 (S : sT) (call : cT) (n : Nat) (v0 : Value) (x1 : Int32) (x2 : Int32) (x3 : Int32) (x4 : Int32) (x5 : Int32) (x6 : Int32) (v7 : Value) (o8 : Option Value) (h : pH) : bd S call dflT E_L_field (n + 1) 34 [some (v0), some (.int x1), some (.int x2), some (.int x3), some (.int x4), some (.int x5), some (.int x6), some (v7), o8] [] h = (some (.inl (some (.int 2)), h)) := rfl
theorem dL_rain_0 : decode cL_rain 0 = .ok (.aload_n 0, 1) := by decide +kernel
theorem dL_rain_1 : decode cL_rain 1 = .ok (.iload_n 1, 1) := by decide +kernel
theorem dL_rain_2 : decode cL_rain 2 = .ok (.iload_n 2, 1) := by decide +kernel
theorem dL_rain_3 : decode cL_rain 3 = .ok (.iload_n 3, 1) := by decide +kernel
theorem dL_rain_4 : decode cL_rain 4 = .ok (.invokevirtual 17, 3) := by decide +kernel
theorem dL_rain_7 : decode cL_rain 7 = .ok (.goto 7, 3) := by decide +kernel
theorem dL_rain_12 : decode cL_rain 12 = .ok (.iconst 1, 1) := by decide +kernel
theorem dL_rain_13 : decode cL_rain 13 = .ok (.ireturn, 1) := by decide +kernel
theorem dL_rain_14 : decode cL_rain 14 = .ok (.iconst 0, 1) := by decide +kernel
theorem dL_rain_15 : decode cL_rain 15 = .ok (.ireturn, 1) := by decide +kernel
theorem dL_rain_10 : decode cL_rain 10 = .ok (.astore 4, 2) := by decide +kernel
theorem hcL_rain : ∀ E q k, clk [("java/lang/IllegalArgumentException", 12, 4)] E = some (q, k) → HC mL_rain 4 E q k := by
  intro E q k h
  unfold clk at h
  split at h
  · rename_i he; subst he; cases h
    exact ⟨[], ⟨0, 7, 10, 15⟩, [], 2, rfl, by decide, (fun z hz => by cases hz), by decide, by decide, tw_in tk_3 (i := 138) rfl rfl, by decide +kernel, Or.inl ⟨dL_rain_10, rfl⟩, rfl⟩
  cases h
noncomputable def E_L_rain : mE := (mL_rain, [(15, [(0, (.aload_n 0, 1, false, false, 0, 0, 0, 0, 0, 0, [])), (1, (.iload_n 1, 2, false, false, 1, 0, 0, 0, 0, 0, [])), (2, (.iload_n 2, 3, false, false, 2, 0, 0, 0, 0, 0, [])), (3, (.iload_n 3, 4, false, false, 3, 0, 0, 0, 0, 0, [])), (4, (.invokevirtual 17, 7, false, false, 35, 3, 0, 14, 0, 0, [])), (7, (.goto 7, 10, false, false, 14, 0, 0, 0, 0, 0, [])), (12, (.iconst 1, 13, false, false, 0, 0, 0, 0, 1, 0, [])), (13, (.ireturn, 14, false, false, 0, 0, 0, 0, 0, 0, [])), (14, (.iconst 0, 15, false, false, 0, 0, 0, 0, 0, 0, [])), (15, (.ireturn, 16, false, false, 0, 0, 0, 0, 0, 0, []))])], 1, [("java/lang/IllegalArgumentException", 12, 4)])
set_option maxRecDepth 100000 in
theorem v_L_rain : VE MYT dflT E_L_rain := ⟨⟨⟨⟨⟨dL_rain_0, rfl⟩, rfl⟩, ⟨⟨dL_rain_1, rfl⟩, rfl⟩, ⟨⟨dL_rain_2, rfl⟩, rfl⟩, ⟨⟨dL_rain_3, rfl⟩, rfl⟩, ⟨⟨dL_rain_4, rfl⟩, Or.inr ⟨by decide, ⟨_, my_35, sL_17⟩, fun _ E q k hq => hcL_rain E q k hq⟩⟩, ⟨⟨dL_rain_7, rfl⟩, rfl⟩, ⟨⟨dL_rain_12, rfl⟩, rfl⟩, ⟨⟨dL_rain_13, rfl⟩, Or.inl ⟨rfl, rfl⟩⟩, ⟨⟨dL_rain_14, rfl⟩, rfl⟩, ⟨⟨dL_rain_15, rfl⟩, Or.inl ⟨rfl, rfl⟩⟩, trivial⟩, trivial⟩, by decide, Or.inr (Or.inl ⟨rfl, by decide, by decide⟩)⟩
set_option maxRecDepth 100000 in
theorem g_L_rain_0 (S : sT) (call : cT) (n : Nat) (v0 : Value) (x1 : Int32) (x2 : Int32) (x3 : Int32) (h : pH) : bd S call dflT E_L_rain (n + 1) 0 [some (v0), some (.int x1), some (.int x2), some (.int x3), none] [] h = (iA v0 (rC h v0 14 (cUx (thrH 1 5 [("java/lang/IllegalArgumentException", 12, 4)] [some (v0), some (.int x1), some (.int x2), some (.int x3), none] (bd S call dflT E_L_rain n)) (call 35 [v0, .int x1, .int x2, .int x3] h) (fun h1 => some (.inl (some (.int 0)), h1))))) := rfl
set_option maxRecDepth 100000 in
theorem g_L_rain_12 (S : sT) (call : cT) (n : Nat) (v0 : Value) (x1 : Int32) (x2 : Int32) (x3 : Int32) (o4 : Option Value) (h : pH) : bd S call dflT E_L_rain (n + 1) 12 [some (v0), some (.int x1), some (.int x2), some (.int x3), o4] [] h = (some (.inl (some (.int 1)), h)) := rfl
theorem dL_fell_0 : decode cL_fell 0 = .ok (.aload_n 2, 1) := by decide +kernel
theorem dL_fell_1 : decode cL_fell 1 = .ok (.iconst 0, 1) := by decide +kernel
theorem dL_fell_2 : decode cL_fell 2 = .ok (.aload_n 0, 1) := by decide +kernel
theorem dL_fell_3 : decode cL_fell 3 = .ok (.iload_n 1, 1) := by decide +kernel
theorem dL_fell_4 : decode cL_fell 4 = .ok (.invokevirtual 21, 3) := by decide +kernel
theorem dL_fell_7 : decode cL_fell 7 = .ok (.i2l, 1) := by decide +kernel
theorem dL_fell_8 : decode cL_fell 8 = .ok (.lastore, 1) := by decide +kernel
theorem dL_fell_9 : decode cL_fell 9 = .ok (.goto 6, 3) := by decide +kernel
theorem dL_fell_13 : decode cL_fell 13 = .ok (.iconst 1, 1) := by decide +kernel
theorem dL_fell_14 : decode cL_fell 14 = .ok (.ireturn, 1) := by decide +kernel
theorem dL_fell_15 : decode cL_fell 15 = .ok (.iconst 0, 1) := by decide +kernel
theorem dL_fell_16 : decode cL_fell 16 = .ok (.ireturn, 1) := by decide +kernel
theorem dL_fell_12 : decode cL_fell 12 = .ok (.astore_n 3, 1) := by decide +kernel
theorem hcL_fell : ∀ E q k, clk [("java/lang/IllegalArgumentException", 13, 3)] E = some (q, k) → HC mL_fell 4 E q k := by
  intro E q k h
  unfold clk at h
  split at h
  · rename_i he; subst he; cases h
    exact ⟨[], ⟨0, 9, 12, 15⟩, [], 1, rfl, by decide, (fun z hz => by cases hz), by decide, by decide, tw_in tk_3 (i := 138) rfl rfl, by decide +kernel, Or.inr ⟨3, rfl, dL_fell_12, rfl⟩, rfl⟩
  cases h
noncomputable def E_L_fell : mE := (mL_fell, [(16, [(0, (.aload_n 2, 1, false, false, 2, 0, 0, 0, 0, 0, [])), (1, (.iconst 0, 2, false, false, 0, 0, 0, 0, 0, 0, [])), (2, (.aload_n 0, 3, false, false, 0, 0, 0, 0, 0, 0, [])), (3, (.iload_n 1, 4, false, false, 1, 0, 0, 0, 0, 0, [])), (4, (.invokevirtual 21, 7, false, false, 40, 1, 1, 14, 0, 0, [])), (7, (.i2l, 8, false, false, 0, 0, 0, 0, 0, 0, [])), (8, (.lastore, 9, false, false, 0, 0, 0, 0, 0, 0, [])), (9, (.goto 6, 12, false, false, 15, 0, 0, 0, 0, 0, [])), (13, (.iconst 1, 14, false, false, 0, 0, 0, 0, 1, 0, [])), (14, (.ireturn, 15, false, false, 0, 0, 0, 0, 0, 0, [])), (15, (.iconst 0, 16, false, false, 0, 0, 0, 0, 0, 0, [])), (16, (.ireturn, 17, false, false, 0, 0, 0, 0, 0, 0, []))])], 1, [("java/lang/IllegalArgumentException", 13, 3)])
set_option maxRecDepth 100000 in
theorem v_L_fell : VE MYT dflT E_L_fell := ⟨⟨⟨⟨⟨dL_fell_0, rfl⟩, rfl⟩, ⟨⟨dL_fell_1, rfl⟩, rfl⟩, ⟨⟨dL_fell_2, rfl⟩, rfl⟩, ⟨⟨dL_fell_3, rfl⟩, rfl⟩, ⟨⟨dL_fell_4, rfl⟩, Or.inr ⟨by decide, ⟨_, my_40, sL_21⟩, fun _ E q k hq => hcL_fell E q k hq⟩⟩, ⟨⟨dL_fell_7, rfl⟩, trivial⟩, ⟨⟨dL_fell_8, rfl⟩, trivial⟩, ⟨⟨dL_fell_9, rfl⟩, rfl⟩, ⟨⟨dL_fell_13, rfl⟩, rfl⟩, ⟨⟨dL_fell_14, rfl⟩, Or.inl ⟨rfl, rfl⟩⟩, ⟨⟨dL_fell_15, rfl⟩, rfl⟩, ⟨⟨dL_fell_16, rfl⟩, Or.inl ⟨rfl, rfl⟩⟩, trivial⟩, trivial⟩, by decide, Or.inr (Or.inl ⟨rfl, by decide, by decide⟩)⟩
set_option maxRecDepth 100000 in
theorem g_L_fell_0 (S : sT) (call : cT) (n : Nat) (v0 : Value) (x1 : Int32) (v2 : Value) (h : pH) : bd S call dflT E_L_fell (n + 1) 0 [some (v0), some (.int x1), some (v2), none] [] h = (iA v2 (iA v0 (rC h v0 14 (cIx (thrH 1 4 [("java/lang/IllegalArgumentException", 13, 3)] [some (v0), some (.int x1), some (v2), none] (bd S call dflT E_L_fell n)) (call 40 [v0, .int x1] h) (fun y2 h1 => sJ h1 v2 0 y2.toInt64 (fun h3 => some (.inl (some (.int 0)), h3))))))) := rfl
set_option maxRecDepth 100000 in
theorem g_L_fell_13 (S : sT) (call : cT) (n : Nat) (v0 : Value) (x1 : Int32) (v2 : Value) (o3 : Option Value) (h : pH) : bd S call dflT E_L_fell (n + 1) 13 [some (v0), some (.int x1), some (v2), o3] [] h = (some (.inl (some (.int 1)), h)) := rfl
theorem dL_price_0 : decode cL_price 0 = .ok (.aload 4, 2) := by decide +kernel
theorem dL_price_2 : decode cL_price 2 = .ok (.iconst 0, 1) := by decide +kernel
theorem dL_price_3 : decode cL_price 3 = .ok (.aload_n 0, 1) := by decide +kernel
theorem dL_price_4 : decode cL_price 4 = .ok (.iload_n 1, 1) := by decide +kernel
theorem dL_price_5 : decode cL_price 5 = .ok (.iload_n 2, 1) := by decide +kernel
theorem dL_price_6 : decode cL_price 6 = .ok (.iload_n 3, 1) := by decide +kernel
theorem dL_price_7 : decode cL_price 7 = .ok (.invokevirtual 25, 3) := by decide +kernel
theorem dL_price_10 : decode cL_price 10 = .ok (.i2l, 1) := by decide +kernel
theorem dL_price_11 : decode cL_price 11 = .ok (.lastore, 1) := by decide +kernel
theorem dL_price_12 : decode cL_price 12 = .ok (.goto 7, 3) := by decide +kernel
theorem dL_price_17 : decode cL_price 17 = .ok (.iconst 1, 1) := by decide +kernel
theorem dL_price_18 : decode cL_price 18 = .ok (.ireturn, 1) := by decide +kernel
theorem dL_price_19 : decode cL_price 19 = .ok (.iconst 0, 1) := by decide +kernel
theorem dL_price_20 : decode cL_price 20 = .ok (.ireturn, 1) := by decide +kernel
theorem dL_price_15 : decode cL_price 15 = .ok (.astore 5, 2) := by decide +kernel
theorem hcL_price : ∀ E q k, clk [("java/lang/IllegalArgumentException", 17, 5)] E = some (q, k) → HC mL_price 7 E q k := by
  intro E q k h
  unfold clk at h
  split at h
  · rename_i he; subst he; cases h
    exact ⟨[], ⟨0, 12, 15, 15⟩, [], 2, rfl, by decide, (fun z hz => by cases hz), by decide, by decide, tw_in tk_3 (i := 138) rfl rfl, by decide +kernel, Or.inl ⟨dL_price_15, rfl⟩, rfl⟩
  cases h
noncomputable def E_L_price : mE := (mL_price, [(20, [(0, (.aload 4, 2, false, false, 4, 0, 0, 0, 0, 0, [])), (2, (.iconst 0, 3, false, false, 0, 0, 0, 0, 0, 0, [])), (3, (.aload_n 0, 4, false, false, 0, 0, 0, 0, 0, 0, [])), (4, (.iload_n 1, 5, false, false, 1, 0, 0, 0, 0, 0, [])), (5, (.iload_n 2, 6, false, false, 2, 0, 0, 0, 0, 0, [])), (6, (.iload_n 3, 7, false, false, 3, 0, 0, 0, 0, 0, [])), (7, (.invokevirtual 25, 10, false, false, 46, 3, 1, 14, 0, 0, [])), (10, (.i2l, 11, false, false, 0, 0, 0, 0, 0, 0, [])), (11, (.lastore, 12, false, false, 0, 0, 0, 0, 0, 0, [])), (12, (.goto 7, 15, false, false, 19, 0, 0, 0, 0, 0, [])), (17, (.iconst 1, 18, false, false, 0, 0, 0, 0, 1, 0, [])), (18, (.ireturn, 19, false, false, 0, 0, 0, 0, 0, 0, [])), (19, (.iconst 0, 20, false, false, 0, 0, 0, 0, 0, 0, [])), (20, (.ireturn, 21, false, false, 0, 0, 0, 0, 0, 0, []))])], 1, [("java/lang/IllegalArgumentException", 17, 5)])
set_option maxRecDepth 100000 in
theorem v_L_price : VE MYT dflT E_L_price := ⟨⟨⟨⟨⟨dL_price_0, rfl⟩, rfl⟩, ⟨⟨dL_price_2, rfl⟩, rfl⟩, ⟨⟨dL_price_3, rfl⟩, rfl⟩, ⟨⟨dL_price_4, rfl⟩, rfl⟩, ⟨⟨dL_price_5, rfl⟩, rfl⟩, ⟨⟨dL_price_6, rfl⟩, rfl⟩, ⟨⟨dL_price_7, rfl⟩, Or.inr ⟨by decide, ⟨_, my_46, sL_25⟩, fun _ E q k hq => hcL_price E q k hq⟩⟩, ⟨⟨dL_price_10, rfl⟩, trivial⟩, ⟨⟨dL_price_11, rfl⟩, trivial⟩, ⟨⟨dL_price_12, rfl⟩, rfl⟩, ⟨⟨dL_price_17, rfl⟩, rfl⟩, ⟨⟨dL_price_18, rfl⟩, Or.inl ⟨rfl, rfl⟩⟩, ⟨⟨dL_price_19, rfl⟩, rfl⟩, ⟨⟨dL_price_20, rfl⟩, Or.inl ⟨rfl, rfl⟩⟩, trivial⟩, trivial⟩, by decide, Or.inr (Or.inl ⟨rfl, by decide, by decide⟩)⟩
set_option maxRecDepth 100000 in
theorem g_L_price_0 (S : sT) (call : cT) (n : Nat) (v0 : Value) (x1 : Int32) (x2 : Int32) (x3 : Int32) (v4 : Value) (h : pH) : bd S call dflT E_L_price (n + 1) 0 [some (v0), some (.int x1), some (.int x2), some (.int x3), some (v4), none] [] h = (iA v4 (iA v0 (rC h v0 14 (cIx (thrH 1 6 [("java/lang/IllegalArgumentException", 17, 5)] [some (v0), some (.int x1), some (.int x2), some (.int x3), some (v4), none] (bd S call dflT E_L_price n)) (call 46 [v0, .int x1, .int x2, .int x3] h) (fun y2 h1 => sJ h1 v4 0 y2.toInt64 (fun h3 => some (.inl (some (.int 0)), h3))))))) := rfl
set_option maxRecDepth 100000 in
theorem g_L_price_17 (S : sT) (call : cT) (n : Nat) (v0 : Value) (x1 : Int32) (x2 : Int32) (x3 : Int32) (v4 : Value) (o5 : Option Value) (h : pH) : bd S call dflT E_L_price (n + 1) 17 [some (v0), some (.int x1), some (.int x2), some (.int x3), some (v4), o5] [] h = (some (.inl (some (.int 1)), h)) := rfl
theorem dL_known_0 : decode cL_known 0 = .ok (.aload 4, 2) := by decide +kernel
theorem dL_known_2 : decode cL_known 2 = .ok (.iconst 0, 1) := by decide +kernel
theorem dL_known_3 : decode cL_known 3 = .ok (.aload_n 0, 1) := by decide +kernel
theorem dL_known_4 : decode cL_known 4 = .ok (.iload_n 1, 1) := by decide +kernel
theorem dL_known_5 : decode cL_known 5 = .ok (.iload_n 2, 1) := by decide +kernel
theorem dL_known_6 : decode cL_known 6 = .ok (.iload_n 3, 1) := by decide +kernel
theorem dL_known_7 : decode cL_known 7 = .ok (.invokevirtual 29, 3) := by decide +kernel
theorem dL_known_10 : decode cL_known 10 = .ok (.i2l, 1) := by decide +kernel
theorem dL_known_11 : decode cL_known 11 = .ok (.lastore, 1) := by decide +kernel
theorem dL_known_12 : decode cL_known 12 = .ok (.goto 7, 3) := by decide +kernel
theorem dL_known_17 : decode cL_known 17 = .ok (.iconst 1, 1) := by decide +kernel
theorem dL_known_18 : decode cL_known 18 = .ok (.ireturn, 1) := by decide +kernel
theorem dL_known_19 : decode cL_known 19 = .ok (.iconst 0, 1) := by decide +kernel
theorem dL_known_20 : decode cL_known 20 = .ok (.ireturn, 1) := by decide +kernel
theorem dL_known_15 : decode cL_known 15 = .ok (.astore 5, 2) := by decide +kernel
theorem hcL_known : ∀ E q k, clk [("java/lang/IllegalArgumentException", 17, 5)] E = some (q, k) → HC mL_known 7 E q k := by
  intro E q k h
  unfold clk at h
  split at h
  · rename_i he; subst he; cases h
    exact ⟨[], ⟨0, 12, 15, 15⟩, [], 2, rfl, by decide, (fun z hz => by cases hz), by decide, by decide, tw_in tk_3 (i := 138) rfl rfl, by decide +kernel, Or.inl ⟨dL_known_15, rfl⟩, rfl⟩
  cases h
noncomputable def E_L_known : mE := (mL_known, [(20, [(0, (.aload 4, 2, false, false, 4, 0, 0, 0, 0, 0, [])), (2, (.iconst 0, 3, false, false, 0, 0, 0, 0, 0, 0, [])), (3, (.aload_n 0, 4, false, false, 0, 0, 0, 0, 0, 0, [])), (4, (.iload_n 1, 5, false, false, 1, 0, 0, 0, 0, 0, [])), (5, (.iload_n 2, 6, false, false, 2, 0, 0, 0, 0, 0, [])), (6, (.iload_n 3, 7, false, false, 3, 0, 0, 0, 0, 0, [])), (7, (.invokevirtual 29, 10, false, false, 51, 3, 1, 14, 0, 0, [])), (10, (.i2l, 11, false, false, 0, 0, 0, 0, 0, 0, [])), (11, (.lastore, 12, false, false, 0, 0, 0, 0, 0, 0, [])), (12, (.goto 7, 15, false, false, 19, 0, 0, 0, 0, 0, [])), (17, (.iconst 1, 18, false, false, 0, 0, 0, 0, 1, 0, [])), (18, (.ireturn, 19, false, false, 0, 0, 0, 0, 0, 0, [])), (19, (.iconst 0, 20, false, false, 0, 0, 0, 0, 0, 0, [])), (20, (.ireturn, 21, false, false, 0, 0, 0, 0, 0, 0, []))])], 1, [("java/lang/IllegalArgumentException", 17, 5)])
set_option maxRecDepth 100000 in
theorem v_L_known : VE MYT dflT E_L_known := ⟨⟨⟨⟨⟨dL_known_0, rfl⟩, rfl⟩, ⟨⟨dL_known_2, rfl⟩, rfl⟩, ⟨⟨dL_known_3, rfl⟩, rfl⟩, ⟨⟨dL_known_4, rfl⟩, rfl⟩, ⟨⟨dL_known_5, rfl⟩, rfl⟩, ⟨⟨dL_known_6, rfl⟩, rfl⟩, ⟨⟨dL_known_7, rfl⟩, Or.inr ⟨by decide, ⟨_, my_51, sL_29⟩, fun _ E q k hq => hcL_known E q k hq⟩⟩, ⟨⟨dL_known_10, rfl⟩, trivial⟩, ⟨⟨dL_known_11, rfl⟩, trivial⟩, ⟨⟨dL_known_12, rfl⟩, rfl⟩, ⟨⟨dL_known_17, rfl⟩, rfl⟩, ⟨⟨dL_known_18, rfl⟩, Or.inl ⟨rfl, rfl⟩⟩, ⟨⟨dL_known_19, rfl⟩, rfl⟩, ⟨⟨dL_known_20, rfl⟩, Or.inl ⟨rfl, rfl⟩⟩, trivial⟩, trivial⟩, by decide, Or.inr (Or.inl ⟨rfl, by decide, by decide⟩)⟩
set_option maxRecDepth 100000 in
theorem g_L_known_0 (S : sT) (call : cT) (n : Nat) (v0 : Value) (x1 : Int32) (x2 : Int32) (x3 : Int32) (v4 : Value) (h : pH) : bd S call dflT E_L_known (n + 1) 0 [some (v0), some (.int x1), some (.int x2), some (.int x3), some (v4), none] [] h = (iA v4 (iA v0 (rC h v0 14 (cIx (thrH 1 6 [("java/lang/IllegalArgumentException", 17, 5)] [some (v0), some (.int x1), some (.int x2), some (.int x3), some (v4), none] (bd S call dflT E_L_known n)) (call 51 [v0, .int x1, .int x2, .int x3] h) (fun y2 h1 => sJ h1 v4 0 y2.toInt64 (fun h3 => some (.inl (some (.int 0)), h3))))))) := rfl
set_option maxRecDepth 100000 in
theorem g_L_known_17 (S : sT) (call : cT) (n : Nat) (v0 : Value) (x1 : Int32) (x2 : Int32) (x3 : Int32) (v4 : Value) (o5 : Option Value) (h : pH) : bd S call dflT E_L_known (n + 1) 17 [some (v0), some (.int x1), some (.int x2), some (.int x3), some (v4), o5] [] h = (some (.inl (some (.int 1)), h)) := rfl
theorem dL_let_0 : decode cL_let 0 = .ok (.aload 6, 2) := by decide +kernel
theorem dL_let_2 : decode cL_let 2 = .ok (.iconst 0, 1) := by decide +kernel
theorem dL_let_3 : decode cL_let 3 = .ok (.aload_n 0, 1) := by decide +kernel
theorem dL_let_4 : decode cL_let 4 = .ok (.iload_n 1, 1) := by decide +kernel
theorem dL_let_5 : decode cL_let 5 = .ok (.iload_n 2, 1) := by decide +kernel
theorem dL_let_6 : decode cL_let 6 = .ok (.iload_n 3, 1) := by decide +kernel
theorem dL_let_7 : decode cL_let 7 = .ok (.iload 4, 2) := by decide +kernel
theorem dL_let_9 : decode cL_let 9 = .ok (.iload 5, 2) := by decide +kernel
theorem dL_let_11 : decode cL_let 11 = .ok (.invokevirtual 32, 3) := by decide +kernel
theorem dL_let_14 : decode cL_let 14 = .ok (.i2l, 1) := by decide +kernel
theorem dL_let_15 : decode cL_let 15 = .ok (.lastore, 1) := by decide +kernel
theorem dL_let_16 : decode cL_let 16 = .ok (.goto 11, 3) := by decide +kernel
theorem dL_let_21 : decode cL_let 21 = .ok (.iconst 1, 1) := by decide +kernel
theorem dL_let_22 : decode cL_let 22 = .ok (.ireturn, 1) := by decide +kernel
theorem dL_let_25 : decode cL_let 25 = .ok (.iconst 2, 1) := by decide +kernel
theorem dL_let_26 : decode cL_let 26 = .ok (.ireturn, 1) := by decide +kernel
theorem dL_let_27 : decode cL_let 27 = .ok (.iconst 0, 1) := by decide +kernel
theorem dL_let_28 : decode cL_let 28 = .ok (.ireturn, 1) := by decide +kernel
theorem dL_let_19 : decode cL_let 19 = .ok (.astore 7, 2) := by decide +kernel
theorem dL_let_23 : decode cL_let 23 = .ok (.astore 7, 2) := by decide +kernel
theorem hcL_let : ∀ E q k, clk [("java/lang/IndexOutOfBoundsException", 21, 7), ("java/lang/IllegalArgumentException", 25, 7)] E = some (q, k) → HC mL_let 11 E q k := by
  intro E q k h
  unfold clk at h
  split at h
  · rename_i he; subst he; cases h
    exact ⟨[], ⟨0, 16, 19, 13⟩, [⟨0, 16, 23, 15⟩], 2, rfl, by decide, (fun z hz => by cases hz), by decide, by decide, tw_in tk_3 (i := 60) rfl rfl, by decide +kernel, Or.inl ⟨dL_let_19, rfl⟩, rfl⟩
  unfold clk at h
  split at h
  · rename_i he; subst he; cases h
    exact ⟨[⟨0, 16, 19, 13⟩], ⟨0, 16, 23, 15⟩, [], 2, rfl, by decide, (by
      intro z hz
      simp only [List.mem_cons, List.not_mem_nil, or_false] at hz
      rcases hz with rfl
      · exact ⟨by decide, "java/lang/IndexOutOfBoundsException", by decide, tw_in tk_3 (i := 60) rfl rfl, by decide⟩), by decide, by decide, tw_in tk_3 (i := 138) rfl rfl, by decide +kernel, Or.inl ⟨dL_let_23, rfl⟩, rfl⟩
  cases h
noncomputable def E_L_let : mE := (mL_let, [(28, [(0, (.aload 6, 2, false, false, 6, 0, 0, 0, 0, 0, [])), (2, (.iconst 0, 3, false, false, 0, 0, 0, 0, 0, 0, [])), (3, (.aload_n 0, 4, false, false, 0, 0, 0, 0, 0, 0, [])), (4, (.iload_n 1, 5, false, false, 1, 0, 0, 0, 0, 0, [])), (5, (.iload_n 2, 6, false, false, 2, 0, 0, 0, 0, 0, [])), (6, (.iload_n 3, 7, false, false, 3, 0, 0, 0, 0, 0, [])), (7, (.iload 4, 9, false, false, 4, 0, 0, 0, 0, 0, [])), (9, (.iload 5, 11, false, false, 5, 0, 0, 0, 0, 0, [])), (11, (.invokevirtual 32, 14, false, false, 110, 5, 1, 14, 0, 0, [])), (14, (.i2l, 15, false, false, 0, 0, 0, 0, 0, 0, [])), (15, (.lastore, 16, false, false, 0, 0, 0, 0, 0, 0, [])), (16, (.goto 11, 19, false, false, 27, 0, 0, 0, 0, 0, [])), (21, (.iconst 1, 22, false, false, 0, 0, 0, 0, 1, 0, [])), (22, (.ireturn, 23, false, false, 0, 0, 0, 0, 0, 0, [])), (25, (.iconst 2, 26, false, false, 0, 0, 0, 0, 2, 0, [])), (26, (.ireturn, 27, false, false, 0, 0, 0, 0, 0, 0, [])), (27, (.iconst 0, 28, false, false, 0, 0, 0, 0, 0, 0, [])), (28, (.ireturn, 29, false, false, 0, 0, 0, 0, 0, 0, []))])], 1, [("java/lang/IndexOutOfBoundsException", 21, 7), ("java/lang/IllegalArgumentException", 25, 7)])
set_option maxRecDepth 100000 in
theorem v_L_let : VE MYT dflT E_L_let := ⟨⟨⟨⟨⟨dL_let_0, rfl⟩, rfl⟩, ⟨⟨dL_let_2, rfl⟩, rfl⟩, ⟨⟨dL_let_3, rfl⟩, rfl⟩, ⟨⟨dL_let_4, rfl⟩, rfl⟩, ⟨⟨dL_let_5, rfl⟩, rfl⟩, ⟨⟨dL_let_6, rfl⟩, rfl⟩, ⟨⟨dL_let_7, rfl⟩, rfl⟩, ⟨⟨dL_let_9, rfl⟩, rfl⟩, ⟨⟨dL_let_11, rfl⟩, Or.inr ⟨by decide, ⟨_, my_110, sL_32⟩, fun _ E q k hq => hcL_let E q k hq⟩⟩, ⟨⟨dL_let_14, rfl⟩, trivial⟩, ⟨⟨dL_let_15, rfl⟩, trivial⟩, ⟨⟨dL_let_16, rfl⟩, rfl⟩, ⟨⟨dL_let_21, rfl⟩, rfl⟩, ⟨⟨dL_let_22, rfl⟩, Or.inl ⟨rfl, rfl⟩⟩, ⟨⟨dL_let_25, rfl⟩, rfl⟩, ⟨⟨dL_let_26, rfl⟩, Or.inl ⟨rfl, rfl⟩⟩, ⟨⟨dL_let_27, rfl⟩, rfl⟩, ⟨⟨dL_let_28, rfl⟩, Or.inl ⟨rfl, rfl⟩⟩, trivial⟩, trivial⟩, by decide, Or.inr (Or.inl ⟨rfl, by decide, by decide⟩)⟩
set_option maxRecDepth 100000 in
theorem g_L_let_0 (S : sT) (call : cT) (n : Nat) (v0 : Value) (x1 : Int32) (x2 : Int32) (x3 : Int32) (x4 : Int32) (x5 : Int32) (v6 : Value) (h : pH) : bd S call dflT E_L_let (n + 1) 0 [some (v0), some (.int x1), some (.int x2), some (.int x3), some (.int x4), some (.int x5), some (v6), none] [] h = (iA v6 (iA v0 (rC h v0 14 (cIx (thrH 1 8 [("java/lang/IndexOutOfBoundsException", 21, 7), ("java/lang/IllegalArgumentException", 25, 7)] [some (v0), some (.int x1), some (.int x2), some (.int x3), some (.int x4), some (.int x5), some (v6), none] (bd S call dflT E_L_let n)) (call 110 [v0, .int x1, .int x2, .int x3, .int x4, .int x5] h) (fun y2 h1 => sJ h1 v6 0 y2.toInt64 (fun h3 => some (.inl (some (.int 0)), h3))))))) := rfl
set_option maxRecDepth 100000 in
theorem g_L_let_21 (S : sT) (call : cT) (n : Nat) (v0 : Value) (x1 : Int32) (x2 : Int32) (x3 : Int32) (x4 : Int32) (x5 : Int32) (v6 : Value) (o7 : Option Value) (h : pH) : bd S call dflT E_L_let (n + 1) 21 [some (v0), some (.int x1), some (.int x2), some (.int x3), some (.int x4), some (.int x5), some (v6), o7] [] h = (some (.inl (some (.int 1)), h)) := rfl
set_option maxRecDepth 100000 in
theorem g_L_let_25 (S : sT) (call : cT) (n : Nat) (v0 : Value) (x1 : Int32) (x2 : Int32) (x3 : Int32) (x4 : Int32) (x5 : Int32) (v6 : Value) (o7 : Option Value) (h : pH) : bd S call dflT E_L_let (n + 1) 25 [some (v0), some (.int x1), some (.int x2), some (.int x3), some (.int x4), some (.int x5), some (v6), o7] [] h = (some (.inl (some (.int 2)), h)) := rfl
theorem dL_keep_0 : decode cL_keep 0 = .ok (.aload 6, 2) := by decide +kernel
theorem dL_keep_2 : decode cL_keep 2 = .ok (.iconst 0, 1) := by decide +kernel
theorem dL_keep_3 : decode cL_keep 3 = .ok (.aload_n 0, 1) := by decide +kernel
theorem dL_keep_4 : decode cL_keep 4 = .ok (.iload_n 1, 1) := by decide +kernel
theorem dL_keep_5 : decode cL_keep 5 = .ok (.iload_n 2, 1) := by decide +kernel
theorem dL_keep_6 : decode cL_keep 6 = .ok (.iload_n 3, 1) := by decide +kernel
theorem dL_keep_7 : decode cL_keep 7 = .ok (.iload 4, 2) := by decide +kernel
theorem dL_keep_9 : decode cL_keep 9 = .ok (.iload 5, 2) := by decide +kernel
theorem dL_keep_11 : decode cL_keep 11 = .ok (.invokevirtual 36, 3) := by decide +kernel
theorem dL_keep_14 : decode cL_keep 14 = .ok (.i2l, 1) := by decide +kernel
theorem dL_keep_15 : decode cL_keep 15 = .ok (.lastore, 1) := by decide +kernel
theorem dL_keep_16 : decode cL_keep 16 = .ok (.goto 11, 3) := by decide +kernel
theorem dL_keep_21 : decode cL_keep 21 = .ok (.iconst 1, 1) := by decide +kernel
theorem dL_keep_22 : decode cL_keep 22 = .ok (.ireturn, 1) := by decide +kernel
theorem dL_keep_25 : decode cL_keep 25 = .ok (.iconst 2, 1) := by decide +kernel
theorem dL_keep_26 : decode cL_keep 26 = .ok (.ireturn, 1) := by decide +kernel
theorem dL_keep_27 : decode cL_keep 27 = .ok (.iconst 0, 1) := by decide +kernel
theorem dL_keep_28 : decode cL_keep 28 = .ok (.ireturn, 1) := by decide +kernel
theorem dL_keep_19 : decode cL_keep 19 = .ok (.astore 7, 2) := by decide +kernel
theorem dL_keep_23 : decode cL_keep 23 = .ok (.astore 7, 2) := by decide +kernel
theorem hcL_keep : ∀ E q k, clk [("java/lang/IndexOutOfBoundsException", 21, 7), ("java/lang/IllegalArgumentException", 25, 7)] E = some (q, k) → HC mL_keep 11 E q k := by
  intro E q k h
  unfold clk at h
  split at h
  · rename_i he; subst he; cases h
    exact ⟨[], ⟨0, 16, 19, 13⟩, [⟨0, 16, 23, 15⟩], 2, rfl, by decide, (fun z hz => by cases hz), by decide, by decide, tw_in tk_3 (i := 60) rfl rfl, by decide +kernel, Or.inl ⟨dL_keep_19, rfl⟩, rfl⟩
  unfold clk at h
  split at h
  · rename_i he; subst he; cases h
    exact ⟨[⟨0, 16, 19, 13⟩], ⟨0, 16, 23, 15⟩, [], 2, rfl, by decide, (by
      intro z hz
      simp only [List.mem_cons, List.not_mem_nil, or_false] at hz
      rcases hz with rfl
      · exact ⟨by decide, "java/lang/IndexOutOfBoundsException", by decide, tw_in tk_3 (i := 60) rfl rfl, by decide⟩), by decide, by decide, tw_in tk_3 (i := 138) rfl rfl, by decide +kernel, Or.inl ⟨dL_keep_23, rfl⟩, rfl⟩
  cases h
noncomputable def E_L_keep : mE := (mL_keep, [(28, [(0, (.aload 6, 2, false, false, 6, 0, 0, 0, 0, 0, [])), (2, (.iconst 0, 3, false, false, 0, 0, 0, 0, 0, 0, [])), (3, (.aload_n 0, 4, false, false, 0, 0, 0, 0, 0, 0, [])), (4, (.iload_n 1, 5, false, false, 1, 0, 0, 0, 0, 0, [])), (5, (.iload_n 2, 6, false, false, 2, 0, 0, 0, 0, 0, [])), (6, (.iload_n 3, 7, false, false, 3, 0, 0, 0, 0, 0, [])), (7, (.iload 4, 9, false, false, 4, 0, 0, 0, 0, 0, [])), (9, (.iload 5, 11, false, false, 5, 0, 0, 0, 0, 0, [])), (11, (.invokevirtual 36, 14, false, false, 157, 5, 1, 14, 0, 0, [])), (14, (.i2l, 15, false, false, 0, 0, 0, 0, 0, 0, [])), (15, (.lastore, 16, false, false, 0, 0, 0, 0, 0, 0, [])), (16, (.goto 11, 19, false, false, 27, 0, 0, 0, 0, 0, [])), (21, (.iconst 1, 22, false, false, 0, 0, 0, 0, 1, 0, [])), (22, (.ireturn, 23, false, false, 0, 0, 0, 0, 0, 0, [])), (25, (.iconst 2, 26, false, false, 0, 0, 0, 0, 2, 0, [])), (26, (.ireturn, 27, false, false, 0, 0, 0, 0, 0, 0, [])), (27, (.iconst 0, 28, false, false, 0, 0, 0, 0, 0, 0, [])), (28, (.ireturn, 29, false, false, 0, 0, 0, 0, 0, 0, []))])], 1, [("java/lang/IndexOutOfBoundsException", 21, 7), ("java/lang/IllegalArgumentException", 25, 7)])
set_option maxRecDepth 100000 in
theorem v_L_keep : VE MYT dflT E_L_keep := ⟨⟨⟨⟨⟨dL_keep_0, rfl⟩, rfl⟩, ⟨⟨dL_keep_2, rfl⟩, rfl⟩, ⟨⟨dL_keep_3, rfl⟩, rfl⟩, ⟨⟨dL_keep_4, rfl⟩, rfl⟩, ⟨⟨dL_keep_5, rfl⟩, rfl⟩, ⟨⟨dL_keep_6, rfl⟩, rfl⟩, ⟨⟨dL_keep_7, rfl⟩, rfl⟩, ⟨⟨dL_keep_9, rfl⟩, rfl⟩, ⟨⟨dL_keep_11, rfl⟩, Or.inr ⟨by decide, ⟨_, my_157, sL_36⟩, fun _ E q k hq => hcL_keep E q k hq⟩⟩, ⟨⟨dL_keep_14, rfl⟩, trivial⟩, ⟨⟨dL_keep_15, rfl⟩, trivial⟩, ⟨⟨dL_keep_16, rfl⟩, rfl⟩, ⟨⟨dL_keep_21, rfl⟩, rfl⟩, ⟨⟨dL_keep_22, rfl⟩, Or.inl ⟨rfl, rfl⟩⟩, ⟨⟨dL_keep_25, rfl⟩, rfl⟩, ⟨⟨dL_keep_26, rfl⟩, Or.inl ⟨rfl, rfl⟩⟩, ⟨⟨dL_keep_27, rfl⟩, rfl⟩, ⟨⟨dL_keep_28, rfl⟩, Or.inl ⟨rfl, rfl⟩⟩, trivial⟩, trivial⟩, by decide, Or.inr (Or.inl ⟨rfl, by decide, by decide⟩)⟩
set_option maxRecDepth 100000 in
theorem g_L_keep_0 (S : sT) (call : cT) (n : Nat) (v0 : Value) (x1 : Int32) (x2 : Int32) (x3 : Int32) (x4 : Int32) (x5 : Int32) (v6 : Value) (h : pH) : bd S call dflT E_L_keep (n + 1) 0 [some (v0), some (.int x1), some (.int x2), some (.int x3), some (.int x4), some (.int x5), some (v6), none] [] h = (iA v6 (iA v0 (rC h v0 14 (cIx (thrH 1 8 [("java/lang/IndexOutOfBoundsException", 21, 7), ("java/lang/IllegalArgumentException", 25, 7)] [some (v0), some (.int x1), some (.int x2), some (.int x3), some (.int x4), some (.int x5), some (v6), none] (bd S call dflT E_L_keep n)) (call 157 [v0, .int x1, .int x2, .int x3, .int x4, .int x5] h) (fun y2 h1 => sJ h1 v6 0 y2.toInt64 (fun h3 => some (.inl (some (.int 0)), h3))))))) := rfl
set_option maxRecDepth 100000 in
theorem g_L_keep_21 (S : sT) (call : cT) (n : Nat) (v0 : Value) (x1 : Int32) (x2 : Int32) (x3 : Int32) (x4 : Int32) (x5 : Int32) (v6 : Value) (o7 : Option Value) (h : pH) : bd S call dflT E_L_keep (n + 1) 21 [some (v0), some (.int x1), some (.int x2), some (.int x3), some (.int x4), some (.int x5), some (v6), o7] [] h = (some (.inl (some (.int 1)), h)) := rfl
set_option maxRecDepth 100000 in
theorem g_L_keep_25 (S : sT) (call : cT) (n : Nat) (v0 : Value) (x1 : Int32) (x2 : Int32) (x3 : Int32) (x4 : Int32) (x5 : Int32) (v6 : Value) (o7 : Option Value) (h : pH) : bd S call dflT E_L_keep (n + 1) 25 [some (v0), some (.int x1), some (.int x2), some (.int x3), some (.int x4), some (.int x5), some (v6), o7] [] h = (some (.inl (some (.int 2)), h)) := rfl
theorem dL_sow_0 : decode cL_sow 0 = .ok (.aload_n 3, 1) := by decide +kernel
theorem dL_sow_1 : decode cL_sow 1 = .ok (.iconst 0, 1) := by decide +kernel
theorem dL_sow_2 : decode cL_sow 2 = .ok (.aload_n 0, 1) := by decide +kernel
theorem dL_sow_3 : decode cL_sow 3 = .ok (.iload_n 1, 1) := by decide +kernel
theorem dL_sow_4 : decode cL_sow 4 = .ok (.iload_n 2, 1) := by decide +kernel
theorem dL_sow_5 : decode cL_sow 5 = .ok (.invokevirtual 40, 3) := by decide +kernel
theorem dL_sow_8 : decode cL_sow 8 = .ok (.ifCond .eq 7, 3) := by decide +kernel
theorem dL_sow_11 : decode cL_sow 11 = .ok (.lconst 1, 1) := by decide +kernel
theorem dL_sow_12 : decode cL_sow 12 = .ok (.goto 4, 3) := by decide +kernel
theorem dL_sow_15 : decode cL_sow 15 = .ok (.lconst 0, 1) := by decide +kernel
theorem dL_sow_16 : decode cL_sow 16 = .ok (.lastore, 1) := by decide +kernel
theorem dL_sow_17 : decode cL_sow 17 = .ok (.goto 15, 3) := by decide +kernel
theorem dL_sow_22 : decode cL_sow 22 = .ok (.iconst 1, 1) := by decide +kernel
theorem dL_sow_23 : decode cL_sow 23 = .ok (.ireturn, 1) := by decide +kernel
theorem dL_sow_26 : decode cL_sow 26 = .ok (.iconst 2, 1) := by decide +kernel
theorem dL_sow_27 : decode cL_sow 27 = .ok (.ireturn, 1) := by decide +kernel
theorem dL_sow_30 : decode cL_sow 30 = .ok (.iconst 3, 1) := by decide +kernel
theorem dL_sow_31 : decode cL_sow 31 = .ok (.ireturn, 1) := by decide +kernel
theorem dL_sow_32 : decode cL_sow 32 = .ok (.iconst 0, 1) := by decide +kernel
theorem dL_sow_33 : decode cL_sow 33 = .ok (.ireturn, 1) := by decide +kernel
theorem dL_sow_20 : decode cL_sow 20 = .ok (.astore 4, 2) := by decide +kernel
theorem dL_sow_24 : decode cL_sow 24 = .ok (.astore 4, 2) := by decide +kernel
theorem dL_sow_28 : decode cL_sow 28 = .ok (.astore 4, 2) := by decide +kernel
theorem hcL_sow : ∀ E q k, clk [("java/lang/IndexOutOfBoundsException", 22, 4), ("java/lang/IllegalArgumentException", 26, 4), ("java/lang/ClassCastException", 30, 4)] E = some (q, k) → HC mL_sow 5 E q k := by
  intro E q k h
  unfold clk at h
  split at h
  · rename_i he; subst he; cases h
    exact ⟨[], ⟨0, 17, 20, 13⟩, [⟨0, 17, 24, 15⟩, ⟨0, 17, 28, 44⟩], 2, rfl, by decide, (fun z hz => by cases hz), by decide, by decide, tw_in tk_3 (i := 60) rfl rfl, by decide +kernel, Or.inl ⟨dL_sow_20, rfl⟩, rfl⟩
  unfold clk at h
  split at h
  · rename_i he; subst he; cases h
    exact ⟨[⟨0, 17, 20, 13⟩], ⟨0, 17, 24, 15⟩, [⟨0, 17, 28, 44⟩], 2, rfl, by decide, (by
      intro z hz
      simp only [List.mem_cons, List.not_mem_nil, or_false] at hz
      rcases hz with rfl
      · exact ⟨by decide, "java/lang/IndexOutOfBoundsException", by decide, tw_in tk_3 (i := 60) rfl rfl, by decide⟩), by decide, by decide, tw_in tk_3 (i := 138) rfl rfl, by decide +kernel, Or.inl ⟨dL_sow_24, rfl⟩, rfl⟩
  unfold clk at h
  split at h
  · rename_i he; subst he; cases h
    exact ⟨[⟨0, 17, 20, 13⟩, ⟨0, 17, 24, 15⟩], ⟨0, 17, 28, 44⟩, [], 2, rfl, by decide, (by
      intro z hz
      simp only [List.mem_cons, List.not_mem_nil, or_false] at hz
      rcases hz with rfl | rfl
      · exact ⟨by decide, "java/lang/IndexOutOfBoundsException", by decide, tw_in tk_3 (i := 60) rfl rfl, by decide⟩
      · exact ⟨by decide, "java/lang/IllegalArgumentException", by decide, tw_in tk_3 (i := 138) rfl rfl, by decide⟩), by decide, by decide, tw_in tk_5 (i := 4) rfl rfl, by decide +kernel, Or.inl ⟨dL_sow_28, rfl⟩, rfl⟩
  cases h
noncomputable def E_L_sow : mE := (mL_sow, [(33, [(0, (.aload_n 3, 1, false, false, 3, 0, 0, 0, 0, 0, [])), (1, (.iconst 0, 2, false, false, 0, 0, 0, 0, 0, 0, [])), (2, (.aload_n 0, 3, false, false, 0, 0, 0, 0, 0, 0, [])), (3, (.iload_n 1, 4, false, false, 1, 0, 0, 0, 0, 0, [])), (4, (.iload_n 2, 5, false, false, 2, 0, 0, 0, 0, 0, [])), (5, (.invokevirtual 40, 8, false, false, 163, 2, 1, 14, 0, 0, [])), (8, (.ifCond .eq 7, 11, false, false, 15, 0, 0, 0, 0, 0, [])), (11, (.lconst 1, 12, false, false, 0, 0, 0, 0, 0, 1, [])), (12, (.goto 4, 15, false, false, 16, 0, 0, 0, 0, 0, [])), (15, (.lconst 0, 16, false, false, 0, 0, 0, 0, 0, 0, [])), (16, (.lastore, 17, false, false, 0, 0, 0, 0, 0, 0, [])), (17, (.goto 15, 20, false, false, 32, 0, 0, 0, 0, 0, [])), (22, (.iconst 1, 23, false, false, 0, 0, 0, 0, 1, 0, [])), (23, (.ireturn, 24, false, false, 0, 0, 0, 0, 0, 0, [])), (26, (.iconst 2, 27, false, false, 0, 0, 0, 0, 2, 0, [])), (27, (.ireturn, 28, false, false, 0, 0, 0, 0, 0, 0, [])), (30, (.iconst 3, 31, false, false, 0, 0, 0, 0, 3, 0, [])), (31, (.ireturn, 32, false, false, 0, 0, 0, 0, 0, 0, [])), (32, (.iconst 0, 33, false, false, 0, 0, 0, 0, 0, 0, [])), (33, (.ireturn, 34, false, false, 0, 0, 0, 0, 0, 0, []))])], 1, [("java/lang/IndexOutOfBoundsException", 22, 4), ("java/lang/IllegalArgumentException", 26, 4), ("java/lang/ClassCastException", 30, 4)])
set_option maxRecDepth 100000 in
theorem v_L_sow : VE MYT dflT E_L_sow := ⟨⟨⟨⟨⟨dL_sow_0, rfl⟩, rfl⟩, ⟨⟨dL_sow_1, rfl⟩, rfl⟩, ⟨⟨dL_sow_2, rfl⟩, rfl⟩, ⟨⟨dL_sow_3, rfl⟩, rfl⟩, ⟨⟨dL_sow_4, rfl⟩, rfl⟩, ⟨⟨dL_sow_5, rfl⟩, Or.inr ⟨by decide, ⟨_, my_163, sL_40⟩, fun _ E q k hq => hcL_sow E q k hq⟩⟩, ⟨⟨dL_sow_8, rfl⟩, rfl⟩, ⟨⟨dL_sow_11, rfl⟩, rfl⟩, ⟨⟨dL_sow_12, rfl⟩, rfl⟩, ⟨⟨dL_sow_15, rfl⟩, rfl⟩, ⟨⟨dL_sow_16, rfl⟩, trivial⟩, ⟨⟨dL_sow_17, rfl⟩, rfl⟩, ⟨⟨dL_sow_22, rfl⟩, rfl⟩, ⟨⟨dL_sow_23, rfl⟩, Or.inl ⟨rfl, rfl⟩⟩, ⟨⟨dL_sow_26, rfl⟩, rfl⟩, ⟨⟨dL_sow_27, rfl⟩, Or.inl ⟨rfl, rfl⟩⟩, ⟨⟨dL_sow_30, rfl⟩, rfl⟩, ⟨⟨dL_sow_31, rfl⟩, Or.inl ⟨rfl, rfl⟩⟩, ⟨⟨dL_sow_32, rfl⟩, rfl⟩, ⟨⟨dL_sow_33, rfl⟩, Or.inl ⟨rfl, rfl⟩⟩, trivial⟩, trivial⟩, by decide, Or.inr (Or.inl ⟨rfl, by decide, by decide⟩)⟩
set_option maxRecDepth 100000 in
theorem g_L_sow_0 (S : sT) (call : cT) (n : Nat) (v0 : Value) (x1 : Int32) (x2 : Int32) (v3 : Value) (h : pH) : bd S call dflT E_L_sow (n + 1) 0 [some (v0), some (.int x1), some (.int x2), some (v3), none] [] h = (iA v3 (iA v0 (rC h v0 14 (cIx (thrH 1 5 [("java/lang/IndexOutOfBoundsException", 22, 4), ("java/lang/IllegalArgumentException", 26, 4), ("java/lang/ClassCastException", 30, 4)] [some (v0), some (.int x1), some (.int x2), some (v3), none] (bd S call dflT E_L_sow n)) (call 163 [v0, .int x1, .int x2] h) (fun y2 h1 => (if y2 = 0 then sJ h1 v3 0 0 (fun h3 => some (.inl (some (.int 0)), h3)) else sJ h1 v3 0 1 (fun h4 => some (.inl (some (.int 0)), h4)))))))) := rfl
set_option maxRecDepth 100000 in
theorem g_L_sow_22 (S : sT) (call : cT) (n : Nat) (v0 : Value) (x1 : Int32) (x2 : Int32) (v3 : Value) (o4 : Option Value) (h : pH) : bd S call dflT E_L_sow (n + 1) 22 [some (v0), some (.int x1), some (.int x2), some (v3), o4] [] h = (some (.inl (some (.int 1)), h)) := rfl
set_option maxRecDepth 100000 in
theorem g_L_sow_26 (S : sT) (call : cT) (n : Nat) (v0 : Value) (x1 : Int32) (x2 : Int32) (v3 : Value) (o4 : Option Value) (h : pH) : bd S call dflT E_L_sow (n + 1) 26 [some (v0), some (.int x1), some (.int x2), some (v3), o4] [] h = (some (.inl (some (.int 2)), h)) := rfl
set_option maxRecDepth 100000 in
theorem g_L_sow_30 (S : sT) (call : cT) (n : Nat) (v0 : Value) (x1 : Int32) (x2 : Int32) (v3 : Value) (o4 : Option Value) (h : pH) : bd S call dflT E_L_sow (n + 1) 30 [some (v0), some (.int x1), some (.int x2), some (v3), o4] [] h = (some (.inl (some (.int 3)), h)) := rfl
theorem dL_notice_0 : decode cL_notice 0 = .ok (.aload_n 2, 1) := by decide +kernel
theorem dL_notice_1 : decode cL_notice 1 = .ok (.iconst 0, 1) := by decide +kernel
theorem dL_notice_2 : decode cL_notice 2 = .ok (.aload_n 0, 1) := by decide +kernel
theorem dL_notice_3 : decode cL_notice 3 = .ok (.iload_n 1, 1) := by decide +kernel
theorem dL_notice_4 : decode cL_notice 4 = .ok (.invokevirtual 46, 3) := by decide +kernel
theorem dL_notice_7 : decode cL_notice 7 = .ok (.ifCond .eq 7, 3) := by decide +kernel
theorem dL_notice_10 : decode cL_notice 10 = .ok (.lconst 1, 1) := by decide +kernel
theorem dL_notice_11 : decode cL_notice 11 = .ok (.goto 4, 3) := by decide +kernel
theorem dL_notice_14 : decode cL_notice 14 = .ok (.lconst 0, 1) := by decide +kernel
theorem dL_notice_15 : decode cL_notice 15 = .ok (.lastore, 1) := by decide +kernel
theorem dL_notice_16 : decode cL_notice 16 = .ok (.goto 9, 3) := by decide +kernel
theorem dL_notice_20 : decode cL_notice 20 = .ok (.iconst 1, 1) := by decide +kernel
theorem dL_notice_21 : decode cL_notice 21 = .ok (.ireturn, 1) := by decide +kernel
theorem dL_notice_23 : decode cL_notice 23 = .ok (.iconst 2, 1) := by decide +kernel
theorem dL_notice_24 : decode cL_notice 24 = .ok (.ireturn, 1) := by decide +kernel
theorem dL_notice_25 : decode cL_notice 25 = .ok (.iconst 0, 1) := by decide +kernel
theorem dL_notice_26 : decode cL_notice 26 = .ok (.ireturn, 1) := by decide +kernel
theorem dL_notice_19 : decode cL_notice 19 = .ok (.astore_n 3, 1) := by decide +kernel
theorem dL_notice_22 : decode cL_notice 22 = .ok (.astore_n 3, 1) := by decide +kernel
theorem hcL_notice : ∀ E q k, clk [("java/lang/IndexOutOfBoundsException", 20, 3), ("java/lang/ClassCastException", 23, 3)] E = some (q, k) → HC mL_notice 4 E q k := by
  intro E q k h
  unfold clk at h
  split at h
  · rename_i he; subst he; cases h
    exact ⟨[], ⟨0, 16, 19, 13⟩, [⟨0, 16, 22, 44⟩], 1, rfl, by decide, (fun z hz => by cases hz), by decide, by decide, tw_in tk_3 (i := 60) rfl rfl, by decide +kernel, Or.inr ⟨3, rfl, dL_notice_19, rfl⟩, rfl⟩
  unfold clk at h
  split at h
  · rename_i he; subst he; cases h
    exact ⟨[⟨0, 16, 19, 13⟩], ⟨0, 16, 22, 44⟩, [], 1, rfl, by decide, (by
      intro z hz
      simp only [List.mem_cons, List.not_mem_nil, or_false] at hz
      rcases hz with rfl
      · exact ⟨by decide, "java/lang/IndexOutOfBoundsException", by decide, tw_in tk_3 (i := 60) rfl rfl, by decide⟩), by decide, by decide, tw_in tk_5 (i := 4) rfl rfl, by decide +kernel, Or.inr ⟨3, rfl, dL_notice_22, rfl⟩, rfl⟩
  cases h
noncomputable def E_L_notice : mE := (mL_notice, [(26, [(0, (.aload_n 2, 1, false, false, 2, 0, 0, 0, 0, 0, [])), (1, (.iconst 0, 2, false, false, 0, 0, 0, 0, 0, 0, [])), (2, (.aload_n 0, 3, false, false, 0, 0, 0, 0, 0, 0, [])), (3, (.iload_n 1, 4, false, false, 1, 0, 0, 0, 0, 0, [])), (4, (.invokevirtual 46, 7, false, false, 169, 1, 1, 14, 0, 0, [])), (7, (.ifCond .eq 7, 10, false, false, 14, 0, 0, 0, 0, 0, [])), (10, (.lconst 1, 11, false, false, 0, 0, 0, 0, 0, 1, [])), (11, (.goto 4, 14, false, false, 15, 0, 0, 0, 0, 0, [])), (14, (.lconst 0, 15, false, false, 0, 0, 0, 0, 0, 0, [])), (15, (.lastore, 16, false, false, 0, 0, 0, 0, 0, 0, [])), (16, (.goto 9, 19, false, false, 25, 0, 0, 0, 0, 0, [])), (20, (.iconst 1, 21, false, false, 0, 0, 0, 0, 1, 0, [])), (21, (.ireturn, 22, false, false, 0, 0, 0, 0, 0, 0, [])), (23, (.iconst 2, 24, false, false, 0, 0, 0, 0, 2, 0, [])), (24, (.ireturn, 25, false, false, 0, 0, 0, 0, 0, 0, [])), (25, (.iconst 0, 26, false, false, 0, 0, 0, 0, 0, 0, [])), (26, (.ireturn, 27, false, false, 0, 0, 0, 0, 0, 0, []))])], 1, [("java/lang/IndexOutOfBoundsException", 20, 3), ("java/lang/ClassCastException", 23, 3)])
set_option maxRecDepth 100000 in
theorem v_L_notice : VE MYT dflT E_L_notice := ⟨⟨⟨⟨⟨dL_notice_0, rfl⟩, rfl⟩, ⟨⟨dL_notice_1, rfl⟩, rfl⟩, ⟨⟨dL_notice_2, rfl⟩, rfl⟩, ⟨⟨dL_notice_3, rfl⟩, rfl⟩, ⟨⟨dL_notice_4, rfl⟩, Or.inr ⟨by decide, ⟨_, my_169, sL_46⟩, fun _ E q k hq => hcL_notice E q k hq⟩⟩, ⟨⟨dL_notice_7, rfl⟩, rfl⟩, ⟨⟨dL_notice_10, rfl⟩, rfl⟩, ⟨⟨dL_notice_11, rfl⟩, rfl⟩, ⟨⟨dL_notice_14, rfl⟩, rfl⟩, ⟨⟨dL_notice_15, rfl⟩, trivial⟩, ⟨⟨dL_notice_16, rfl⟩, rfl⟩, ⟨⟨dL_notice_20, rfl⟩, rfl⟩, ⟨⟨dL_notice_21, rfl⟩, Or.inl ⟨rfl, rfl⟩⟩, ⟨⟨dL_notice_23, rfl⟩, rfl⟩, ⟨⟨dL_notice_24, rfl⟩, Or.inl ⟨rfl, rfl⟩⟩, ⟨⟨dL_notice_25, rfl⟩, rfl⟩, ⟨⟨dL_notice_26, rfl⟩, Or.inl ⟨rfl, rfl⟩⟩, trivial⟩, trivial⟩, by decide, Or.inr (Or.inl ⟨rfl, by decide, by decide⟩)⟩
set_option maxRecDepth 100000 in
theorem g_L_notice_0 (S : sT) (call : cT) (n : Nat) (v0 : Value) (x1 : Int32) (v2 : Value) (h : pH) : bd S call dflT E_L_notice (n + 1) 0 [some (v0), some (.int x1), some (v2), none] [] h = (iA v2 (iA v0 (rC h v0 14 (cIx (thrH 1 4 [("java/lang/IndexOutOfBoundsException", 20, 3), ("java/lang/ClassCastException", 23, 3)] [some (v0), some (.int x1), some (v2), none] (bd S call dflT E_L_notice n)) (call 169 [v0, .int x1] h) (fun y2 h1 => (if y2 = 0 then sJ h1 v2 0 0 (fun h3 => some (.inl (some (.int 0)), h3)) else sJ h1 v2 0 1 (fun h4 => some (.inl (some (.int 0)), h4)))))))) := rfl
set_option maxRecDepth 100000 in
theorem g_L_notice_20 (S : sT) (call : cT) (n : Nat) (v0 : Value) (x1 : Int32) (v2 : Value) (o3 : Option Value) (h : pH) : bd S call dflT E_L_notice (n + 1) 20 [some (v0), some (.int x1), some (v2), o3] [] h = (some (.inl (some (.int 1)), h)) := rfl
set_option maxRecDepth 100000 in
theorem g_L_notice_23 (S : sT) (call : cT) (n : Nat) (v0 : Value) (x1 : Int32) (v2 : Value) (o3 : Option Value) (h : pH) : bd S call dflT E_L_notice (n + 1) 23 [some (v0), some (.int x1), some (v2), o3] [] h = (some (.inl (some (.int 2)), h)) := rfl
theorem dL_give_0 : decode cL_give 0 = .ok (.aload_n 2, 1) := by decide +kernel
theorem dL_give_1 : decode cL_give 1 = .ok (.iconst 0, 1) := by decide +kernel
theorem dL_give_2 : decode cL_give 2 = .ok (.aload_n 0, 1) := by decide +kernel
theorem dL_give_3 : decode cL_give 3 = .ok (.iload_n 1, 1) := by decide +kernel
theorem dL_give_4 : decode cL_give 4 = .ok (.invokevirtual 50, 3) := by decide +kernel
theorem dL_give_7 : decode cL_give 7 = .ok (.i2l, 1) := by decide +kernel
theorem dL_give_8 : decode cL_give 8 = .ok (.lastore, 1) := by decide +kernel
theorem dL_give_9 : decode cL_give 9 = .ok (.goto 9, 3) := by decide +kernel
theorem dL_give_13 : decode cL_give 13 = .ok (.iconst 1, 1) := by decide +kernel
theorem dL_give_14 : decode cL_give 14 = .ok (.ireturn, 1) := by decide +kernel
theorem dL_give_16 : decode cL_give 16 = .ok (.iconst 2, 1) := by decide +kernel
theorem dL_give_17 : decode cL_give 17 = .ok (.ireturn, 1) := by decide +kernel
theorem dL_give_18 : decode cL_give 18 = .ok (.iconst 0, 1) := by decide +kernel
theorem dL_give_19 : decode cL_give 19 = .ok (.ireturn, 1) := by decide +kernel
theorem dL_give_12 : decode cL_give 12 = .ok (.astore_n 3, 1) := by decide +kernel
theorem dL_give_15 : decode cL_give 15 = .ok (.astore_n 3, 1) := by decide +kernel
theorem hcL_give : ∀ E q k, clk [("java/lang/IndexOutOfBoundsException", 13, 3), ("java/lang/ClassCastException", 16, 3)] E = some (q, k) → HC mL_give 4 E q k := by
  intro E q k h
  unfold clk at h
  split at h
  · rename_i he; subst he; cases h
    exact ⟨[], ⟨0, 9, 12, 13⟩, [⟨0, 9, 15, 44⟩], 1, rfl, by decide, (fun z hz => by cases hz), by decide, by decide, tw_in tk_3 (i := 60) rfl rfl, by decide +kernel, Or.inr ⟨3, rfl, dL_give_12, rfl⟩, rfl⟩
  unfold clk at h
  split at h
  · rename_i he; subst he; cases h
    exact ⟨[⟨0, 9, 12, 13⟩], ⟨0, 9, 15, 44⟩, [], 1, rfl, by decide, (by
      intro z hz
      simp only [List.mem_cons, List.not_mem_nil, or_false] at hz
      rcases hz with rfl
      · exact ⟨by decide, "java/lang/IndexOutOfBoundsException", by decide, tw_in tk_3 (i := 60) rfl rfl, by decide⟩), by decide, by decide, tw_in tk_5 (i := 4) rfl rfl, by decide +kernel, Or.inr ⟨3, rfl, dL_give_15, rfl⟩, rfl⟩
  cases h
noncomputable def E_L_give : mE := (mL_give, [(19, [(0, (.aload_n 2, 1, false, false, 2, 0, 0, 0, 0, 0, [])), (1, (.iconst 0, 2, false, false, 0, 0, 0, 0, 0, 0, [])), (2, (.aload_n 0, 3, false, false, 0, 0, 0, 0, 0, 0, [])), (3, (.iload_n 1, 4, false, false, 1, 0, 0, 0, 0, 0, [])), (4, (.invokevirtual 50, 7, false, false, 176, 1, 1, 14, 0, 0, [])), (7, (.i2l, 8, false, false, 0, 0, 0, 0, 0, 0, [])), (8, (.lastore, 9, false, false, 0, 0, 0, 0, 0, 0, [])), (9, (.goto 9, 12, false, false, 18, 0, 0, 0, 0, 0, [])), (13, (.iconst 1, 14, false, false, 0, 0, 0, 0, 1, 0, [])), (14, (.ireturn, 15, false, false, 0, 0, 0, 0, 0, 0, [])), (16, (.iconst 2, 17, false, false, 0, 0, 0, 0, 2, 0, [])), (17, (.ireturn, 18, false, false, 0, 0, 0, 0, 0, 0, [])), (18, (.iconst 0, 19, false, false, 0, 0, 0, 0, 0, 0, [])), (19, (.ireturn, 20, false, false, 0, 0, 0, 0, 0, 0, []))])], 1, [("java/lang/IndexOutOfBoundsException", 13, 3), ("java/lang/ClassCastException", 16, 3)])
set_option maxRecDepth 100000 in
theorem v_L_give : VE MYT dflT E_L_give := ⟨⟨⟨⟨⟨dL_give_0, rfl⟩, rfl⟩, ⟨⟨dL_give_1, rfl⟩, rfl⟩, ⟨⟨dL_give_2, rfl⟩, rfl⟩, ⟨⟨dL_give_3, rfl⟩, rfl⟩, ⟨⟨dL_give_4, rfl⟩, Or.inr ⟨by decide, ⟨_, my_176, sL_50⟩, fun _ E q k hq => hcL_give E q k hq⟩⟩, ⟨⟨dL_give_7, rfl⟩, trivial⟩, ⟨⟨dL_give_8, rfl⟩, trivial⟩, ⟨⟨dL_give_9, rfl⟩, rfl⟩, ⟨⟨dL_give_13, rfl⟩, rfl⟩, ⟨⟨dL_give_14, rfl⟩, Or.inl ⟨rfl, rfl⟩⟩, ⟨⟨dL_give_16, rfl⟩, rfl⟩, ⟨⟨dL_give_17, rfl⟩, Or.inl ⟨rfl, rfl⟩⟩, ⟨⟨dL_give_18, rfl⟩, rfl⟩, ⟨⟨dL_give_19, rfl⟩, Or.inl ⟨rfl, rfl⟩⟩, trivial⟩, trivial⟩, by decide, Or.inr (Or.inl ⟨rfl, by decide, by decide⟩)⟩
set_option maxRecDepth 100000 in
theorem g_L_give_0 (S : sT) (call : cT) (n : Nat) (v0 : Value) (x1 : Int32) (v2 : Value) (h : pH) : bd S call dflT E_L_give (n + 1) 0 [some (v0), some (.int x1), some (v2), none] [] h = (iA v2 (iA v0 (rC h v0 14 (cIx (thrH 1 4 [("java/lang/IndexOutOfBoundsException", 13, 3), ("java/lang/ClassCastException", 16, 3)] [some (v0), some (.int x1), some (v2), none] (bd S call dflT E_L_give n)) (call 176 [v0, .int x1] h) (fun y2 h1 => sJ h1 v2 0 y2.toInt64 (fun h3 => some (.inl (some (.int 0)), h3))))))) := rfl
set_option maxRecDepth 100000 in
theorem g_L_give_13 (S : sT) (call : cT) (n : Nat) (v0 : Value) (x1 : Int32) (v2 : Value) (o3 : Option Value) (h : pH) : bd S call dflT E_L_give (n + 1) 13 [some (v0), some (.int x1), some (v2), o3] [] h = (some (.inl (some (.int 1)), h)) := rfl
set_option maxRecDepth 100000 in
theorem g_L_give_16 (S : sT) (call : cT) (n : Nat) (v0 : Value) (x1 : Int32) (v2 : Value) (o3 : Option Value) (h : pH) : bd S call dflT E_L_give (n + 1) 16 [some (v0), some (.int x1), some (v2), o3] [] h = (some (.inl (some (.int 2)), h)) := rfl
theorem dL_seasons_0 : decode cL_seasons 0 = .ok (.aload_n 2, 1) := by decide +kernel
theorem dL_seasons_1 : decode cL_seasons 1 = .ok (.iconst 0, 1) := by decide +kernel
theorem dL_seasons_2 : decode cL_seasons 2 = .ok (.aload_n 0, 1) := by decide +kernel
theorem dL_seasons_3 : decode cL_seasons 3 = .ok (.iload_n 1, 1) := by decide +kernel
theorem dL_seasons_4 : decode cL_seasons 4 = .ok (.invokevirtual 53, 3) := by decide +kernel
theorem dL_seasons_7 : decode cL_seasons 7 = .ok (.i2l, 1) := by decide +kernel
theorem dL_seasons_8 : decode cL_seasons 8 = .ok (.lastore, 1) := by decide +kernel
theorem dL_seasons_9 : decode cL_seasons 9 = .ok (.goto 6, 3) := by decide +kernel
theorem dL_seasons_13 : decode cL_seasons 13 = .ok (.iconst 1, 1) := by decide +kernel
theorem dL_seasons_14 : decode cL_seasons 14 = .ok (.ireturn, 1) := by decide +kernel
theorem dL_seasons_15 : decode cL_seasons 15 = .ok (.iconst 0, 1) := by decide +kernel
theorem dL_seasons_16 : decode cL_seasons 16 = .ok (.ireturn, 1) := by decide +kernel
theorem dL_seasons_12 : decode cL_seasons 12 = .ok (.astore_n 3, 1) := by decide +kernel
theorem hcL_seasons : ∀ E q k, clk [("java/lang/IllegalArgumentException", 13, 3)] E = some (q, k) → HC mL_seasons 4 E q k := by
  intro E q k h
  unfold clk at h
  split at h
  · rename_i he; subst he; cases h
    exact ⟨[], ⟨0, 9, 12, 15⟩, [], 1, rfl, by decide, (fun z hz => by cases hz), by decide, by decide, tw_in tk_3 (i := 138) rfl rfl, by decide +kernel, Or.inr ⟨3, rfl, dL_seasons_12, rfl⟩, rfl⟩
  cases h
noncomputable def E_L_seasons : mE := (mL_seasons, [(16, [(0, (.aload_n 2, 1, false, false, 2, 0, 0, 0, 0, 0, [])), (1, (.iconst 0, 2, false, false, 0, 0, 0, 0, 0, 0, [])), (2, (.aload_n 0, 3, false, false, 0, 0, 0, 0, 0, 0, [])), (3, (.iload_n 1, 4, false, false, 1, 0, 0, 0, 0, 0, [])), (4, (.invokevirtual 53, 7, false, false, 229, 1, 1, 14, 0, 0, [])), (7, (.i2l, 8, false, false, 0, 0, 0, 0, 0, 0, [])), (8, (.lastore, 9, false, false, 0, 0, 0, 0, 0, 0, [])), (9, (.goto 6, 12, false, false, 15, 0, 0, 0, 0, 0, [])), (13, (.iconst 1, 14, false, false, 0, 0, 0, 0, 1, 0, [])), (14, (.ireturn, 15, false, false, 0, 0, 0, 0, 0, 0, [])), (15, (.iconst 0, 16, false, false, 0, 0, 0, 0, 0, 0, [])), (16, (.ireturn, 17, false, false, 0, 0, 0, 0, 0, 0, []))])], 1, [("java/lang/IllegalArgumentException", 13, 3)])
set_option maxRecDepth 100000 in
theorem v_L_seasons : VE MYT dflT E_L_seasons := ⟨⟨⟨⟨⟨dL_seasons_0, rfl⟩, rfl⟩, ⟨⟨dL_seasons_1, rfl⟩, rfl⟩, ⟨⟨dL_seasons_2, rfl⟩, rfl⟩, ⟨⟨dL_seasons_3, rfl⟩, rfl⟩, ⟨⟨dL_seasons_4, rfl⟩, Or.inr ⟨by decide, ⟨_, my_229, sL_53⟩, fun _ E q k hq => hcL_seasons E q k hq⟩⟩, ⟨⟨dL_seasons_7, rfl⟩, trivial⟩, ⟨⟨dL_seasons_8, rfl⟩, trivial⟩, ⟨⟨dL_seasons_9, rfl⟩, rfl⟩, ⟨⟨dL_seasons_13, rfl⟩, rfl⟩, ⟨⟨dL_seasons_14, rfl⟩, Or.inl ⟨rfl, rfl⟩⟩, ⟨⟨dL_seasons_15, rfl⟩, rfl⟩, ⟨⟨dL_seasons_16, rfl⟩, Or.inl ⟨rfl, rfl⟩⟩, trivial⟩, trivial⟩, by decide, Or.inr (Or.inl ⟨rfl, by decide, by decide⟩)⟩
set_option maxRecDepth 100000 in
theorem g_L_seasons_0 (S : sT) (call : cT) (n : Nat) (v0 : Value) (x1 : Int32) (v2 : Value) (h : pH) : bd S call dflT E_L_seasons (n + 1) 0 [some (v0), some (.int x1), some (v2), none] [] h = (iA v2 (iA v0 (rC h v0 14 (cIx (thrH 1 4 [("java/lang/IllegalArgumentException", 13, 3)] [some (v0), some (.int x1), some (v2), none] (bd S call dflT E_L_seasons n)) (call 229 [v0, .int x1] h) (fun y2 h1 => sJ h1 v2 0 y2.toInt64 (fun h3 => some (.inl (some (.int 0)), h3))))))) := rfl
set_option maxRecDepth 100000 in
theorem g_L_seasons_13 (S : sT) (call : cT) (n : Nat) (v0 : Value) (x1 : Int32) (v2 : Value) (o3 : Option Value) (h : pH) : bd S call dflT E_L_seasons (n + 1) 13 [some (v0), some (.int x1), some (v2), o3] [] h = (some (.inl (some (.int 1)), h)) := rfl
theorem dL_look_0 : decode cL_look 0 = .ok (.aload_n 3, 1) := by decide +kernel
theorem dL_look_1 : decode cL_look 1 = .ok (.iconst 0, 1) := by decide +kernel
theorem dL_look_2 : decode cL_look 2 = .ok (.aload_n 0, 1) := by decide +kernel
theorem dL_look_3 : decode cL_look 3 = .ok (.iload_n 1, 1) := by decide +kernel
theorem dL_look_4 : decode cL_look 4 = .ok (.iload_n 2, 1) := by decide +kernel
theorem dL_look_5 : decode cL_look 5 = .ok (.invokevirtual 56, 3) := by decide +kernel
theorem dL_look_8 : decode cL_look 8 = .ok (.i2l, 1) := by decide +kernel
theorem dL_look_9 : decode cL_look 9 = .ok (.lastore, 1) := by decide +kernel
theorem dL_look_10 : decode cL_look 10 = .ok (.goto 11, 3) := by decide +kernel
theorem dL_look_15 : decode cL_look 15 = .ok (.iconst 1, 1) := by decide +kernel
theorem dL_look_16 : decode cL_look 16 = .ok (.ireturn, 1) := by decide +kernel
theorem dL_look_19 : decode cL_look 19 = .ok (.iconst 2, 1) := by decide +kernel
theorem dL_look_20 : decode cL_look 20 = .ok (.ireturn, 1) := by decide +kernel
theorem dL_look_21 : decode cL_look 21 = .ok (.iconst 0, 1) := by decide +kernel
theorem dL_look_22 : decode cL_look 22 = .ok (.ireturn, 1) := by decide +kernel
theorem dL_look_13 : decode cL_look 13 = .ok (.astore 4, 2) := by decide +kernel
theorem dL_look_17 : decode cL_look 17 = .ok (.astore 4, 2) := by decide +kernel
theorem hcL_look : ∀ E q k, clk [("java/lang/IndexOutOfBoundsException", 15, 4), ("java/util/NoSuchElementException", 19, 4)] E = some (q, k) → HC mL_look 5 E q k := by
  intro E q k h
  unfold clk at h
  split at h
  · rename_i he; subst he; cases h
    exact ⟨[], ⟨0, 10, 13, 13⟩, [⟨0, 10, 17, 60⟩], 2, rfl, by decide, (fun z hz => by cases hz), by decide, by decide, tw_in tk_3 (i := 60) rfl rfl, by decide +kernel, Or.inl ⟨dL_look_13, rfl⟩, rfl⟩
  unfold clk at h
  split at h
  · rename_i he; subst he; cases h
    exact ⟨[⟨0, 10, 13, 13⟩], ⟨0, 10, 17, 60⟩, [], 2, rfl, by decide, (by
      intro z hz
      simp only [List.mem_cons, List.not_mem_nil, or_false] at hz
      rcases hz with rfl
      · exact ⟨by decide, "java/lang/IndexOutOfBoundsException", by decide, tw_in tk_3 (i := 60) rfl rfl, by decide⟩), by decide, by decide, tw_in tk_6 (i := 57) rfl rfl, by decide +kernel, Or.inl ⟨dL_look_17, rfl⟩, rfl⟩
  cases h
noncomputable def E_L_look : mE := (mL_look, [(22, [(0, (.aload_n 3, 1, false, false, 3, 0, 0, 0, 0, 0, [])), (1, (.iconst 0, 2, false, false, 0, 0, 0, 0, 0, 0, [])), (2, (.aload_n 0, 3, false, false, 0, 0, 0, 0, 0, 0, [])), (3, (.iload_n 1, 4, false, false, 1, 0, 0, 0, 0, 0, [])), (4, (.iload_n 2, 5, false, false, 2, 0, 0, 0, 0, 0, [])), (5, (.invokevirtual 56, 8, false, false, 260, 2, 1, 14, 0, 0, [])), (8, (.i2l, 9, false, false, 0, 0, 0, 0, 0, 0, [])), (9, (.lastore, 10, false, false, 0, 0, 0, 0, 0, 0, [])), (10, (.goto 11, 13, false, false, 21, 0, 0, 0, 0, 0, [])), (15, (.iconst 1, 16, false, false, 0, 0, 0, 0, 1, 0, [])), (16, (.ireturn, 17, false, false, 0, 0, 0, 0, 0, 0, [])), (19, (.iconst 2, 20, false, false, 0, 0, 0, 0, 2, 0, [])), (20, (.ireturn, 21, false, false, 0, 0, 0, 0, 0, 0, [])), (21, (.iconst 0, 22, false, false, 0, 0, 0, 0, 0, 0, [])), (22, (.ireturn, 23, false, false, 0, 0, 0, 0, 0, 0, []))])], 1, [("java/lang/IndexOutOfBoundsException", 15, 4), ("java/util/NoSuchElementException", 19, 4)])
set_option maxRecDepth 100000 in
theorem v_L_look : VE MYT dflT E_L_look := ⟨⟨⟨⟨⟨dL_look_0, rfl⟩, rfl⟩, ⟨⟨dL_look_1, rfl⟩, rfl⟩, ⟨⟨dL_look_2, rfl⟩, rfl⟩, ⟨⟨dL_look_3, rfl⟩, rfl⟩, ⟨⟨dL_look_4, rfl⟩, rfl⟩, ⟨⟨dL_look_5, rfl⟩, Or.inr ⟨by decide, ⟨_, my_260, sL_56⟩, fun _ E q k hq => hcL_look E q k hq⟩⟩, ⟨⟨dL_look_8, rfl⟩, trivial⟩, ⟨⟨dL_look_9, rfl⟩, trivial⟩, ⟨⟨dL_look_10, rfl⟩, rfl⟩, ⟨⟨dL_look_15, rfl⟩, rfl⟩, ⟨⟨dL_look_16, rfl⟩, Or.inl ⟨rfl, rfl⟩⟩, ⟨⟨dL_look_19, rfl⟩, rfl⟩, ⟨⟨dL_look_20, rfl⟩, Or.inl ⟨rfl, rfl⟩⟩, ⟨⟨dL_look_21, rfl⟩, rfl⟩, ⟨⟨dL_look_22, rfl⟩, Or.inl ⟨rfl, rfl⟩⟩, trivial⟩, trivial⟩, by decide, Or.inr (Or.inl ⟨rfl, by decide, by decide⟩)⟩
set_option maxRecDepth 100000 in
theorem g_L_look_0 (S : sT) (call : cT) (n : Nat) (v0 : Value) (x1 : Int32) (x2 : Int32) (v3 : Value) (h : pH) : bd S call dflT E_L_look (n + 1) 0 [some (v0), some (.int x1), some (.int x2), some (v3), none] [] h = (iA v3 (iA v0 (rC h v0 14 (cIx (thrH 1 5 [("java/lang/IndexOutOfBoundsException", 15, 4), ("java/util/NoSuchElementException", 19, 4)] [some (v0), some (.int x1), some (.int x2), some (v3), none] (bd S call dflT E_L_look n)) (call 260 [v0, .int x1, .int x2] h) (fun y2 h1 => sJ h1 v3 0 y2.toInt64 (fun h3 => some (.inl (some (.int 0)), h3))))))) := rfl
set_option maxRecDepth 100000 in
theorem g_L_look_15 (S : sT) (call : cT) (n : Nat) (v0 : Value) (x1 : Int32) (x2 : Int32) (v3 : Value) (o4 : Option Value) (h : pH) : bd S call dflT E_L_look (n + 1) 15 [some (v0), some (.int x1), some (.int x2), some (v3), o4] [] h = (some (.inl (some (.int 1)), h)) := rfl
set_option maxRecDepth 100000 in
theorem g_L_look_19 (S : sT) (call : cT) (n : Nat) (v0 : Value) (x1 : Int32) (x2 : Int32) (v3 : Value) (o4 : Option Value) (h : pH) : bd S call dflT E_L_look (n + 1) 19 [some (v0), some (.int x1), some (.int x2), some (v3), o4] [] h = (some (.inl (some (.int 2)), h)) := rfl
theorem dL_led_0 : decode cL_led 0 = .ok (.aload_n 3, 1) := by decide +kernel
theorem dL_led_1 : decode cL_led 1 = .ok (.iconst 0, 1) := by decide +kernel
theorem dL_led_2 : decode cL_led 2 = .ok (.aload_n 0, 1) := by decide +kernel
theorem dL_led_3 : decode cL_led 3 = .ok (.iload_n 1, 1) := by decide +kernel
theorem dL_led_4 : decode cL_led 4 = .ok (.iload_n 2, 1) := by decide +kernel
theorem dL_led_5 : decode cL_led 5 = .ok (.invokevirtual 62, 3) := by decide +kernel
theorem dL_led_8 : decode cL_led 8 = .ok (.i2l, 1) := by decide +kernel
theorem dL_led_9 : decode cL_led 9 = .ok (.lastore, 1) := by decide +kernel
theorem dL_led_10 : decode cL_led 10 = .ok (.goto 11, 3) := by decide +kernel
theorem dL_led_15 : decode cL_led 15 = .ok (.iconst 1, 1) := by decide +kernel
theorem dL_led_16 : decode cL_led 16 = .ok (.ireturn, 1) := by decide +kernel
theorem dL_led_19 : decode cL_led 19 = .ok (.iconst 2, 1) := by decide +kernel
theorem dL_led_20 : decode cL_led 20 = .ok (.ireturn, 1) := by decide +kernel
theorem dL_led_21 : decode cL_led 21 = .ok (.iconst 0, 1) := by decide +kernel
theorem dL_led_22 : decode cL_led 22 = .ok (.ireturn, 1) := by decide +kernel
theorem dL_led_13 : decode cL_led 13 = .ok (.astore 4, 2) := by decide +kernel
theorem dL_led_17 : decode cL_led 17 = .ok (.astore 4, 2) := by decide +kernel
theorem hcL_led : ∀ E q k, clk [("java/lang/IndexOutOfBoundsException", 15, 4), ("java/util/NoSuchElementException", 19, 4)] E = some (q, k) → HC mL_led 5 E q k := by
  intro E q k h
  unfold clk at h
  split at h
  · rename_i he; subst he; cases h
    exact ⟨[], ⟨0, 10, 13, 13⟩, [⟨0, 10, 17, 60⟩], 2, rfl, by decide, (fun z hz => by cases hz), by decide, by decide, tw_in tk_3 (i := 60) rfl rfl, by decide +kernel, Or.inl ⟨dL_led_13, rfl⟩, rfl⟩
  unfold clk at h
  split at h
  · rename_i he; subst he; cases h
    exact ⟨[⟨0, 10, 13, 13⟩], ⟨0, 10, 17, 60⟩, [], 2, rfl, by decide, (by
      intro z hz
      simp only [List.mem_cons, List.not_mem_nil, or_false] at hz
      rcases hz with rfl
      · exact ⟨by decide, "java/lang/IndexOutOfBoundsException", by decide, tw_in tk_3 (i := 60) rfl rfl, by decide⟩), by decide, by decide, tw_in tk_6 (i := 57) rfl rfl, by decide +kernel, Or.inl ⟨dL_led_17, rfl⟩, rfl⟩
  cases h
noncomputable def E_L_led : mE := (mL_led, [(22, [(0, (.aload_n 3, 1, false, false, 3, 0, 0, 0, 0, 0, [])), (1, (.iconst 0, 2, false, false, 0, 0, 0, 0, 0, 0, [])), (2, (.aload_n 0, 3, false, false, 0, 0, 0, 0, 0, 0, [])), (3, (.iload_n 1, 4, false, false, 1, 0, 0, 0, 0, 0, [])), (4, (.iload_n 2, 5, false, false, 2, 0, 0, 0, 0, 0, [])), (5, (.invokevirtual 62, 8, false, false, 264, 2, 1, 14, 0, 0, [])), (8, (.i2l, 9, false, false, 0, 0, 0, 0, 0, 0, [])), (9, (.lastore, 10, false, false, 0, 0, 0, 0, 0, 0, [])), (10, (.goto 11, 13, false, false, 21, 0, 0, 0, 0, 0, [])), (15, (.iconst 1, 16, false, false, 0, 0, 0, 0, 1, 0, [])), (16, (.ireturn, 17, false, false, 0, 0, 0, 0, 0, 0, [])), (19, (.iconst 2, 20, false, false, 0, 0, 0, 0, 2, 0, [])), (20, (.ireturn, 21, false, false, 0, 0, 0, 0, 0, 0, [])), (21, (.iconst 0, 22, false, false, 0, 0, 0, 0, 0, 0, [])), (22, (.ireturn, 23, false, false, 0, 0, 0, 0, 0, 0, []))])], 1, [("java/lang/IndexOutOfBoundsException", 15, 4), ("java/util/NoSuchElementException", 19, 4)])
set_option maxRecDepth 100000 in
theorem v_L_led : VE MYT dflT E_L_led := ⟨⟨⟨⟨⟨dL_led_0, rfl⟩, rfl⟩, ⟨⟨dL_led_1, rfl⟩, rfl⟩, ⟨⟨dL_led_2, rfl⟩, rfl⟩, ⟨⟨dL_led_3, rfl⟩, rfl⟩, ⟨⟨dL_led_4, rfl⟩, rfl⟩, ⟨⟨dL_led_5, rfl⟩, Or.inr ⟨by decide, ⟨_, my_264, sL_62⟩, fun _ E q k hq => hcL_led E q k hq⟩⟩, ⟨⟨dL_led_8, rfl⟩, trivial⟩, ⟨⟨dL_led_9, rfl⟩, trivial⟩, ⟨⟨dL_led_10, rfl⟩, rfl⟩, ⟨⟨dL_led_15, rfl⟩, rfl⟩, ⟨⟨dL_led_16, rfl⟩, Or.inl ⟨rfl, rfl⟩⟩, ⟨⟨dL_led_19, rfl⟩, rfl⟩, ⟨⟨dL_led_20, rfl⟩, Or.inl ⟨rfl, rfl⟩⟩, ⟨⟨dL_led_21, rfl⟩, rfl⟩, ⟨⟨dL_led_22, rfl⟩, Or.inl ⟨rfl, rfl⟩⟩, trivial⟩, trivial⟩, by decide, Or.inr (Or.inl ⟨rfl, by decide, by decide⟩)⟩
set_option maxRecDepth 100000 in
theorem g_L_led_0 (S : sT) (call : cT) (n : Nat) (v0 : Value) (x1 : Int32) (x2 : Int32) (v3 : Value) (h : pH) : bd S call dflT E_L_led (n + 1) 0 [some (v0), some (.int x1), some (.int x2), some (v3), none] [] h = (iA v3 (iA v0 (rC h v0 14 (cIx (thrH 1 5 [("java/lang/IndexOutOfBoundsException", 15, 4), ("java/util/NoSuchElementException", 19, 4)] [some (v0), some (.int x1), some (.int x2), some (v3), none] (bd S call dflT E_L_led n)) (call 264 [v0, .int x1, .int x2] h) (fun y2 h1 => sJ h1 v3 0 y2.toInt64 (fun h3 => some (.inl (some (.int 0)), h3))))))) := rfl
set_option maxRecDepth 100000 in
theorem g_L_led_15 (S : sT) (call : cT) (n : Nat) (v0 : Value) (x1 : Int32) (x2 : Int32) (v3 : Value) (o4 : Option Value) (h : pH) : bd S call dflT E_L_led (n + 1) 15 [some (v0), some (.int x1), some (.int x2), some (v3), o4] [] h = (some (.inl (some (.int 1)), h)) := rfl
set_option maxRecDepth 100000 in
theorem g_L_led_19 (S : sT) (call : cT) (n : Nat) (v0 : Value) (x1 : Int32) (x2 : Int32) (v3 : Value) (o4 : Option Value) (h : pH) : bd S call dflT E_L_led (n + 1) 19 [some (v0), some (.int x1), some (.int x2), some (v3), o4] [] h = (some (.inl (some (.int 2)), h)) := rfl
theorem dL_owed_0 : decode cL_owed 0 = .ok (.aload_n 2, 1) := by decide +kernel
theorem dL_owed_1 : decode cL_owed 1 = .ok (.iconst 0, 1) := by decide +kernel
theorem dL_owed_2 : decode cL_owed 2 = .ok (.aload_n 0, 1) := by decide +kernel
theorem dL_owed_3 : decode cL_owed 3 = .ok (.iload_n 1, 1) := by decide +kernel
theorem dL_owed_4 : decode cL_owed 4 = .ok (.invokevirtual 65, 3) := by decide +kernel
theorem dL_owed_7 : decode cL_owed 7 = .ok (.i2l, 1) := by decide +kernel
theorem dL_owed_8 : decode cL_owed 8 = .ok (.lastore, 1) := by decide +kernel
theorem dL_owed_9 : decode cL_owed 9 = .ok (.goto 9, 3) := by decide +kernel
theorem dL_owed_13 : decode cL_owed 13 = .ok (.iconst 1, 1) := by decide +kernel
theorem dL_owed_14 : decode cL_owed 14 = .ok (.ireturn, 1) := by decide +kernel
theorem dL_owed_16 : decode cL_owed 16 = .ok (.iconst 2, 1) := by decide +kernel
theorem dL_owed_17 : decode cL_owed 17 = .ok (.ireturn, 1) := by decide +kernel
theorem dL_owed_18 : decode cL_owed 18 = .ok (.iconst 0, 1) := by decide +kernel
theorem dL_owed_19 : decode cL_owed 19 = .ok (.ireturn, 1) := by decide +kernel
theorem dL_owed_12 : decode cL_owed 12 = .ok (.astore_n 3, 1) := by decide +kernel
theorem dL_owed_15 : decode cL_owed 15 = .ok (.astore_n 3, 1) := by decide +kernel
theorem hcL_owed : ∀ E q k, clk [("java/lang/IndexOutOfBoundsException", 13, 3), ("java/lang/ClassCastException", 16, 3)] E = some (q, k) → HC mL_owed 4 E q k := by
  intro E q k h
  unfold clk at h
  split at h
  · rename_i he; subst he; cases h
    exact ⟨[], ⟨0, 9, 12, 13⟩, [⟨0, 9, 15, 44⟩], 1, rfl, by decide, (fun z hz => by cases hz), by decide, by decide, tw_in tk_3 (i := 60) rfl rfl, by decide +kernel, Or.inr ⟨3, rfl, dL_owed_12, rfl⟩, rfl⟩
  unfold clk at h
  split at h
  · rename_i he; subst he; cases h
    exact ⟨[⟨0, 9, 12, 13⟩], ⟨0, 9, 15, 44⟩, [], 1, rfl, by decide, (by
      intro z hz
      simp only [List.mem_cons, List.not_mem_nil, or_false] at hz
      rcases hz with rfl
      · exact ⟨by decide, "java/lang/IndexOutOfBoundsException", by decide, tw_in tk_3 (i := 60) rfl rfl, by decide⟩), by decide, by decide, tw_in tk_5 (i := 4) rfl rfl, by decide +kernel, Or.inr ⟨3, rfl, dL_owed_15, rfl⟩, rfl⟩
  cases h
noncomputable def E_L_owed : mE := (mL_owed, [(19, [(0, (.aload_n 2, 1, false, false, 2, 0, 0, 0, 0, 0, [])), (1, (.iconst 0, 2, false, false, 0, 0, 0, 0, 0, 0, [])), (2, (.aload_n 0, 3, false, false, 0, 0, 0, 0, 0, 0, [])), (3, (.iload_n 1, 4, false, false, 1, 0, 0, 0, 0, 0, [])), (4, (.invokevirtual 65, 7, false, false, 267, 1, 1, 14, 0, 0, [])), (7, (.i2l, 8, false, false, 0, 0, 0, 0, 0, 0, [])), (8, (.lastore, 9, false, false, 0, 0, 0, 0, 0, 0, [])), (9, (.goto 9, 12, false, false, 18, 0, 0, 0, 0, 0, [])), (13, (.iconst 1, 14, false, false, 0, 0, 0, 0, 1, 0, [])), (14, (.ireturn, 15, false, false, 0, 0, 0, 0, 0, 0, [])), (16, (.iconst 2, 17, false, false, 0, 0, 0, 0, 2, 0, [])), (17, (.ireturn, 18, false, false, 0, 0, 0, 0, 0, 0, [])), (18, (.iconst 0, 19, false, false, 0, 0, 0, 0, 0, 0, [])), (19, (.ireturn, 20, false, false, 0, 0, 0, 0, 0, 0, []))])], 1, [("java/lang/IndexOutOfBoundsException", 13, 3), ("java/lang/ClassCastException", 16, 3)])
set_option maxRecDepth 100000 in
theorem v_L_owed : VE MYT dflT E_L_owed := ⟨⟨⟨⟨⟨dL_owed_0, rfl⟩, rfl⟩, ⟨⟨dL_owed_1, rfl⟩, rfl⟩, ⟨⟨dL_owed_2, rfl⟩, rfl⟩, ⟨⟨dL_owed_3, rfl⟩, rfl⟩, ⟨⟨dL_owed_4, rfl⟩, Or.inr ⟨by decide, ⟨_, my_267, sL_65⟩, fun _ E q k hq => hcL_owed E q k hq⟩⟩, ⟨⟨dL_owed_7, rfl⟩, trivial⟩, ⟨⟨dL_owed_8, rfl⟩, trivial⟩, ⟨⟨dL_owed_9, rfl⟩, rfl⟩, ⟨⟨dL_owed_13, rfl⟩, rfl⟩, ⟨⟨dL_owed_14, rfl⟩, Or.inl ⟨rfl, rfl⟩⟩, ⟨⟨dL_owed_16, rfl⟩, rfl⟩, ⟨⟨dL_owed_17, rfl⟩, Or.inl ⟨rfl, rfl⟩⟩, ⟨⟨dL_owed_18, rfl⟩, rfl⟩, ⟨⟨dL_owed_19, rfl⟩, Or.inl ⟨rfl, rfl⟩⟩, trivial⟩, trivial⟩, by decide, Or.inr (Or.inl ⟨rfl, by decide, by decide⟩)⟩
set_option maxRecDepth 100000 in
theorem g_L_owed_0 (S : sT) (call : cT) (n : Nat) (v0 : Value) (x1 : Int32) (v2 : Value) (h : pH) : bd S call dflT E_L_owed (n + 1) 0 [some (v0), some (.int x1), some (v2), none] [] h = (iA v2 (iA v0 (rC h v0 14 (cIx (thrH 1 4 [("java/lang/IndexOutOfBoundsException", 13, 3), ("java/lang/ClassCastException", 16, 3)] [some (v0), some (.int x1), some (v2), none] (bd S call dflT E_L_owed n)) (call 267 [v0, .int x1] h) (fun y2 h1 => sJ h1 v2 0 y2.toInt64 (fun h3 => some (.inl (some (.int 0)), h3))))))) := rfl
set_option maxRecDepth 100000 in
theorem g_L_owed_13 (S : sT) (call : cT) (n : Nat) (v0 : Value) (x1 : Int32) (v2 : Value) (o3 : Option Value) (h : pH) : bd S call dflT E_L_owed (n + 1) 13 [some (v0), some (.int x1), some (v2), o3] [] h = (some (.inl (some (.int 1)), h)) := rfl
set_option maxRecDepth 100000 in
theorem g_L_owed_16 (S : sT) (call : cT) (n : Nat) (v0 : Value) (x1 : Int32) (v2 : Value) (o3 : Option Value) (h : pH) : bd S call dflT E_L_owed (n + 1) 16 [some (v0), some (.int x1), some (v2), o3] [] h = (some (.inl (some (.int 2)), h)) := rfl
theorem dL_rent_0 : decode cL_rent 0 = .ok (.aload_n 2, 1) := by decide +kernel
theorem dL_rent_1 : decode cL_rent 1 = .ok (.iconst 0, 1) := by decide +kernel
theorem dL_rent_2 : decode cL_rent 2 = .ok (.aload_n 0, 1) := by decide +kernel
theorem dL_rent_3 : decode cL_rent 3 = .ok (.iload_n 1, 1) := by decide +kernel
theorem dL_rent_4 : decode cL_rent 4 = .ok (.invokevirtual 68, 3) := by decide +kernel
theorem dL_rent_7 : decode cL_rent 7 = .ok (.i2l, 1) := by decide +kernel
theorem dL_rent_8 : decode cL_rent 8 = .ok (.lastore, 1) := by decide +kernel
theorem dL_rent_9 : decode cL_rent 9 = .ok (.goto 9, 3) := by decide +kernel
theorem dL_rent_13 : decode cL_rent 13 = .ok (.iconst 1, 1) := by decide +kernel
theorem dL_rent_14 : decode cL_rent 14 = .ok (.ireturn, 1) := by decide +kernel
theorem dL_rent_16 : decode cL_rent 16 = .ok (.iconst 2, 1) := by decide +kernel
theorem dL_rent_17 : decode cL_rent 17 = .ok (.ireturn, 1) := by decide +kernel
theorem dL_rent_18 : decode cL_rent 18 = .ok (.iconst 0, 1) := by decide +kernel
theorem dL_rent_19 : decode cL_rent 19 = .ok (.ireturn, 1) := by decide +kernel
theorem dL_rent_12 : decode cL_rent 12 = .ok (.astore_n 3, 1) := by decide +kernel
theorem dL_rent_15 : decode cL_rent 15 = .ok (.astore_n 3, 1) := by decide +kernel
theorem hcL_rent : ∀ E q k, clk [("java/lang/IndexOutOfBoundsException", 13, 3), ("java/lang/ClassCastException", 16, 3)] E = some (q, k) → HC mL_rent 4 E q k := by
  intro E q k h
  unfold clk at h
  split at h
  · rename_i he; subst he; cases h
    exact ⟨[], ⟨0, 9, 12, 13⟩, [⟨0, 9, 15, 44⟩], 1, rfl, by decide, (fun z hz => by cases hz), by decide, by decide, tw_in tk_3 (i := 60) rfl rfl, by decide +kernel, Or.inr ⟨3, rfl, dL_rent_12, rfl⟩, rfl⟩
  unfold clk at h
  split at h
  · rename_i he; subst he; cases h
    exact ⟨[⟨0, 9, 12, 13⟩], ⟨0, 9, 15, 44⟩, [], 1, rfl, by decide, (by
      intro z hz
      simp only [List.mem_cons, List.not_mem_nil, or_false] at hz
      rcases hz with rfl
      · exact ⟨by decide, "java/lang/IndexOutOfBoundsException", by decide, tw_in tk_3 (i := 60) rfl rfl, by decide⟩), by decide, by decide, tw_in tk_5 (i := 4) rfl rfl, by decide +kernel, Or.inr ⟨3, rfl, dL_rent_15, rfl⟩, rfl⟩
  cases h
noncomputable def E_L_rent : mE := (mL_rent, [(19, [(0, (.aload_n 2, 1, false, false, 2, 0, 0, 0, 0, 0, [])), (1, (.iconst 0, 2, false, false, 0, 0, 0, 0, 0, 0, [])), (2, (.aload_n 0, 3, false, false, 0, 0, 0, 0, 0, 0, [])), (3, (.iload_n 1, 4, false, false, 1, 0, 0, 0, 0, 0, [])), (4, (.invokevirtual 68, 7, false, false, 270, 1, 1, 14, 0, 0, [])), (7, (.i2l, 8, false, false, 0, 0, 0, 0, 0, 0, [])), (8, (.lastore, 9, false, false, 0, 0, 0, 0, 0, 0, [])), (9, (.goto 9, 12, false, false, 18, 0, 0, 0, 0, 0, [])), (13, (.iconst 1, 14, false, false, 0, 0, 0, 0, 1, 0, [])), (14, (.ireturn, 15, false, false, 0, 0, 0, 0, 0, 0, [])), (16, (.iconst 2, 17, false, false, 0, 0, 0, 0, 2, 0, [])), (17, (.ireturn, 18, false, false, 0, 0, 0, 0, 0, 0, [])), (18, (.iconst 0, 19, false, false, 0, 0, 0, 0, 0, 0, [])), (19, (.ireturn, 20, false, false, 0, 0, 0, 0, 0, 0, []))])], 1, [("java/lang/IndexOutOfBoundsException", 13, 3), ("java/lang/ClassCastException", 16, 3)])
set_option maxRecDepth 100000 in
theorem v_L_rent : VE MYT dflT E_L_rent := ⟨⟨⟨⟨⟨dL_rent_0, rfl⟩, rfl⟩, ⟨⟨dL_rent_1, rfl⟩, rfl⟩, ⟨⟨dL_rent_2, rfl⟩, rfl⟩, ⟨⟨dL_rent_3, rfl⟩, rfl⟩, ⟨⟨dL_rent_4, rfl⟩, Or.inr ⟨by decide, ⟨_, my_270, sL_68⟩, fun _ E q k hq => hcL_rent E q k hq⟩⟩, ⟨⟨dL_rent_7, rfl⟩, trivial⟩, ⟨⟨dL_rent_8, rfl⟩, trivial⟩, ⟨⟨dL_rent_9, rfl⟩, rfl⟩, ⟨⟨dL_rent_13, rfl⟩, rfl⟩, ⟨⟨dL_rent_14, rfl⟩, Or.inl ⟨rfl, rfl⟩⟩, ⟨⟨dL_rent_16, rfl⟩, rfl⟩, ⟨⟨dL_rent_17, rfl⟩, Or.inl ⟨rfl, rfl⟩⟩, ⟨⟨dL_rent_18, rfl⟩, rfl⟩, ⟨⟨dL_rent_19, rfl⟩, Or.inl ⟨rfl, rfl⟩⟩, trivial⟩, trivial⟩, by decide, Or.inr (Or.inl ⟨rfl, by decide, by decide⟩)⟩
set_option maxRecDepth 100000 in
theorem g_L_rent_0 (S : sT) (call : cT) (n : Nat) (v0 : Value) (x1 : Int32) (v2 : Value) (h : pH) : bd S call dflT E_L_rent (n + 1) 0 [some (v0), some (.int x1), some (v2), none] [] h = (iA v2 (iA v0 (rC h v0 14 (cIx (thrH 1 4 [("java/lang/IndexOutOfBoundsException", 13, 3), ("java/lang/ClassCastException", 16, 3)] [some (v0), some (.int x1), some (v2), none] (bd S call dflT E_L_rent n)) (call 270 [v0, .int x1] h) (fun y2 h1 => sJ h1 v2 0 y2.toInt64 (fun h3 => some (.inl (some (.int 0)), h3))))))) := rfl
set_option maxRecDepth 100000 in
theorem g_L_rent_13 (S : sT) (call : cT) (n : Nat) (v0 : Value) (x1 : Int32) (v2 : Value) (o3 : Option Value) (h : pH) : bd S call dflT E_L_rent (n + 1) 13 [some (v0), some (.int x1), some (v2), o3] [] h = (some (.inl (some (.int 1)), h)) := rfl
set_option maxRecDepth 100000 in
theorem g_L_rent_16 (S : sT) (call : cT) (n : Nat) (v0 : Value) (x1 : Int32) (v2 : Value) (o3 : Option Value) (h : pH) : bd S call dflT E_L_rent (n + 1) 16 [some (v0), some (.int x1), some (v2), o3] [] h = (some (.inl (some (.int 2)), h)) := rfl
theorem dL_words_0 : decode cL_words 0 = .ok (.aload_n 2, 1) := by decide +kernel
theorem dL_words_1 : decode cL_words 1 = .ok (.iconst 0, 1) := by decide +kernel
theorem dL_words_2 : decode cL_words 2 = .ok (.aload_n 0, 1) := by decide +kernel
theorem dL_words_3 : decode cL_words 3 = .ok (.iload_n 1, 1) := by decide +kernel
theorem dL_words_4 : decode cL_words 4 = .ok (.invokevirtual 71, 3) := by decide +kernel
theorem dL_words_7 : decode cL_words 7 = .ok (.i2l, 1) := by decide +kernel
theorem dL_words_8 : decode cL_words 8 = .ok (.lastore, 1) := by decide +kernel
theorem dL_words_9 : decode cL_words 9 = .ok (.goto 9, 3) := by decide +kernel
theorem dL_words_13 : decode cL_words 13 = .ok (.iconst 1, 1) := by decide +kernel
theorem dL_words_14 : decode cL_words 14 = .ok (.ireturn, 1) := by decide +kernel
theorem dL_words_16 : decode cL_words 16 = .ok (.iconst 2, 1) := by decide +kernel
theorem dL_words_17 : decode cL_words 17 = .ok (.ireturn, 1) := by decide +kernel
theorem dL_words_18 : decode cL_words 18 = .ok (.iconst 0, 1) := by decide +kernel
theorem dL_words_19 : decode cL_words 19 = .ok (.ireturn, 1) := by decide +kernel
theorem dL_words_12 : decode cL_words 12 = .ok (.astore_n 3, 1) := by decide +kernel
theorem dL_words_15 : decode cL_words 15 = .ok (.astore_n 3, 1) := by decide +kernel
theorem hcL_words : ∀ E q k, clk [("java/lang/IllegalArgumentException", 13, 3), ("java/lang/UnsupportedOperationException", 16, 3)] E = some (q, k) → HC mL_words 4 E q k := by
  intro E q k h
  unfold clk at h
  split at h
  · rename_i he; subst he; cases h
    exact ⟨[], ⟨0, 9, 12, 15⟩, [⟨0, 9, 15, 74⟩], 1, rfl, by decide, (fun z hz => by cases hz), by decide, by decide, tw_in tk_3 (i := 138) rfl rfl, by decide +kernel, Or.inr ⟨3, rfl, dL_words_12, rfl⟩, rfl⟩
  unfold clk at h
  split at h
  · rename_i he; subst he; cases h
    exact ⟨[⟨0, 9, 12, 15⟩], ⟨0, 9, 15, 74⟩, [], 1, rfl, by decide, (by
      intro z hz
      simp only [List.mem_cons, List.not_mem_nil, or_false] at hz
      rcases hz with rfl
      · exact ⟨by decide, "java/lang/IllegalArgumentException", by decide, tw_in tk_3 (i := 138) rfl rfl, by decide⟩), by decide, by decide, tw_in tk_6 (i := 114) rfl rfl, by decide +kernel, Or.inr ⟨3, rfl, dL_words_15, rfl⟩, rfl⟩
  cases h
noncomputable def E_L_words : mE := (mL_words, [(19, [(0, (.aload_n 2, 1, false, false, 2, 0, 0, 0, 0, 0, [])), (1, (.iconst 0, 2, false, false, 0, 0, 0, 0, 0, 0, [])), (2, (.aload_n 0, 3, false, false, 0, 0, 0, 0, 0, 0, [])), (3, (.iload_n 1, 4, false, false, 1, 0, 0, 0, 0, 0, [])), (4, (.invokevirtual 71, 7, false, false, 279, 1, 1, 14, 0, 0, [])), (7, (.i2l, 8, false, false, 0, 0, 0, 0, 0, 0, [])), (8, (.lastore, 9, false, false, 0, 0, 0, 0, 0, 0, [])), (9, (.goto 9, 12, false, false, 18, 0, 0, 0, 0, 0, [])), (13, (.iconst 1, 14, false, false, 0, 0, 0, 0, 1, 0, [])), (14, (.ireturn, 15, false, false, 0, 0, 0, 0, 0, 0, [])), (16, (.iconst 2, 17, false, false, 0, 0, 0, 0, 2, 0, [])), (17, (.ireturn, 18, false, false, 0, 0, 0, 0, 0, 0, [])), (18, (.iconst 0, 19, false, false, 0, 0, 0, 0, 0, 0, [])), (19, (.ireturn, 20, false, false, 0, 0, 0, 0, 0, 0, []))])], 1, [("java/lang/IllegalArgumentException", 13, 3), ("java/lang/UnsupportedOperationException", 16, 3)])
set_option maxRecDepth 100000 in
theorem v_L_words : VE MYT dflT E_L_words := ⟨⟨⟨⟨⟨dL_words_0, rfl⟩, rfl⟩, ⟨⟨dL_words_1, rfl⟩, rfl⟩, ⟨⟨dL_words_2, rfl⟩, rfl⟩, ⟨⟨dL_words_3, rfl⟩, rfl⟩, ⟨⟨dL_words_4, rfl⟩, Or.inr ⟨by decide, ⟨_, my_279, sL_71⟩, fun _ E q k hq => hcL_words E q k hq⟩⟩, ⟨⟨dL_words_7, rfl⟩, trivial⟩, ⟨⟨dL_words_8, rfl⟩, trivial⟩, ⟨⟨dL_words_9, rfl⟩, rfl⟩, ⟨⟨dL_words_13, rfl⟩, rfl⟩, ⟨⟨dL_words_14, rfl⟩, Or.inl ⟨rfl, rfl⟩⟩, ⟨⟨dL_words_16, rfl⟩, rfl⟩, ⟨⟨dL_words_17, rfl⟩, Or.inl ⟨rfl, rfl⟩⟩, ⟨⟨dL_words_18, rfl⟩, rfl⟩, ⟨⟨dL_words_19, rfl⟩, Or.inl ⟨rfl, rfl⟩⟩, trivial⟩, trivial⟩, by decide, Or.inr (Or.inl ⟨rfl, by decide, by decide⟩)⟩
set_option maxRecDepth 100000 in
theorem g_L_words_0 (S : sT) (call : cT) (n : Nat) (v0 : Value) (x1 : Int32) (v2 : Value) (h : pH) : bd S call dflT E_L_words (n + 1) 0 [some (v0), some (.int x1), some (v2), none] [] h = (iA v2 (iA v0 (rC h v0 14 (cIx (thrH 1 4 [("java/lang/IllegalArgumentException", 13, 3), ("java/lang/UnsupportedOperationException", 16, 3)] [some (v0), some (.int x1), some (v2), none] (bd S call dflT E_L_words n)) (call 279 [v0, .int x1] h) (fun y2 h1 => sJ h1 v2 0 y2.toInt64 (fun h3 => some (.inl (some (.int 0)), h3))))))) := rfl
set_option maxRecDepth 100000 in
theorem g_L_words_13 (S : sT) (call : cT) (n : Nat) (v0 : Value) (x1 : Int32) (v2 : Value) (o3 : Option Value) (h : pH) : bd S call dflT E_L_words (n + 1) 13 [some (v0), some (.int x1), some (v2), o3] [] h = (some (.inl (some (.int 1)), h)) := rfl
set_option maxRecDepth 100000 in
theorem g_L_words_16 (S : sT) (call : cT) (n : Nat) (v0 : Value) (x1 : Int32) (v2 : Value) (o3 : Option Value) (h : pH) : bd S call dflT E_L_words (n + 1) 16 [some (v0), some (.int x1), some (v2), o3] [] h = (some (.inl (some (.int 2)), h)) := rfl
theorem dL_may_0 : decode cL_may 0 = .ok (.aload_n 3, 1) := by decide +kernel
theorem dL_may_1 : decode cL_may 1 = .ok (.iconst 0, 1) := by decide +kernel
theorem dL_may_2 : decode cL_may 2 = .ok (.aload_n 0, 1) := by decide +kernel
theorem dL_may_3 : decode cL_may 3 = .ok (.iload_n 1, 1) := by decide +kernel
theorem dL_may_4 : decode cL_may 4 = .ok (.iload_n 2, 1) := by decide +kernel
theorem dL_may_5 : decode cL_may 5 = .ok (.invokevirtual 76, 3) := by decide +kernel
theorem dL_may_8 : decode cL_may 8 = .ok (.i2l, 1) := by decide +kernel
theorem dL_may_9 : decode cL_may 9 = .ok (.lastore, 1) := by decide +kernel
theorem dL_may_10 : decode cL_may 10 = .ok (.goto 11, 3) := by decide +kernel
theorem dL_may_15 : decode cL_may 15 = .ok (.iconst 1, 1) := by decide +kernel
theorem dL_may_16 : decode cL_may 16 = .ok (.ireturn, 1) := by decide +kernel
theorem dL_may_19 : decode cL_may 19 = .ok (.iconst 2, 1) := by decide +kernel
theorem dL_may_20 : decode cL_may 20 = .ok (.ireturn, 1) := by decide +kernel
theorem dL_may_21 : decode cL_may 21 = .ok (.iconst 0, 1) := by decide +kernel
theorem dL_may_22 : decode cL_may 22 = .ok (.ireturn, 1) := by decide +kernel
theorem dL_may_13 : decode cL_may 13 = .ok (.astore 4, 2) := by decide +kernel
theorem dL_may_17 : decode cL_may 17 = .ok (.astore 4, 2) := by decide +kernel
theorem hcL_may : ∀ E q k, clk [("java/lang/IndexOutOfBoundsException", 15, 4), ("java/util/NoSuchElementException", 19, 4)] E = some (q, k) → HC mL_may 5 E q k := by
  intro E q k h
  unfold clk at h
  split at h
  · rename_i he; subst he; cases h
    exact ⟨[], ⟨0, 10, 13, 13⟩, [⟨0, 10, 17, 60⟩], 2, rfl, by decide, (fun z hz => by cases hz), by decide, by decide, tw_in tk_3 (i := 60) rfl rfl, by decide +kernel, Or.inl ⟨dL_may_13, rfl⟩, rfl⟩
  unfold clk at h
  split at h
  · rename_i he; subst he; cases h
    exact ⟨[⟨0, 10, 13, 13⟩], ⟨0, 10, 17, 60⟩, [], 2, rfl, by decide, (by
      intro z hz
      simp only [List.mem_cons, List.not_mem_nil, or_false] at hz
      rcases hz with rfl
      · exact ⟨by decide, "java/lang/IndexOutOfBoundsException", by decide, tw_in tk_3 (i := 60) rfl rfl, by decide⟩), by decide, by decide, tw_in tk_6 (i := 57) rfl rfl, by decide +kernel, Or.inl ⟨dL_may_17, rfl⟩, rfl⟩
  cases h
noncomputable def E_L_may : mE := (mL_may, [(22, [(0, (.aload_n 3, 1, false, false, 3, 0, 0, 0, 0, 0, [])), (1, (.iconst 0, 2, false, false, 0, 0, 0, 0, 0, 0, [])), (2, (.aload_n 0, 3, false, false, 0, 0, 0, 0, 0, 0, [])), (3, (.iload_n 1, 4, false, false, 1, 0, 0, 0, 0, 0, [])), (4, (.iload_n 2, 5, false, false, 2, 0, 0, 0, 0, 0, [])), (5, (.invokevirtual 76, 8, false, false, 289, 2, 1, 14, 0, 0, [])), (8, (.i2l, 9, false, false, 0, 0, 0, 0, 0, 0, [])), (9, (.lastore, 10, false, false, 0, 0, 0, 0, 0, 0, [])), (10, (.goto 11, 13, false, false, 21, 0, 0, 0, 0, 0, [])), (15, (.iconst 1, 16, false, false, 0, 0, 0, 0, 1, 0, [])), (16, (.ireturn, 17, false, false, 0, 0, 0, 0, 0, 0, [])), (19, (.iconst 2, 20, false, false, 0, 0, 0, 0, 2, 0, [])), (20, (.ireturn, 21, false, false, 0, 0, 0, 0, 0, 0, [])), (21, (.iconst 0, 22, false, false, 0, 0, 0, 0, 0, 0, [])), (22, (.ireturn, 23, false, false, 0, 0, 0, 0, 0, 0, []))])], 1, [("java/lang/IndexOutOfBoundsException", 15, 4), ("java/util/NoSuchElementException", 19, 4)])
set_option maxRecDepth 100000 in
theorem v_L_may : VE MYT dflT E_L_may := ⟨⟨⟨⟨⟨dL_may_0, rfl⟩, rfl⟩, ⟨⟨dL_may_1, rfl⟩, rfl⟩, ⟨⟨dL_may_2, rfl⟩, rfl⟩, ⟨⟨dL_may_3, rfl⟩, rfl⟩, ⟨⟨dL_may_4, rfl⟩, rfl⟩, ⟨⟨dL_may_5, rfl⟩, Or.inr ⟨by decide, ⟨_, my_289, sL_76⟩, fun _ E q k hq => hcL_may E q k hq⟩⟩, ⟨⟨dL_may_8, rfl⟩, trivial⟩, ⟨⟨dL_may_9, rfl⟩, trivial⟩, ⟨⟨dL_may_10, rfl⟩, rfl⟩, ⟨⟨dL_may_15, rfl⟩, rfl⟩, ⟨⟨dL_may_16, rfl⟩, Or.inl ⟨rfl, rfl⟩⟩, ⟨⟨dL_may_19, rfl⟩, rfl⟩, ⟨⟨dL_may_20, rfl⟩, Or.inl ⟨rfl, rfl⟩⟩, ⟨⟨dL_may_21, rfl⟩, rfl⟩, ⟨⟨dL_may_22, rfl⟩, Or.inl ⟨rfl, rfl⟩⟩, trivial⟩, trivial⟩, by decide, Or.inr (Or.inl ⟨rfl, by decide, by decide⟩)⟩
set_option maxRecDepth 100000 in
theorem g_L_may_0 (S : sT) (call : cT) (n : Nat) (v0 : Value) (x1 : Int32) (x2 : Int32) (v3 : Value) (h : pH) : bd S call dflT E_L_may (n + 1) 0 [some (v0), some (.int x1), some (.int x2), some (v3), none] [] h = (iA v3 (iA v0 (rC h v0 14 (cIx (thrH 1 5 [("java/lang/IndexOutOfBoundsException", 15, 4), ("java/util/NoSuchElementException", 19, 4)] [some (v0), some (.int x1), some (.int x2), some (v3), none] (bd S call dflT E_L_may n)) (call 289 [v0, .int x1, .int x2] h) (fun y2 h1 => sJ h1 v3 0 y2.toInt64 (fun h3 => some (.inl (some (.int 0)), h3))))))) := rfl
set_option maxRecDepth 100000 in
theorem g_L_may_15 (S : sT) (call : cT) (n : Nat) (v0 : Value) (x1 : Int32) (x2 : Int32) (v3 : Value) (o4 : Option Value) (h : pH) : bd S call dflT E_L_may (n + 1) 15 [some (v0), some (.int x1), some (.int x2), some (v3), o4] [] h = (some (.inl (some (.int 1)), h)) := rfl
set_option maxRecDepth 100000 in
theorem g_L_may_19 (S : sT) (call : cT) (n : Nat) (v0 : Value) (x1 : Int32) (x2 : Int32) (v3 : Value) (o4 : Option Value) (h : pH) : bd S call dflT E_L_may (n + 1) 19 [some (v0), some (.int x1), some (.int x2), some (v3), o4] [] h = (some (.inl (some (.int 2)), h)) := rfl
theorem dL_why_0 : decode cL_why 0 = .ok (.aload_n 3, 1) := by decide +kernel
theorem dL_why_1 : decode cL_why 1 = .ok (.iconst 0, 1) := by decide +kernel
theorem dL_why_2 : decode cL_why 2 = .ok (.aload_n 0, 1) := by decide +kernel
theorem dL_why_3 : decode cL_why 3 = .ok (.iload_n 1, 1) := by decide +kernel
theorem dL_why_4 : decode cL_why 4 = .ok (.iload_n 2, 1) := by decide +kernel
theorem dL_why_5 : decode cL_why 5 = .ok (.invokevirtual 79, 3) := by decide +kernel
theorem dL_why_8 : decode cL_why 8 = .ok (.i2l, 1) := by decide +kernel
theorem dL_why_9 : decode cL_why 9 = .ok (.lastore, 1) := by decide +kernel
theorem dL_why_10 : decode cL_why 10 = .ok (.goto 11, 3) := by decide +kernel
theorem dL_why_15 : decode cL_why 15 = .ok (.iconst 1, 1) := by decide +kernel
theorem dL_why_16 : decode cL_why 16 = .ok (.ireturn, 1) := by decide +kernel
theorem dL_why_19 : decode cL_why 19 = .ok (.iconst 2, 1) := by decide +kernel
theorem dL_why_20 : decode cL_why 20 = .ok (.ireturn, 1) := by decide +kernel
theorem dL_why_21 : decode cL_why 21 = .ok (.iconst 0, 1) := by decide +kernel
theorem dL_why_22 : decode cL_why 22 = .ok (.ireturn, 1) := by decide +kernel
theorem dL_why_13 : decode cL_why 13 = .ok (.astore 4, 2) := by decide +kernel
theorem dL_why_17 : decode cL_why 17 = .ok (.astore 4, 2) := by decide +kernel
theorem hcL_why : ∀ E q k, clk [("java/lang/IndexOutOfBoundsException", 15, 4), ("java/util/NoSuchElementException", 19, 4)] E = some (q, k) → HC mL_why 5 E q k := by
  intro E q k h
  unfold clk at h
  split at h
  · rename_i he; subst he; cases h
    exact ⟨[], ⟨0, 10, 13, 13⟩, [⟨0, 10, 17, 60⟩], 2, rfl, by decide, (fun z hz => by cases hz), by decide, by decide, tw_in tk_3 (i := 60) rfl rfl, by decide +kernel, Or.inl ⟨dL_why_13, rfl⟩, rfl⟩
  unfold clk at h
  split at h
  · rename_i he; subst he; cases h
    exact ⟨[⟨0, 10, 13, 13⟩], ⟨0, 10, 17, 60⟩, [], 2, rfl, by decide, (by
      intro z hz
      simp only [List.mem_cons, List.not_mem_nil, or_false] at hz
      rcases hz with rfl
      · exact ⟨by decide, "java/lang/IndexOutOfBoundsException", by decide, tw_in tk_3 (i := 60) rfl rfl, by decide⟩), by decide, by decide, tw_in tk_6 (i := 57) rfl rfl, by decide +kernel, Or.inl ⟨dL_why_17, rfl⟩, rfl⟩
  cases h
noncomputable def E_L_why : mE := (mL_why, [(22, [(0, (.aload_n 3, 1, false, false, 3, 0, 0, 0, 0, 0, [])), (1, (.iconst 0, 2, false, false, 0, 0, 0, 0, 0, 0, [])), (2, (.aload_n 0, 3, false, false, 0, 0, 0, 0, 0, 0, [])), (3, (.iload_n 1, 4, false, false, 1, 0, 0, 0, 0, 0, [])), (4, (.iload_n 2, 5, false, false, 2, 0, 0, 0, 0, 0, [])), (5, (.invokevirtual 79, 8, false, false, 295, 2, 1, 14, 0, 0, [])), (8, (.i2l, 9, false, false, 0, 0, 0, 0, 0, 0, [])), (9, (.lastore, 10, false, false, 0, 0, 0, 0, 0, 0, [])), (10, (.goto 11, 13, false, false, 21, 0, 0, 0, 0, 0, [])), (15, (.iconst 1, 16, false, false, 0, 0, 0, 0, 1, 0, [])), (16, (.ireturn, 17, false, false, 0, 0, 0, 0, 0, 0, [])), (19, (.iconst 2, 20, false, false, 0, 0, 0, 0, 2, 0, [])), (20, (.ireturn, 21, false, false, 0, 0, 0, 0, 0, 0, [])), (21, (.iconst 0, 22, false, false, 0, 0, 0, 0, 0, 0, [])), (22, (.ireturn, 23, false, false, 0, 0, 0, 0, 0, 0, []))])], 1, [("java/lang/IndexOutOfBoundsException", 15, 4), ("java/util/NoSuchElementException", 19, 4)])
set_option maxRecDepth 100000 in
theorem v_L_why : VE MYT dflT E_L_why := ⟨⟨⟨⟨⟨dL_why_0, rfl⟩, rfl⟩, ⟨⟨dL_why_1, rfl⟩, rfl⟩, ⟨⟨dL_why_2, rfl⟩, rfl⟩, ⟨⟨dL_why_3, rfl⟩, rfl⟩, ⟨⟨dL_why_4, rfl⟩, rfl⟩, ⟨⟨dL_why_5, rfl⟩, Or.inr ⟨by decide, ⟨_, my_295, sL_79⟩, fun _ E q k hq => hcL_why E q k hq⟩⟩, ⟨⟨dL_why_8, rfl⟩, trivial⟩, ⟨⟨dL_why_9, rfl⟩, trivial⟩, ⟨⟨dL_why_10, rfl⟩, rfl⟩, ⟨⟨dL_why_15, rfl⟩, rfl⟩, ⟨⟨dL_why_16, rfl⟩, Or.inl ⟨rfl, rfl⟩⟩, ⟨⟨dL_why_19, rfl⟩, rfl⟩, ⟨⟨dL_why_20, rfl⟩, Or.inl ⟨rfl, rfl⟩⟩, ⟨⟨dL_why_21, rfl⟩, rfl⟩, ⟨⟨dL_why_22, rfl⟩, Or.inl ⟨rfl, rfl⟩⟩, trivial⟩, trivial⟩, by decide, Or.inr (Or.inl ⟨rfl, by decide, by decide⟩)⟩
set_option maxRecDepth 100000 in
theorem g_L_why_0 (S : sT) (call : cT) (n : Nat) (v0 : Value) (x1 : Int32) (x2 : Int32) (v3 : Value) (h : pH) : bd S call dflT E_L_why (n + 1) 0 [some (v0), some (.int x1), some (.int x2), some (v3), none] [] h = (iA v3 (iA v0 (rC h v0 14 (cIx (thrH 1 5 [("java/lang/IndexOutOfBoundsException", 15, 4), ("java/util/NoSuchElementException", 19, 4)] [some (v0), some (.int x1), some (.int x2), some (v3), none] (bd S call dflT E_L_why n)) (call 295 [v0, .int x1, .int x2] h) (fun y2 h1 => sJ h1 v3 0 y2.toInt64 (fun h3 => some (.inl (some (.int 0)), h3))))))) := rfl
set_option maxRecDepth 100000 in
theorem g_L_why_15 (S : sT) (call : cT) (n : Nat) (v0 : Value) (x1 : Int32) (x2 : Int32) (v3 : Value) (o4 : Option Value) (h : pH) : bd S call dflT E_L_why (n + 1) 15 [some (v0), some (.int x1), some (.int x2), some (v3), o4] [] h = (some (.inl (some (.int 1)), h)) := rfl
set_option maxRecDepth 100000 in
theorem g_L_why_19 (S : sT) (call : cT) (n : Nat) (v0 : Value) (x1 : Int32) (x2 : Int32) (v3 : Value) (o4 : Option Value) (h : pH) : bd S call dflT E_L_why (n + 1) 19 [some (v0), some (.int x1), some (.int x2), some (v3), o4] [] h = (some (.inl (some (.int 2)), h)) := rfl
theorem dL_cut_0 : decode cL_cut 0 = .ok (.aload_n 3, 1) := by decide +kernel
theorem dL_cut_1 : decode cL_cut 1 = .ok (.iconst 0, 1) := by decide +kernel
theorem dL_cut_2 : decode cL_cut 2 = .ok (.aload_n 0, 1) := by decide +kernel
theorem dL_cut_3 : decode cL_cut 3 = .ok (.iload_n 1, 1) := by decide +kernel
theorem dL_cut_4 : decode cL_cut 4 = .ok (.iload_n 2, 1) := by decide +kernel
theorem dL_cut_5 : decode cL_cut 5 = .ok (.invokevirtual 82, 3) := by decide +kernel
theorem dL_cut_8 : decode cL_cut 8 = .ok (.i2l, 1) := by decide +kernel
theorem dL_cut_9 : decode cL_cut 9 = .ok (.lastore, 1) := by decide +kernel
theorem dL_cut_10 : decode cL_cut 10 = .ok (.goto 11, 3) := by decide +kernel
theorem dL_cut_15 : decode cL_cut 15 = .ok (.iconst 1, 1) := by decide +kernel
theorem dL_cut_16 : decode cL_cut 16 = .ok (.ireturn, 1) := by decide +kernel
theorem dL_cut_19 : decode cL_cut 19 = .ok (.iconst 2, 1) := by decide +kernel
theorem dL_cut_20 : decode cL_cut 20 = .ok (.ireturn, 1) := by decide +kernel
theorem dL_cut_21 : decode cL_cut 21 = .ok (.iconst 0, 1) := by decide +kernel
theorem dL_cut_22 : decode cL_cut 22 = .ok (.ireturn, 1) := by decide +kernel
theorem dL_cut_13 : decode cL_cut 13 = .ok (.astore 4, 2) := by decide +kernel
theorem dL_cut_17 : decode cL_cut 17 = .ok (.astore 4, 2) := by decide +kernel
theorem hcL_cut : ∀ E q k, clk [("java/lang/IndexOutOfBoundsException", 15, 4), ("java/lang/ClassCastException", 19, 4)] E = some (q, k) → HC mL_cut 5 E q k := by
  intro E q k h
  unfold clk at h
  split at h
  · rename_i he; subst he; cases h
    exact ⟨[], ⟨0, 10, 13, 13⟩, [⟨0, 10, 17, 44⟩], 2, rfl, by decide, (fun z hz => by cases hz), by decide, by decide, tw_in tk_3 (i := 60) rfl rfl, by decide +kernel, Or.inl ⟨dL_cut_13, rfl⟩, rfl⟩
  unfold clk at h
  split at h
  · rename_i he; subst he; cases h
    exact ⟨[⟨0, 10, 13, 13⟩], ⟨0, 10, 17, 44⟩, [], 2, rfl, by decide, (by
      intro z hz
      simp only [List.mem_cons, List.not_mem_nil, or_false] at hz
      rcases hz with rfl
      · exact ⟨by decide, "java/lang/IndexOutOfBoundsException", by decide, tw_in tk_3 (i := 60) rfl rfl, by decide⟩), by decide, by decide, tw_in tk_5 (i := 4) rfl rfl, by decide +kernel, Or.inl ⟨dL_cut_17, rfl⟩, rfl⟩
  cases h
noncomputable def E_L_cut : mE := (mL_cut, [(22, [(0, (.aload_n 3, 1, false, false, 3, 0, 0, 0, 0, 0, [])), (1, (.iconst 0, 2, false, false, 0, 0, 0, 0, 0, 0, [])), (2, (.aload_n 0, 3, false, false, 0, 0, 0, 0, 0, 0, [])), (3, (.iload_n 1, 4, false, false, 1, 0, 0, 0, 0, 0, [])), (4, (.iload_n 2, 5, false, false, 2, 0, 0, 0, 0, 0, [])), (5, (.invokevirtual 82, 8, false, false, 298, 2, 1, 14, 0, 0, [])), (8, (.i2l, 9, false, false, 0, 0, 0, 0, 0, 0, [])), (9, (.lastore, 10, false, false, 0, 0, 0, 0, 0, 0, [])), (10, (.goto 11, 13, false, false, 21, 0, 0, 0, 0, 0, [])), (15, (.iconst 1, 16, false, false, 0, 0, 0, 0, 1, 0, [])), (16, (.ireturn, 17, false, false, 0, 0, 0, 0, 0, 0, [])), (19, (.iconst 2, 20, false, false, 0, 0, 0, 0, 2, 0, [])), (20, (.ireturn, 21, false, false, 0, 0, 0, 0, 0, 0, [])), (21, (.iconst 0, 22, false, false, 0, 0, 0, 0, 0, 0, [])), (22, (.ireturn, 23, false, false, 0, 0, 0, 0, 0, 0, []))])], 1, [("java/lang/IndexOutOfBoundsException", 15, 4), ("java/lang/ClassCastException", 19, 4)])
set_option maxRecDepth 100000 in
theorem v_L_cut : VE MYT dflT E_L_cut := ⟨⟨⟨⟨⟨dL_cut_0, rfl⟩, rfl⟩, ⟨⟨dL_cut_1, rfl⟩, rfl⟩, ⟨⟨dL_cut_2, rfl⟩, rfl⟩, ⟨⟨dL_cut_3, rfl⟩, rfl⟩, ⟨⟨dL_cut_4, rfl⟩, rfl⟩, ⟨⟨dL_cut_5, rfl⟩, Or.inr ⟨by decide, ⟨_, my_298, sL_82⟩, fun _ E q k hq => hcL_cut E q k hq⟩⟩, ⟨⟨dL_cut_8, rfl⟩, trivial⟩, ⟨⟨dL_cut_9, rfl⟩, trivial⟩, ⟨⟨dL_cut_10, rfl⟩, rfl⟩, ⟨⟨dL_cut_15, rfl⟩, rfl⟩, ⟨⟨dL_cut_16, rfl⟩, Or.inl ⟨rfl, rfl⟩⟩, ⟨⟨dL_cut_19, rfl⟩, rfl⟩, ⟨⟨dL_cut_20, rfl⟩, Or.inl ⟨rfl, rfl⟩⟩, ⟨⟨dL_cut_21, rfl⟩, rfl⟩, ⟨⟨dL_cut_22, rfl⟩, Or.inl ⟨rfl, rfl⟩⟩, trivial⟩, trivial⟩, by decide, Or.inr (Or.inl ⟨rfl, by decide, by decide⟩)⟩
set_option maxRecDepth 100000 in
theorem g_L_cut_0 (S : sT) (call : cT) (n : Nat) (v0 : Value) (x1 : Int32) (x2 : Int32) (v3 : Value) (h : pH) : bd S call dflT E_L_cut (n + 1) 0 [some (v0), some (.int x1), some (.int x2), some (v3), none] [] h = (iA v3 (iA v0 (rC h v0 14 (cIx (thrH 1 5 [("java/lang/IndexOutOfBoundsException", 15, 4), ("java/lang/ClassCastException", 19, 4)] [some (v0), some (.int x1), some (.int x2), some (v3), none] (bd S call dflT E_L_cut n)) (call 298 [v0, .int x1, .int x2] h) (fun y2 h1 => sJ h1 v3 0 y2.toInt64 (fun h3 => some (.inl (some (.int 0)), h3))))))) := rfl
set_option maxRecDepth 100000 in
theorem g_L_cut_15 (S : sT) (call : cT) (n : Nat) (v0 : Value) (x1 : Int32) (x2 : Int32) (v3 : Value) (o4 : Option Value) (h : pH) : bd S call dflT E_L_cut (n + 1) 15 [some (v0), some (.int x1), some (.int x2), some (v3), o4] [] h = (some (.inl (some (.int 1)), h)) := rfl
set_option maxRecDepth 100000 in
theorem g_L_cut_19 (S : sT) (call : cT) (n : Nat) (v0 : Value) (x1 : Int32) (x2 : Int32) (v3 : Value) (o4 : Option Value) (h : pH) : bd S call dflT E_L_cut (n + 1) 19 [some (v0), some (.int x1), some (.int x2), some (v3), o4] [] h = (some (.inl (some (.int 2)), h)) := rfl
theorem dL_loan_0 : decode cL_loan 0 = .ok (.aload 5, 2) := by decide +kernel
theorem dL_loan_2 : decode cL_loan 2 = .ok (.iconst 0, 1) := by decide +kernel
theorem dL_loan_3 : decode cL_loan 3 = .ok (.aload_n 0, 1) := by decide +kernel
theorem dL_loan_4 : decode cL_loan 4 = .ok (.iload_n 1, 1) := by decide +kernel
theorem dL_loan_5 : decode cL_loan 5 = .ok (.iload_n 2, 1) := by decide +kernel
theorem dL_loan_6 : decode cL_loan 6 = .ok (.iload_n 3, 1) := by decide +kernel
theorem dL_loan_7 : decode cL_loan 7 = .ok (.iload 4, 2) := by decide +kernel
theorem dL_loan_9 : decode cL_loan 9 = .ok (.invokevirtual 86, 3) := by decide +kernel
theorem dL_loan_12 : decode cL_loan 12 = .ok (.i2l, 1) := by decide +kernel
theorem dL_loan_13 : decode cL_loan 13 = .ok (.lastore, 1) := by decide +kernel
theorem dL_loan_14 : decode cL_loan 14 = .ok (.goto 11, 3) := by decide +kernel
theorem dL_loan_19 : decode cL_loan 19 = .ok (.iconst 1, 1) := by decide +kernel
theorem dL_loan_20 : decode cL_loan 20 = .ok (.ireturn, 1) := by decide +kernel
theorem dL_loan_23 : decode cL_loan 23 = .ok (.iconst 2, 1) := by decide +kernel
theorem dL_loan_24 : decode cL_loan 24 = .ok (.ireturn, 1) := by decide +kernel
theorem dL_loan_25 : decode cL_loan 25 = .ok (.iconst 0, 1) := by decide +kernel
theorem dL_loan_26 : decode cL_loan 26 = .ok (.ireturn, 1) := by decide +kernel
theorem dL_loan_17 : decode cL_loan 17 = .ok (.astore 6, 2) := by decide +kernel
theorem dL_loan_21 : decode cL_loan 21 = .ok (.astore 6, 2) := by decide +kernel
theorem hcL_loan : ∀ E q k, clk [("java/lang/IllegalArgumentException", 19, 6), ("java/lang/UnsupportedOperationException", 23, 6)] E = some (q, k) → HC mL_loan 9 E q k := by
  intro E q k h
  unfold clk at h
  split at h
  · rename_i he; subst he; cases h
    exact ⟨[], ⟨0, 14, 17, 15⟩, [⟨0, 14, 21, 74⟩], 2, rfl, by decide, (fun z hz => by cases hz), by decide, by decide, tw_in tk_3 (i := 138) rfl rfl, by decide +kernel, Or.inl ⟨dL_loan_17, rfl⟩, rfl⟩
  unfold clk at h
  split at h
  · rename_i he; subst he; cases h
    exact ⟨[⟨0, 14, 17, 15⟩], ⟨0, 14, 21, 74⟩, [], 2, rfl, by decide, (by
      intro z hz
      simp only [List.mem_cons, List.not_mem_nil, or_false] at hz
      rcases hz with rfl
      · exact ⟨by decide, "java/lang/IllegalArgumentException", by decide, tw_in tk_3 (i := 138) rfl rfl, by decide⟩), by decide, by decide, tw_in tk_6 (i := 114) rfl rfl, by decide +kernel, Or.inl ⟨dL_loan_21, rfl⟩, rfl⟩
  cases h
noncomputable def E_L_loan : mE := (mL_loan, [(26, [(0, (.aload 5, 2, false, false, 5, 0, 0, 0, 0, 0, [])), (2, (.iconst 0, 3, false, false, 0, 0, 0, 0, 0, 0, [])), (3, (.aload_n 0, 4, false, false, 0, 0, 0, 0, 0, 0, [])), (4, (.iload_n 1, 5, false, false, 1, 0, 0, 0, 0, 0, [])), (5, (.iload_n 2, 6, false, false, 2, 0, 0, 0, 0, 0, [])), (6, (.iload_n 3, 7, false, false, 3, 0, 0, 0, 0, 0, [])), (7, (.iload 4, 9, false, false, 4, 0, 0, 0, 0, 0, [])), (9, (.invokevirtual 86, 12, false, false, 303, 4, 1, 14, 0, 0, [])), (12, (.i2l, 13, false, false, 0, 0, 0, 0, 0, 0, [])), (13, (.lastore, 14, false, false, 0, 0, 0, 0, 0, 0, [])), (14, (.goto 11, 17, false, false, 25, 0, 0, 0, 0, 0, [])), (19, (.iconst 1, 20, false, false, 0, 0, 0, 0, 1, 0, [])), (20, (.ireturn, 21, false, false, 0, 0, 0, 0, 0, 0, [])), (23, (.iconst 2, 24, false, false, 0, 0, 0, 0, 2, 0, [])), (24, (.ireturn, 25, false, false, 0, 0, 0, 0, 0, 0, [])), (25, (.iconst 0, 26, false, false, 0, 0, 0, 0, 0, 0, [])), (26, (.ireturn, 27, false, false, 0, 0, 0, 0, 0, 0, []))])], 1, [("java/lang/IllegalArgumentException", 19, 6), ("java/lang/UnsupportedOperationException", 23, 6)])
set_option maxRecDepth 100000 in
theorem v_L_loan : VE MYT dflT E_L_loan := ⟨⟨⟨⟨⟨dL_loan_0, rfl⟩, rfl⟩, ⟨⟨dL_loan_2, rfl⟩, rfl⟩, ⟨⟨dL_loan_3, rfl⟩, rfl⟩, ⟨⟨dL_loan_4, rfl⟩, rfl⟩, ⟨⟨dL_loan_5, rfl⟩, rfl⟩, ⟨⟨dL_loan_6, rfl⟩, rfl⟩, ⟨⟨dL_loan_7, rfl⟩, rfl⟩, ⟨⟨dL_loan_9, rfl⟩, Or.inr ⟨by decide, ⟨_, my_303, sL_86⟩, fun _ E q k hq => hcL_loan E q k hq⟩⟩, ⟨⟨dL_loan_12, rfl⟩, trivial⟩, ⟨⟨dL_loan_13, rfl⟩, trivial⟩, ⟨⟨dL_loan_14, rfl⟩, rfl⟩, ⟨⟨dL_loan_19, rfl⟩, rfl⟩, ⟨⟨dL_loan_20, rfl⟩, Or.inl ⟨rfl, rfl⟩⟩, ⟨⟨dL_loan_23, rfl⟩, rfl⟩, ⟨⟨dL_loan_24, rfl⟩, Or.inl ⟨rfl, rfl⟩⟩, ⟨⟨dL_loan_25, rfl⟩, rfl⟩, ⟨⟨dL_loan_26, rfl⟩, Or.inl ⟨rfl, rfl⟩⟩, trivial⟩, trivial⟩, by decide, Or.inr (Or.inl ⟨rfl, by decide, by decide⟩)⟩
set_option maxRecDepth 100000 in
theorem g_L_loan_0 (S : sT) (call : cT) (n : Nat) (v0 : Value) (x1 : Int32) (x2 : Int32) (x3 : Int32) (x4 : Int32) (v5 : Value) (h : pH) : bd S call dflT E_L_loan (n + 1) 0 [some (v0), some (.int x1), some (.int x2), some (.int x3), some (.int x4), some (v5), none] [] h = (iA v5 (iA v0 (rC h v0 14 (cIx (thrH 1 7 [("java/lang/IllegalArgumentException", 19, 6), ("java/lang/UnsupportedOperationException", 23, 6)] [some (v0), some (.int x1), some (.int x2), some (.int x3), some (.int x4), some (v5), none] (bd S call dflT E_L_loan n)) (call 303 [v0, .int x1, .int x2, .int x3, .int x4] h) (fun y2 h1 => sJ h1 v5 0 y2.toInt64 (fun h3 => some (.inl (some (.int 0)), h3))))))) := rfl
set_option maxRecDepth 100000 in
theorem g_L_loan_19 (S : sT) (call : cT) (n : Nat) (v0 : Value) (x1 : Int32) (x2 : Int32) (x3 : Int32) (x4 : Int32) (v5 : Value) (o6 : Option Value) (h : pH) : bd S call dflT E_L_loan (n + 1) 19 [some (v0), some (.int x1), some (.int x2), some (.int x3), some (.int x4), some (v5), o6] [] h = (some (.inl (some (.int 1)), h)) := rfl
set_option maxRecDepth 100000 in
theorem g_L_loan_23 (S : sT) (call : cT) (n : Nat) (v0 : Value) (x1 : Int32) (x2 : Int32) (x3 : Int32) (x4 : Int32) (v5 : Value) (o6 : Option Value) (h : pH) : bd S call dflT E_L_loan (n + 1) 23 [some (v0), some (.int x1), some (.int x2), some (.int x3), some (.int x4), some (v5), o6] [] h = (some (.inl (some (.int 2)), h)) := rfl
theorem dL_owing_0 : decode cL_owing 0 = .ok (.aload_n 2, 1) := by decide +kernel
theorem dL_owing_1 : decode cL_owing 1 = .ok (.iconst 0, 1) := by decide +kernel
theorem dL_owing_2 : decode cL_owing 2 = .ok (.aload_n 0, 1) := by decide +kernel
theorem dL_owing_3 : decode cL_owing 3 = .ok (.iload_n 1, 1) := by decide +kernel
theorem dL_owing_4 : decode cL_owing 4 = .ok (.invokevirtual 90, 3) := by decide +kernel
theorem dL_owing_7 : decode cL_owing 7 = .ok (.i2l, 1) := by decide +kernel
theorem dL_owing_8 : decode cL_owing 8 = .ok (.lastore, 1) := by decide +kernel
theorem dL_owing_9 : decode cL_owing 9 = .ok (.goto 6, 3) := by decide +kernel
theorem dL_owing_13 : decode cL_owing 13 = .ok (.iconst 1, 1) := by decide +kernel
theorem dL_owing_14 : decode cL_owing 14 = .ok (.ireturn, 1) := by decide +kernel
theorem dL_owing_15 : decode cL_owing 15 = .ok (.iconst 0, 1) := by decide +kernel
theorem dL_owing_16 : decode cL_owing 16 = .ok (.ireturn, 1) := by decide +kernel
theorem dL_owing_12 : decode cL_owing 12 = .ok (.astore_n 3, 1) := by decide +kernel
theorem hcL_owing : ∀ E q k, clk [("java/lang/IndexOutOfBoundsException", 13, 3)] E = some (q, k) → HC mL_owing 4 E q k := by
  intro E q k h
  unfold clk at h
  split at h
  · rename_i he; subst he; cases h
    exact ⟨[], ⟨0, 9, 12, 13⟩, [], 1, rfl, by decide, (fun z hz => by cases hz), by decide, by decide, tw_in tk_3 (i := 60) rfl rfl, by decide +kernel, Or.inr ⟨3, rfl, dL_owing_12, rfl⟩, rfl⟩
  cases h
noncomputable def E_L_owing : mE := (mL_owing, [(16, [(0, (.aload_n 2, 1, false, false, 2, 0, 0, 0, 0, 0, [])), (1, (.iconst 0, 2, false, false, 0, 0, 0, 0, 0, 0, [])), (2, (.aload_n 0, 3, false, false, 0, 0, 0, 0, 0, 0, [])), (3, (.iload_n 1, 4, false, false, 1, 0, 0, 0, 0, 0, [])), (4, (.invokevirtual 90, 7, false, false, 307, 1, 1, 14, 0, 0, [])), (7, (.i2l, 8, false, false, 0, 0, 0, 0, 0, 0, [])), (8, (.lastore, 9, false, false, 0, 0, 0, 0, 0, 0, [])), (9, (.goto 6, 12, false, false, 15, 0, 0, 0, 0, 0, [])), (13, (.iconst 1, 14, false, false, 0, 0, 0, 0, 1, 0, [])), (14, (.ireturn, 15, false, false, 0, 0, 0, 0, 0, 0, [])), (15, (.iconst 0, 16, false, false, 0, 0, 0, 0, 0, 0, [])), (16, (.ireturn, 17, false, false, 0, 0, 0, 0, 0, 0, []))])], 1, [("java/lang/IndexOutOfBoundsException", 13, 3)])
set_option maxRecDepth 100000 in
theorem v_L_owing : VE MYT dflT E_L_owing := ⟨⟨⟨⟨⟨dL_owing_0, rfl⟩, rfl⟩, ⟨⟨dL_owing_1, rfl⟩, rfl⟩, ⟨⟨dL_owing_2, rfl⟩, rfl⟩, ⟨⟨dL_owing_3, rfl⟩, rfl⟩, ⟨⟨dL_owing_4, rfl⟩, Or.inr ⟨by decide, ⟨_, my_307, sL_90⟩, fun _ E q k hq => hcL_owing E q k hq⟩⟩, ⟨⟨dL_owing_7, rfl⟩, trivial⟩, ⟨⟨dL_owing_8, rfl⟩, trivial⟩, ⟨⟨dL_owing_9, rfl⟩, rfl⟩, ⟨⟨dL_owing_13, rfl⟩, rfl⟩, ⟨⟨dL_owing_14, rfl⟩, Or.inl ⟨rfl, rfl⟩⟩, ⟨⟨dL_owing_15, rfl⟩, rfl⟩, ⟨⟨dL_owing_16, rfl⟩, Or.inl ⟨rfl, rfl⟩⟩, trivial⟩, trivial⟩, by decide, Or.inr (Or.inl ⟨rfl, by decide, by decide⟩)⟩
set_option maxRecDepth 100000 in
theorem g_L_owing_0 (S : sT) (call : cT) (n : Nat) (v0 : Value) (x1 : Int32) (v2 : Value) (h : pH) : bd S call dflT E_L_owing (n + 1) 0 [some (v0), some (.int x1), some (v2), none] [] h = (iA v2 (iA v0 (rC h v0 14 (cIx (thrH 1 4 [("java/lang/IndexOutOfBoundsException", 13, 3)] [some (v0), some (.int x1), some (v2), none] (bd S call dflT E_L_owing n)) (call 307 [v0, .int x1] h) (fun y2 h1 => sJ h1 v2 0 y2.toInt64 (fun h3 => some (.inl (some (.int 0)), h3))))))) := rfl
set_option maxRecDepth 100000 in
theorem g_L_owing_13 (S : sT) (call : cT) (n : Nat) (v0 : Value) (x1 : Int32) (v2 : Value) (o3 : Option Value) (h : pH) : bd S call dflT E_L_owing (n + 1) 13 [some (v0), some (.int x1), some (v2), o3] [] h = (some (.inl (some (.int 1)), h)) := rfl
theorem dL_work_0 : decode cL_work 0 = .ok (.aload_n 3, 1) := by decide +kernel
theorem dL_work_1 : decode cL_work 1 = .ok (.iconst 0, 1) := by decide +kernel
theorem dL_work_2 : decode cL_work 2 = .ok (.aload_n 0, 1) := by decide +kernel
theorem dL_work_3 : decode cL_work 3 = .ok (.iload_n 1, 1) := by decide +kernel
theorem dL_work_4 : decode cL_work 4 = .ok (.iload_n 2, 1) := by decide +kernel
theorem dL_work_5 : decode cL_work 5 = .ok (.invokevirtual 93, 3) := by decide +kernel
theorem dL_work_8 : decode cL_work 8 = .ok (.ifCond .eq 7, 3) := by decide +kernel
theorem dL_work_11 : decode cL_work 11 = .ok (.lconst 1, 1) := by decide +kernel
theorem dL_work_12 : decode cL_work 12 = .ok (.goto 4, 3) := by decide +kernel
theorem dL_work_15 : decode cL_work 15 = .ok (.lconst 0, 1) := by decide +kernel
theorem dL_work_16 : decode cL_work 16 = .ok (.lastore, 1) := by decide +kernel
theorem dL_work_17 : decode cL_work 17 = .ok (.goto 7, 3) := by decide +kernel
theorem dL_work_22 : decode cL_work 22 = .ok (.iconst 1, 1) := by decide +kernel
theorem dL_work_23 : decode cL_work 23 = .ok (.ireturn, 1) := by decide +kernel
theorem dL_work_24 : decode cL_work 24 = .ok (.iconst 0, 1) := by decide +kernel
theorem dL_work_25 : decode cL_work 25 = .ok (.ireturn, 1) := by decide +kernel
theorem dL_work_20 : decode cL_work 20 = .ok (.astore 4, 2) := by decide +kernel
theorem hcL_work : ∀ E q k, clk [("java/lang/IndexOutOfBoundsException", 22, 4)] E = some (q, k) → HC mL_work 5 E q k := by
  intro E q k h
  unfold clk at h
  split at h
  · rename_i he; subst he; cases h
    exact ⟨[], ⟨0, 17, 20, 13⟩, [], 2, rfl, by decide, (fun z hz => by cases hz), by decide, by decide, tw_in tk_3 (i := 60) rfl rfl, by decide +kernel, Or.inl ⟨dL_work_20, rfl⟩, rfl⟩
  cases h
noncomputable def E_L_work : mE := (mL_work, [(25, [(0, (.aload_n 3, 1, false, false, 3, 0, 0, 0, 0, 0, [])), (1, (.iconst 0, 2, false, false, 0, 0, 0, 0, 0, 0, [])), (2, (.aload_n 0, 3, false, false, 0, 0, 0, 0, 0, 0, [])), (3, (.iload_n 1, 4, false, false, 1, 0, 0, 0, 0, 0, [])), (4, (.iload_n 2, 5, false, false, 2, 0, 0, 0, 0, 0, [])), (5, (.invokevirtual 93, 8, false, false, 311, 2, 1, 14, 0, 0, [])), (8, (.ifCond .eq 7, 11, false, false, 15, 0, 0, 0, 0, 0, [])), (11, (.lconst 1, 12, false, false, 0, 0, 0, 0, 0, 1, [])), (12, (.goto 4, 15, false, false, 16, 0, 0, 0, 0, 0, [])), (15, (.lconst 0, 16, false, false, 0, 0, 0, 0, 0, 0, [])), (16, (.lastore, 17, false, false, 0, 0, 0, 0, 0, 0, [])), (17, (.goto 7, 20, false, false, 24, 0, 0, 0, 0, 0, [])), (22, (.iconst 1, 23, false, false, 0, 0, 0, 0, 1, 0, [])), (23, (.ireturn, 24, false, false, 0, 0, 0, 0, 0, 0, [])), (24, (.iconst 0, 25, false, false, 0, 0, 0, 0, 0, 0, [])), (25, (.ireturn, 26, false, false, 0, 0, 0, 0, 0, 0, []))])], 1, [("java/lang/IndexOutOfBoundsException", 22, 4)])
set_option maxRecDepth 100000 in
theorem v_L_work : VE MYT dflT E_L_work := ⟨⟨⟨⟨⟨dL_work_0, rfl⟩, rfl⟩, ⟨⟨dL_work_1, rfl⟩, rfl⟩, ⟨⟨dL_work_2, rfl⟩, rfl⟩, ⟨⟨dL_work_3, rfl⟩, rfl⟩, ⟨⟨dL_work_4, rfl⟩, rfl⟩, ⟨⟨dL_work_5, rfl⟩, Or.inr ⟨by decide, ⟨_, my_311, sL_93⟩, fun _ E q k hq => hcL_work E q k hq⟩⟩, ⟨⟨dL_work_8, rfl⟩, rfl⟩, ⟨⟨dL_work_11, rfl⟩, rfl⟩, ⟨⟨dL_work_12, rfl⟩, rfl⟩, ⟨⟨dL_work_15, rfl⟩, rfl⟩, ⟨⟨dL_work_16, rfl⟩, trivial⟩, ⟨⟨dL_work_17, rfl⟩, rfl⟩, ⟨⟨dL_work_22, rfl⟩, rfl⟩, ⟨⟨dL_work_23, rfl⟩, Or.inl ⟨rfl, rfl⟩⟩, ⟨⟨dL_work_24, rfl⟩, rfl⟩, ⟨⟨dL_work_25, rfl⟩, Or.inl ⟨rfl, rfl⟩⟩, trivial⟩, trivial⟩, by decide, Or.inr (Or.inl ⟨rfl, by decide, by decide⟩)⟩
set_option maxRecDepth 100000 in
theorem g_L_work_0 (S : sT) (call : cT) (n : Nat) (v0 : Value) (x1 : Int32) (x2 : Int32) (v3 : Value) (h : pH) : bd S call dflT E_L_work (n + 1) 0 [some (v0), some (.int x1), some (.int x2), some (v3), none] [] h = (iA v3 (iA v0 (rC h v0 14 (cIx (thrH 1 5 [("java/lang/IndexOutOfBoundsException", 22, 4)] [some (v0), some (.int x1), some (.int x2), some (v3), none] (bd S call dflT E_L_work n)) (call 311 [v0, .int x1, .int x2] h) (fun y2 h1 => (if y2 = 0 then sJ h1 v3 0 0 (fun h3 => some (.inl (some (.int 0)), h3)) else sJ h1 v3 0 1 (fun h4 => some (.inl (some (.int 0)), h4)))))))) := rfl
set_option maxRecDepth 100000 in
theorem g_L_work_22 (S : sT) (call : cT) (n : Nat) (v0 : Value) (x1 : Int32) (x2 : Int32) (v3 : Value) (o4 : Option Value) (h : pH) : bd S call dflT E_L_work (n + 1) 22 [some (v0), some (.int x1), some (.int x2), some (v3), o4] [] h = (some (.inl (some (.int 1)), h)) := rfl
theorem dL_sell_0 : decode cL_sell 0 = .ok (.aload_n 3, 1) := by decide +kernel
theorem dL_sell_1 : decode cL_sell 1 = .ok (.iconst 0, 1) := by decide +kernel
theorem dL_sell_2 : decode cL_sell 2 = .ok (.aload_n 0, 1) := by decide +kernel
theorem dL_sell_3 : decode cL_sell 3 = .ok (.iload_n 1, 1) := by decide +kernel
theorem dL_sell_4 : decode cL_sell 4 = .ok (.iload_n 2, 1) := by decide +kernel
theorem dL_sell_5 : decode cL_sell 5 = .ok (.invokevirtual 97, 3) := by decide +kernel
theorem dL_sell_8 : decode cL_sell 8 = .ok (.i2l, 1) := by decide +kernel
theorem dL_sell_9 : decode cL_sell 9 = .ok (.lastore, 1) := by decide +kernel
theorem dL_sell_10 : decode cL_sell 10 = .ok (.goto 7, 3) := by decide +kernel
theorem dL_sell_15 : decode cL_sell 15 = .ok (.iconst 1, 1) := by decide +kernel
theorem dL_sell_16 : decode cL_sell 16 = .ok (.ireturn, 1) := by decide +kernel
theorem dL_sell_17 : decode cL_sell 17 = .ok (.iconst 0, 1) := by decide +kernel
theorem dL_sell_18 : decode cL_sell 18 = .ok (.ireturn, 1) := by decide +kernel
theorem dL_sell_13 : decode cL_sell 13 = .ok (.astore 4, 2) := by decide +kernel
theorem hcL_sell : ∀ E q k, clk [("java/lang/IndexOutOfBoundsException", 15, 4)] E = some (q, k) → HC mL_sell 5 E q k := by
  intro E q k h
  unfold clk at h
  split at h
  · rename_i he; subst he; cases h
    exact ⟨[], ⟨0, 10, 13, 13⟩, [], 2, rfl, by decide, (fun z hz => by cases hz), by decide, by decide, tw_in tk_3 (i := 60) rfl rfl, by decide +kernel, Or.inl ⟨dL_sell_13, rfl⟩, rfl⟩
  cases h
noncomputable def E_L_sell : mE := (mL_sell, [(18, [(0, (.aload_n 3, 1, false, false, 3, 0, 0, 0, 0, 0, [])), (1, (.iconst 0, 2, false, false, 0, 0, 0, 0, 0, 0, [])), (2, (.aload_n 0, 3, false, false, 0, 0, 0, 0, 0, 0, [])), (3, (.iload_n 1, 4, false, false, 1, 0, 0, 0, 0, 0, [])), (4, (.iload_n 2, 5, false, false, 2, 0, 0, 0, 0, 0, [])), (5, (.invokevirtual 97, 8, false, false, 314, 2, 1, 14, 0, 0, [])), (8, (.i2l, 9, false, false, 0, 0, 0, 0, 0, 0, [])), (9, (.lastore, 10, false, false, 0, 0, 0, 0, 0, 0, [])), (10, (.goto 7, 13, false, false, 17, 0, 0, 0, 0, 0, [])), (15, (.iconst 1, 16, false, false, 0, 0, 0, 0, 1, 0, [])), (16, (.ireturn, 17, false, false, 0, 0, 0, 0, 0, 0, [])), (17, (.iconst 0, 18, false, false, 0, 0, 0, 0, 0, 0, [])), (18, (.ireturn, 19, false, false, 0, 0, 0, 0, 0, 0, []))])], 1, [("java/lang/IndexOutOfBoundsException", 15, 4)])
set_option maxRecDepth 100000 in
theorem v_L_sell : VE MYT dflT E_L_sell := ⟨⟨⟨⟨⟨dL_sell_0, rfl⟩, rfl⟩, ⟨⟨dL_sell_1, rfl⟩, rfl⟩, ⟨⟨dL_sell_2, rfl⟩, rfl⟩, ⟨⟨dL_sell_3, rfl⟩, rfl⟩, ⟨⟨dL_sell_4, rfl⟩, rfl⟩, ⟨⟨dL_sell_5, rfl⟩, Or.inr ⟨by decide, ⟨_, my_314, sL_97⟩, fun _ E q k hq => hcL_sell E q k hq⟩⟩, ⟨⟨dL_sell_8, rfl⟩, trivial⟩, ⟨⟨dL_sell_9, rfl⟩, trivial⟩, ⟨⟨dL_sell_10, rfl⟩, rfl⟩, ⟨⟨dL_sell_15, rfl⟩, rfl⟩, ⟨⟨dL_sell_16, rfl⟩, Or.inl ⟨rfl, rfl⟩⟩, ⟨⟨dL_sell_17, rfl⟩, rfl⟩, ⟨⟨dL_sell_18, rfl⟩, Or.inl ⟨rfl, rfl⟩⟩, trivial⟩, trivial⟩, by decide, Or.inr (Or.inl ⟨rfl, by decide, by decide⟩)⟩
set_option maxRecDepth 100000 in
theorem g_L_sell_0 (S : sT) (call : cT) (n : Nat) (v0 : Value) (x1 : Int32) (x2 : Int32) (v3 : Value) (h : pH) : bd S call dflT E_L_sell (n + 1) 0 [some (v0), some (.int x1), some (.int x2), some (v3), none] [] h = (iA v3 (iA v0 (rC h v0 14 (cIx (thrH 1 5 [("java/lang/IndexOutOfBoundsException", 15, 4)] [some (v0), some (.int x1), some (.int x2), some (v3), none] (bd S call dflT E_L_sell n)) (call 314 [v0, .int x1, .int x2] h) (fun y2 h1 => sJ h1 v3 0 y2.toInt64 (fun h3 => some (.inl (some (.int 0)), h3))))))) := rfl
set_option maxRecDepth 100000 in
theorem g_L_sell_15 (S : sT) (call : cT) (n : Nat) (v0 : Value) (x1 : Int32) (x2 : Int32) (v3 : Value) (o4 : Option Value) (h : pH) : bd S call dflT E_L_sell (n + 1) 15 [some (v0), some (.int x1), some (.int x2), some (v3), o4] [] h = (some (.inl (some (.int 1)), h)) := rfl
theorem dL_wrong_0 : decode cL_wrong 0 = .ok (.aload_n 3, 1) := by decide +kernel
theorem dL_wrong_1 : decode cL_wrong 1 = .ok (.iconst 0, 1) := by decide +kernel
theorem dL_wrong_2 : decode cL_wrong 2 = .ok (.aload_n 0, 1) := by decide +kernel
theorem dL_wrong_3 : decode cL_wrong 3 = .ok (.iload_n 1, 1) := by decide +kernel
theorem dL_wrong_4 : decode cL_wrong 4 = .ok (.iload_n 2, 1) := by decide +kernel
theorem dL_wrong_5 : decode cL_wrong 5 = .ok (.invokevirtual 100, 3) := by decide +kernel
theorem dL_wrong_8 : decode cL_wrong 8 = .ok (.i2l, 1) := by decide +kernel
theorem dL_wrong_9 : decode cL_wrong 9 = .ok (.lastore, 1) := by decide +kernel
theorem dL_wrong_10 : decode cL_wrong 10 = .ok (.goto 7, 3) := by decide +kernel
theorem dL_wrong_15 : decode cL_wrong 15 = .ok (.iconst 1, 1) := by decide +kernel
theorem dL_wrong_16 : decode cL_wrong 16 = .ok (.ireturn, 1) := by decide +kernel
theorem dL_wrong_17 : decode cL_wrong 17 = .ok (.iconst 0, 1) := by decide +kernel
theorem dL_wrong_18 : decode cL_wrong 18 = .ok (.ireturn, 1) := by decide +kernel
theorem dL_wrong_13 : decode cL_wrong 13 = .ok (.astore 4, 2) := by decide +kernel
theorem hcL_wrong : ∀ E q k, clk [("java/util/NoSuchElementException", 15, 4)] E = some (q, k) → HC mL_wrong 5 E q k := by
  intro E q k h
  unfold clk at h
  split at h
  · rename_i he; subst he; cases h
    exact ⟨[], ⟨0, 10, 13, 60⟩, [], 2, rfl, by decide, (fun z hz => by cases hz), by decide, by decide, tw_in tk_6 (i := 57) rfl rfl, by decide +kernel, Or.inl ⟨dL_wrong_13, rfl⟩, rfl⟩
  cases h
noncomputable def E_L_wrong : mE := (mL_wrong, [(18, [(0, (.aload_n 3, 1, false, false, 3, 0, 0, 0, 0, 0, [])), (1, (.iconst 0, 2, false, false, 0, 0, 0, 0, 0, 0, [])), (2, (.aload_n 0, 3, false, false, 0, 0, 0, 0, 0, 0, [])), (3, (.iload_n 1, 4, false, false, 1, 0, 0, 0, 0, 0, [])), (4, (.iload_n 2, 5, false, false, 2, 0, 0, 0, 0, 0, [])), (5, (.invokevirtual 100, 8, false, false, 321, 2, 1, 14, 0, 0, [])), (8, (.i2l, 9, false, false, 0, 0, 0, 0, 0, 0, [])), (9, (.lastore, 10, false, false, 0, 0, 0, 0, 0, 0, [])), (10, (.goto 7, 13, false, false, 17, 0, 0, 0, 0, 0, [])), (15, (.iconst 1, 16, false, false, 0, 0, 0, 0, 1, 0, [])), (16, (.ireturn, 17, false, false, 0, 0, 0, 0, 0, 0, [])), (17, (.iconst 0, 18, false, false, 0, 0, 0, 0, 0, 0, [])), (18, (.ireturn, 19, false, false, 0, 0, 0, 0, 0, 0, []))])], 1, [("java/util/NoSuchElementException", 15, 4)])
set_option maxRecDepth 100000 in
theorem v_L_wrong : VE MYT dflT E_L_wrong := ⟨⟨⟨⟨⟨dL_wrong_0, rfl⟩, rfl⟩, ⟨⟨dL_wrong_1, rfl⟩, rfl⟩, ⟨⟨dL_wrong_2, rfl⟩, rfl⟩, ⟨⟨dL_wrong_3, rfl⟩, rfl⟩, ⟨⟨dL_wrong_4, rfl⟩, rfl⟩, ⟨⟨dL_wrong_5, rfl⟩, Or.inr ⟨by decide, ⟨_, my_321, sL_100⟩, fun _ E q k hq => hcL_wrong E q k hq⟩⟩, ⟨⟨dL_wrong_8, rfl⟩, trivial⟩, ⟨⟨dL_wrong_9, rfl⟩, trivial⟩, ⟨⟨dL_wrong_10, rfl⟩, rfl⟩, ⟨⟨dL_wrong_15, rfl⟩, rfl⟩, ⟨⟨dL_wrong_16, rfl⟩, Or.inl ⟨rfl, rfl⟩⟩, ⟨⟨dL_wrong_17, rfl⟩, rfl⟩, ⟨⟨dL_wrong_18, rfl⟩, Or.inl ⟨rfl, rfl⟩⟩, trivial⟩, trivial⟩, by decide, Or.inr (Or.inl ⟨rfl, by decide, by decide⟩)⟩
set_option maxRecDepth 100000 in
theorem g_L_wrong_0 (S : sT) (call : cT) (n : Nat) (v0 : Value) (x1 : Int32) (x2 : Int32) (v3 : Value) (h : pH) : bd S call dflT E_L_wrong (n + 1) 0 [some (v0), some (.int x1), some (.int x2), some (v3), none] [] h = (iA v3 (iA v0 (rC h v0 14 (cIx (thrH 1 5 [("java/util/NoSuchElementException", 15, 4)] [some (v0), some (.int x1), some (.int x2), some (v3), none] (bd S call dflT E_L_wrong n)) (call 321 [v0, .int x1, .int x2] h) (fun y2 h1 => sJ h1 v3 0 y2.toInt64 (fun h3 => some (.inl (some (.int 0)), h3))))))) := rfl
set_option maxRecDepth 100000 in
theorem g_L_wrong_15 (S : sT) (call : cT) (n : Nat) (v0 : Value) (x1 : Int32) (x2 : Int32) (v3 : Value) (o4 : Option Value) (h : pH) : bd S call dflT E_L_wrong (n + 1) 15 [some (v0), some (.int x1), some (.int x2), some (v3), o4] [] h = (some (.inl (some (.int 1)), h)) := rfl
theorem dL_job_0 : decode cL_job 0 = .ok (.aload 4, 2) := by decide +kernel
theorem dL_job_2 : decode cL_job 2 = .ok (.iconst 0, 1) := by decide +kernel
theorem dL_job_3 : decode cL_job 3 = .ok (.aload_n 0, 1) := by decide +kernel
theorem dL_job_4 : decode cL_job 4 = .ok (.iload_n 1, 1) := by decide +kernel
theorem dL_job_5 : decode cL_job 5 = .ok (.iload_n 2, 1) := by decide +kernel
theorem dL_job_6 : decode cL_job 6 = .ok (.iload_n 3, 1) := by decide +kernel
theorem dL_job_7 : decode cL_job 7 = .ok (.invokevirtual 103, 3) := by decide +kernel
theorem dL_job_10 : decode cL_job 10 = .ok (.i2l, 1) := by decide +kernel
theorem dL_job_11 : decode cL_job 11 = .ok (.lastore, 1) := by decide +kernel
theorem dL_job_12 : decode cL_job 12 = .ok (.goto 7, 3) := by decide +kernel
theorem dL_job_17 : decode cL_job 17 = .ok (.iconst 1, 1) := by decide +kernel
theorem dL_job_18 : decode cL_job 18 = .ok (.ireturn, 1) := by decide +kernel
theorem dL_job_19 : decode cL_job 19 = .ok (.iconst 0, 1) := by decide +kernel
theorem dL_job_20 : decode cL_job 20 = .ok (.ireturn, 1) := by decide +kernel
theorem dL_job_15 : decode cL_job 15 = .ok (.astore 5, 2) := by decide +kernel
theorem hcL_job : ∀ E q k, clk [("java/lang/IllegalArgumentException", 17, 5)] E = some (q, k) → HC mL_job 7 E q k := by
  intro E q k h
  unfold clk at h
  split at h
  · rename_i he; subst he; cases h
    exact ⟨[], ⟨0, 12, 15, 15⟩, [], 2, rfl, by decide, (fun z hz => by cases hz), by decide, by decide, tw_in tk_3 (i := 138) rfl rfl, by decide +kernel, Or.inl ⟨dL_job_15, rfl⟩, rfl⟩
  cases h
noncomputable def E_L_job : mE := (mL_job, [(20, [(0, (.aload 4, 2, false, false, 4, 0, 0, 0, 0, 0, [])), (2, (.iconst 0, 3, false, false, 0, 0, 0, 0, 0, 0, [])), (3, (.aload_n 0, 4, false, false, 0, 0, 0, 0, 0, 0, [])), (4, (.iload_n 1, 5, false, false, 1, 0, 0, 0, 0, 0, [])), (5, (.iload_n 2, 6, false, false, 2, 0, 0, 0, 0, 0, [])), (6, (.iload_n 3, 7, false, false, 3, 0, 0, 0, 0, 0, [])), (7, (.invokevirtual 103, 10, false, false, 325, 3, 1, 14, 0, 0, [])), (10, (.i2l, 11, false, false, 0, 0, 0, 0, 0, 0, [])), (11, (.lastore, 12, false, false, 0, 0, 0, 0, 0, 0, [])), (12, (.goto 7, 15, false, false, 19, 0, 0, 0, 0, 0, [])), (17, (.iconst 1, 18, false, false, 0, 0, 0, 0, 1, 0, [])), (18, (.ireturn, 19, false, false, 0, 0, 0, 0, 0, 0, [])), (19, (.iconst 0, 20, false, false, 0, 0, 0, 0, 0, 0, [])), (20, (.ireturn, 21, false, false, 0, 0, 0, 0, 0, 0, []))])], 1, [("java/lang/IllegalArgumentException", 17, 5)])
set_option maxRecDepth 100000 in
theorem v_L_job : VE MYT dflT E_L_job := ⟨⟨⟨⟨⟨dL_job_0, rfl⟩, rfl⟩, ⟨⟨dL_job_2, rfl⟩, rfl⟩, ⟨⟨dL_job_3, rfl⟩, rfl⟩, ⟨⟨dL_job_4, rfl⟩, rfl⟩, ⟨⟨dL_job_5, rfl⟩, rfl⟩, ⟨⟨dL_job_6, rfl⟩, rfl⟩, ⟨⟨dL_job_7, rfl⟩, Or.inr ⟨by decide, ⟨_, my_325, sL_103⟩, fun _ E q k hq => hcL_job E q k hq⟩⟩, ⟨⟨dL_job_10, rfl⟩, trivial⟩, ⟨⟨dL_job_11, rfl⟩, trivial⟩, ⟨⟨dL_job_12, rfl⟩, rfl⟩, ⟨⟨dL_job_17, rfl⟩, rfl⟩, ⟨⟨dL_job_18, rfl⟩, Or.inl ⟨rfl, rfl⟩⟩, ⟨⟨dL_job_19, rfl⟩, rfl⟩, ⟨⟨dL_job_20, rfl⟩, Or.inl ⟨rfl, rfl⟩⟩, trivial⟩, trivial⟩, by decide, Or.inr (Or.inl ⟨rfl, by decide, by decide⟩)⟩
set_option maxRecDepth 100000 in
theorem g_L_job_0 (S : sT) (call : cT) (n : Nat) (v0 : Value) (x1 : Int32) (x2 : Int32) (x3 : Int32) (v4 : Value) (h : pH) : bd S call dflT E_L_job (n + 1) 0 [some (v0), some (.int x1), some (.int x2), some (.int x3), some (v4), none] [] h = (iA v4 (iA v0 (rC h v0 14 (cIx (thrH 1 6 [("java/lang/IllegalArgumentException", 17, 5)] [some (v0), some (.int x1), some (.int x2), some (.int x3), some (v4), none] (bd S call dflT E_L_job n)) (call 325 [v0, .int x1, .int x2, .int x3] h) (fun y2 h1 => sJ h1 v4 0 y2.toInt64 (fun h3 => some (.inl (some (.int 0)), h3))))))) := rfl
set_option maxRecDepth 100000 in
theorem g_L_job_17 (S : sT) (call : cT) (n : Nat) (v0 : Value) (x1 : Int32) (x2 : Int32) (x3 : Int32) (v4 : Value) (o5 : Option Value) (h : pH) : bd S call dflT E_L_job (n + 1) 17 [some (v0), some (.int x1), some (.int x2), some (.int x3), some (v4), o5] [] h = (some (.inl (some (.int 1)), h)) := rfl
theorem dL_trouble_0 : decode cL_trouble 0 = .ok (.aload_n 3, 1) := by decide +kernel
theorem dL_trouble_1 : decode cL_trouble 1 = .ok (.iconst 0, 1) := by decide +kernel
theorem dL_trouble_2 : decode cL_trouble 2 = .ok (.aload_n 0, 1) := by decide +kernel
theorem dL_trouble_3 : decode cL_trouble 3 = .ok (.iload_n 1, 1) := by decide +kernel
theorem dL_trouble_4 : decode cL_trouble 4 = .ok (.iload_n 2, 1) := by decide +kernel
theorem dL_trouble_5 : decode cL_trouble 5 = .ok (.invokevirtual 106, 3) := by decide +kernel
theorem dL_trouble_8 : decode cL_trouble 8 = .ok (.i2l, 1) := by decide +kernel
theorem dL_trouble_9 : decode cL_trouble 9 = .ok (.lastore, 1) := by decide +kernel
theorem dL_trouble_10 : decode cL_trouble 10 = .ok (.goto 7, 3) := by decide +kernel
theorem dL_trouble_15 : decode cL_trouble 15 = .ok (.iconst 1, 1) := by decide +kernel
theorem dL_trouble_16 : decode cL_trouble 16 = .ok (.ireturn, 1) := by decide +kernel
theorem dL_trouble_17 : decode cL_trouble 17 = .ok (.iconst 0, 1) := by decide +kernel
theorem dL_trouble_18 : decode cL_trouble 18 = .ok (.ireturn, 1) := by decide +kernel
theorem dL_trouble_13 : decode cL_trouble 13 = .ok (.astore 4, 2) := by decide +kernel
theorem hcL_trouble : ∀ E q k, clk [("java/lang/IllegalArgumentException", 15, 4)] E = some (q, k) → HC mL_trouble 5 E q k := by
  intro E q k h
  unfold clk at h
  split at h
  · rename_i he; subst he; cases h
    exact ⟨[], ⟨0, 10, 13, 15⟩, [], 2, rfl, by decide, (fun z hz => by cases hz), by decide, by decide, tw_in tk_3 (i := 138) rfl rfl, by decide +kernel, Or.inl ⟨dL_trouble_13, rfl⟩, rfl⟩
  cases h
noncomputable def E_L_trouble : mE := (mL_trouble, [(18, [(0, (.aload_n 3, 1, false, false, 3, 0, 0, 0, 0, 0, [])), (1, (.iconst 0, 2, false, false, 0, 0, 0, 0, 0, 0, [])), (2, (.aload_n 0, 3, false, false, 0, 0, 0, 0, 0, 0, [])), (3, (.iload_n 1, 4, false, false, 1, 0, 0, 0, 0, 0, [])), (4, (.iload_n 2, 5, false, false, 2, 0, 0, 0, 0, 0, [])), (5, (.invokevirtual 106, 8, false, false, 329, 2, 1, 14, 0, 0, [])), (8, (.i2l, 9, false, false, 0, 0, 0, 0, 0, 0, [])), (9, (.lastore, 10, false, false, 0, 0, 0, 0, 0, 0, [])), (10, (.goto 7, 13, false, false, 17, 0, 0, 0, 0, 0, [])), (15, (.iconst 1, 16, false, false, 0, 0, 0, 0, 1, 0, [])), (16, (.ireturn, 17, false, false, 0, 0, 0, 0, 0, 0, [])), (17, (.iconst 0, 18, false, false, 0, 0, 0, 0, 0, 0, [])), (18, (.ireturn, 19, false, false, 0, 0, 0, 0, 0, 0, []))])], 1, [("java/lang/IllegalArgumentException", 15, 4)])
set_option maxRecDepth 100000 in
theorem v_L_trouble : VE MYT dflT E_L_trouble := ⟨⟨⟨⟨⟨dL_trouble_0, rfl⟩, rfl⟩, ⟨⟨dL_trouble_1, rfl⟩, rfl⟩, ⟨⟨dL_trouble_2, rfl⟩, rfl⟩, ⟨⟨dL_trouble_3, rfl⟩, rfl⟩, ⟨⟨dL_trouble_4, rfl⟩, rfl⟩, ⟨⟨dL_trouble_5, rfl⟩, Or.inr ⟨by decide, ⟨_, my_329, sL_106⟩, fun _ E q k hq => hcL_trouble E q k hq⟩⟩, ⟨⟨dL_trouble_8, rfl⟩, trivial⟩, ⟨⟨dL_trouble_9, rfl⟩, trivial⟩, ⟨⟨dL_trouble_10, rfl⟩, rfl⟩, ⟨⟨dL_trouble_15, rfl⟩, rfl⟩, ⟨⟨dL_trouble_16, rfl⟩, Or.inl ⟨rfl, rfl⟩⟩, ⟨⟨dL_trouble_17, rfl⟩, rfl⟩, ⟨⟨dL_trouble_18, rfl⟩, Or.inl ⟨rfl, rfl⟩⟩, trivial⟩, trivial⟩, by decide, Or.inr (Or.inl ⟨rfl, by decide, by decide⟩)⟩
set_option maxRecDepth 100000 in
theorem g_L_trouble_0 (S : sT) (call : cT) (n : Nat) (v0 : Value) (x1 : Int32) (x2 : Int32) (v3 : Value) (h : pH) : bd S call dflT E_L_trouble (n + 1) 0 [some (v0), some (.int x1), some (.int x2), some (v3), none] [] h = (iA v3 (iA v0 (rC h v0 14 (cIx (thrH 1 5 [("java/lang/IllegalArgumentException", 15, 4)] [some (v0), some (.int x1), some (.int x2), some (v3), none] (bd S call dflT E_L_trouble n)) (call 329 [v0, .int x1, .int x2] h) (fun y2 h1 => sJ h1 v3 0 y2.toInt64 (fun h3 => some (.inl (some (.int 0)), h3))))))) := rfl
set_option maxRecDepth 100000 in
theorem g_L_trouble_15 (S : sT) (call : cT) (n : Nat) (v0 : Value) (x1 : Int32) (x2 : Int32) (v3 : Value) (o4 : Option Value) (h : pH) : bd S call dflT E_L_trouble (n + 1) 15 [some (v0), some (.int x1), some (.int x2), some (v3), o4] [] h = (some (.inl (some (.int 1)), h)) := rfl
theorem dL_worth_0 : decode cL_worth 0 = .ok (.aload 4, 2) := by decide +kernel
theorem dL_worth_2 : decode cL_worth 2 = .ok (.iconst 0, 1) := by decide +kernel
theorem dL_worth_3 : decode cL_worth 3 = .ok (.aload_n 0, 1) := by decide +kernel
theorem dL_worth_4 : decode cL_worth 4 = .ok (.iload_n 1, 1) := by decide +kernel
theorem dL_worth_5 : decode cL_worth 5 = .ok (.iload_n 2, 1) := by decide +kernel
theorem dL_worth_6 : decode cL_worth 6 = .ok (.iload_n 3, 1) := by decide +kernel
theorem dL_worth_7 : decode cL_worth 7 = .ok (.invokevirtual 109, 3) := by decide +kernel
theorem dL_worth_10 : decode cL_worth 10 = .ok (.i2l, 1) := by decide +kernel
theorem dL_worth_11 : decode cL_worth 11 = .ok (.lastore, 1) := by decide +kernel
theorem dL_worth_12 : decode cL_worth 12 = .ok (.goto 7, 3) := by decide +kernel
theorem dL_worth_17 : decode cL_worth 17 = .ok (.iconst 1, 1) := by decide +kernel
theorem dL_worth_18 : decode cL_worth 18 = .ok (.ireturn, 1) := by decide +kernel
theorem dL_worth_19 : decode cL_worth 19 = .ok (.iconst 0, 1) := by decide +kernel
theorem dL_worth_20 : decode cL_worth 20 = .ok (.ireturn, 1) := by decide +kernel
theorem dL_worth_15 : decode cL_worth 15 = .ok (.astore 5, 2) := by decide +kernel
theorem hcL_worth : ∀ E q k, clk [("java/lang/IllegalArgumentException", 17, 5)] E = some (q, k) → HC mL_worth 7 E q k := by
  intro E q k h
  unfold clk at h
  split at h
  · rename_i he; subst he; cases h
    exact ⟨[], ⟨0, 12, 15, 15⟩, [], 2, rfl, by decide, (fun z hz => by cases hz), by decide, by decide, tw_in tk_3 (i := 138) rfl rfl, by decide +kernel, Or.inl ⟨dL_worth_15, rfl⟩, rfl⟩
  cases h
noncomputable def E_L_worth : mE := (mL_worth, [(20, [(0, (.aload 4, 2, false, false, 4, 0, 0, 0, 0, 0, [])), (2, (.iconst 0, 3, false, false, 0, 0, 0, 0, 0, 0, [])), (3, (.aload_n 0, 4, false, false, 0, 0, 0, 0, 0, 0, [])), (4, (.iload_n 1, 5, false, false, 1, 0, 0, 0, 0, 0, [])), (5, (.iload_n 2, 6, false, false, 2, 0, 0, 0, 0, 0, [])), (6, (.iload_n 3, 7, false, false, 3, 0, 0, 0, 0, 0, [])), (7, (.invokevirtual 109, 10, false, false, 335, 3, 1, 14, 0, 0, [])), (10, (.i2l, 11, false, false, 0, 0, 0, 0, 0, 0, [])), (11, (.lastore, 12, false, false, 0, 0, 0, 0, 0, 0, [])), (12, (.goto 7, 15, false, false, 19, 0, 0, 0, 0, 0, [])), (17, (.iconst 1, 18, false, false, 0, 0, 0, 0, 1, 0, [])), (18, (.ireturn, 19, false, false, 0, 0, 0, 0, 0, 0, [])), (19, (.iconst 0, 20, false, false, 0, 0, 0, 0, 0, 0, [])), (20, (.ireturn, 21, false, false, 0, 0, 0, 0, 0, 0, []))])], 1, [("java/lang/IllegalArgumentException", 17, 5)])
set_option maxRecDepth 100000 in
theorem v_L_worth : VE MYT dflT E_L_worth := ⟨⟨⟨⟨⟨dL_worth_0, rfl⟩, rfl⟩, ⟨⟨dL_worth_2, rfl⟩, rfl⟩, ⟨⟨dL_worth_3, rfl⟩, rfl⟩, ⟨⟨dL_worth_4, rfl⟩, rfl⟩, ⟨⟨dL_worth_5, rfl⟩, rfl⟩, ⟨⟨dL_worth_6, rfl⟩, rfl⟩, ⟨⟨dL_worth_7, rfl⟩, Or.inr ⟨by decide, ⟨_, my_335, sL_109⟩, fun _ E q k hq => hcL_worth E q k hq⟩⟩, ⟨⟨dL_worth_10, rfl⟩, trivial⟩, ⟨⟨dL_worth_11, rfl⟩, trivial⟩, ⟨⟨dL_worth_12, rfl⟩, rfl⟩, ⟨⟨dL_worth_17, rfl⟩, rfl⟩, ⟨⟨dL_worth_18, rfl⟩, Or.inl ⟨rfl, rfl⟩⟩, ⟨⟨dL_worth_19, rfl⟩, rfl⟩, ⟨⟨dL_worth_20, rfl⟩, Or.inl ⟨rfl, rfl⟩⟩, trivial⟩, trivial⟩, by decide, Or.inr (Or.inl ⟨rfl, by decide, by decide⟩)⟩
set_option maxRecDepth 100000 in
theorem g_L_worth_0 (S : sT) (call : cT) (n : Nat) (v0 : Value) (x1 : Int32) (x2 : Int32) (x3 : Int32) (v4 : Value) (h : pH) : bd S call dflT E_L_worth (n + 1) 0 [some (v0), some (.int x1), some (.int x2), some (.int x3), some (v4), none] [] h = (iA v4 (iA v0 (rC h v0 14 (cIx (thrH 1 6 [("java/lang/IllegalArgumentException", 17, 5)] [some (v0), some (.int x1), some (.int x2), some (.int x3), some (v4), none] (bd S call dflT E_L_worth n)) (call 335 [v0, .int x1, .int x2, .int x3] h) (fun y2 h1 => sJ h1 v4 0 y2.toInt64 (fun h3 => some (.inl (some (.int 0)), h3))))))) := rfl
set_option maxRecDepth 100000 in
theorem g_L_worth_17 (S : sT) (call : cT) (n : Nat) (v0 : Value) (x1 : Int32) (x2 : Int32) (x3 : Int32) (v4 : Value) (o5 : Option Value) (h : pH) : bd S call dflT E_L_worth (n + 1) 17 [some (v0), some (.int x1), some (.int x2), some (.int x3), some (v4), o5] [] h = (some (.inl (some (.int 1)), h)) := rfl
theorem dL_best_0 : decode cL_best 0 = .ok (.aload_n 3, 1) := by decide +kernel
theorem dL_best_1 : decode cL_best 1 = .ok (.iconst 0, 1) := by decide +kernel
theorem dL_best_2 : decode cL_best 2 = .ok (.aload_n 0, 1) := by decide +kernel
theorem dL_best_3 : decode cL_best 3 = .ok (.iload_n 1, 1) := by decide +kernel
theorem dL_best_4 : decode cL_best 4 = .ok (.iload_n 2, 1) := by decide +kernel
theorem dL_best_5 : decode cL_best 5 = .ok (.invokevirtual 112, 3) := by decide +kernel
theorem dL_best_8 : decode cL_best 8 = .ok (.i2l, 1) := by decide +kernel
theorem dL_best_9 : decode cL_best 9 = .ok (.lastore, 1) := by decide +kernel
theorem dL_best_10 : decode cL_best 10 = .ok (.goto 7, 3) := by decide +kernel
theorem dL_best_15 : decode cL_best 15 = .ok (.iconst 1, 1) := by decide +kernel
theorem dL_best_16 : decode cL_best 16 = .ok (.ireturn, 1) := by decide +kernel
theorem dL_best_17 : decode cL_best 17 = .ok (.iconst 0, 1) := by decide +kernel
theorem dL_best_18 : decode cL_best 18 = .ok (.ireturn, 1) := by decide +kernel
theorem dL_best_13 : decode cL_best 13 = .ok (.astore 4, 2) := by decide +kernel
theorem hcL_best : ∀ E q k, clk [("java/lang/IllegalArgumentException", 15, 4)] E = some (q, k) → HC mL_best 5 E q k := by
  intro E q k h
  unfold clk at h
  split at h
  · rename_i he; subst he; cases h
    exact ⟨[], ⟨0, 10, 13, 15⟩, [], 2, rfl, by decide, (fun z hz => by cases hz), by decide, by decide, tw_in tk_3 (i := 138) rfl rfl, by decide +kernel, Or.inl ⟨dL_best_13, rfl⟩, rfl⟩
  cases h
noncomputable def E_L_best : mE := (mL_best, [(18, [(0, (.aload_n 3, 1, false, false, 3, 0, 0, 0, 0, 0, [])), (1, (.iconst 0, 2, false, false, 0, 0, 0, 0, 0, 0, [])), (2, (.aload_n 0, 3, false, false, 0, 0, 0, 0, 0, 0, [])), (3, (.iload_n 1, 4, false, false, 1, 0, 0, 0, 0, 0, [])), (4, (.iload_n 2, 5, false, false, 2, 0, 0, 0, 0, 0, [])), (5, (.invokevirtual 112, 8, false, false, 343, 2, 1, 14, 0, 0, [])), (8, (.i2l, 9, false, false, 0, 0, 0, 0, 0, 0, [])), (9, (.lastore, 10, false, false, 0, 0, 0, 0, 0, 0, [])), (10, (.goto 7, 13, false, false, 17, 0, 0, 0, 0, 0, [])), (15, (.iconst 1, 16, false, false, 0, 0, 0, 0, 1, 0, [])), (16, (.ireturn, 17, false, false, 0, 0, 0, 0, 0, 0, [])), (17, (.iconst 0, 18, false, false, 0, 0, 0, 0, 0, 0, [])), (18, (.ireturn, 19, false, false, 0, 0, 0, 0, 0, 0, []))])], 1, [("java/lang/IllegalArgumentException", 15, 4)])
set_option maxRecDepth 100000 in
theorem v_L_best : VE MYT dflT E_L_best := ⟨⟨⟨⟨⟨dL_best_0, rfl⟩, rfl⟩, ⟨⟨dL_best_1, rfl⟩, rfl⟩, ⟨⟨dL_best_2, rfl⟩, rfl⟩, ⟨⟨dL_best_3, rfl⟩, rfl⟩, ⟨⟨dL_best_4, rfl⟩, rfl⟩, ⟨⟨dL_best_5, rfl⟩, Or.inr ⟨by decide, ⟨_, my_343, sL_112⟩, fun _ E q k hq => hcL_best E q k hq⟩⟩, ⟨⟨dL_best_8, rfl⟩, trivial⟩, ⟨⟨dL_best_9, rfl⟩, trivial⟩, ⟨⟨dL_best_10, rfl⟩, rfl⟩, ⟨⟨dL_best_15, rfl⟩, rfl⟩, ⟨⟨dL_best_16, rfl⟩, Or.inl ⟨rfl, rfl⟩⟩, ⟨⟨dL_best_17, rfl⟩, rfl⟩, ⟨⟨dL_best_18, rfl⟩, Or.inl ⟨rfl, rfl⟩⟩, trivial⟩, trivial⟩, by decide, Or.inr (Or.inl ⟨rfl, by decide, by decide⟩)⟩
set_option maxRecDepth 100000 in
theorem g_L_best_0 (S : sT) (call : cT) (n : Nat) (v0 : Value) (x1 : Int32) (x2 : Int32) (v3 : Value) (h : pH) : bd S call dflT E_L_best (n + 1) 0 [some (v0), some (.int x1), some (.int x2), some (v3), none] [] h = (iA v3 (iA v0 (rC h v0 14 (cIx (thrH 1 5 [("java/lang/IllegalArgumentException", 15, 4)] [some (v0), some (.int x1), some (.int x2), some (v3), none] (bd S call dflT E_L_best n)) (call 343 [v0, .int x1, .int x2] h) (fun y2 h1 => sJ h1 v3 0 y2.toInt64 (fun h3 => some (.inl (some (.int 0)), h3))))))) := rfl
set_option maxRecDepth 100000 in
theorem g_L_best_15 (S : sT) (call : cT) (n : Nat) (v0 : Value) (x1 : Int32) (x2 : Int32) (v3 : Value) (o4 : Option Value) (h : pH) : bd S call dflT E_L_best (n + 1) 15 [some (v0), some (.int x1), some (.int x2), some (v3), o4] [] h = (some (.inl (some (.int 1)), h)) := rfl
theorem dL_toSell_0 : decode cL_toSell 0 = .ok (.aload 4, 2) := by decide +kernel
theorem dL_toSell_2 : decode cL_toSell 2 = .ok (.iconst 0, 1) := by decide +kernel
theorem dL_toSell_3 : decode cL_toSell 3 = .ok (.aload_n 0, 1) := by decide +kernel
theorem dL_toSell_4 : decode cL_toSell 4 = .ok (.iload_n 1, 1) := by decide +kernel
theorem dL_toSell_5 : decode cL_toSell 5 = .ok (.iload_n 2, 1) := by decide +kernel
theorem dL_toSell_6 : decode cL_toSell 6 = .ok (.iload_n 3, 1) := by decide +kernel
theorem dL_toSell_7 : decode cL_toSell 7 = .ok (.invokevirtual 115, 3) := by decide +kernel
theorem dL_toSell_10 : decode cL_toSell 10 = .ok (.i2l, 1) := by decide +kernel
theorem dL_toSell_11 : decode cL_toSell 11 = .ok (.lastore, 1) := by decide +kernel
theorem dL_toSell_12 : decode cL_toSell 12 = .ok (.goto 11, 3) := by decide +kernel
theorem dL_toSell_17 : decode cL_toSell 17 = .ok (.iconst 1, 1) := by decide +kernel
theorem dL_toSell_18 : decode cL_toSell 18 = .ok (.ireturn, 1) := by decide +kernel
theorem dL_toSell_21 : decode cL_toSell 21 = .ok (.iconst 2, 1) := by decide +kernel
theorem dL_toSell_22 : decode cL_toSell 22 = .ok (.ireturn, 1) := by decide +kernel
theorem dL_toSell_23 : decode cL_toSell 23 = .ok (.iconst 0, 1) := by decide +kernel
theorem dL_toSell_24 : decode cL_toSell 24 = .ok (.ireturn, 1) := by decide +kernel
theorem dL_toSell_15 : decode cL_toSell 15 = .ok (.astore 5, 2) := by decide +kernel
theorem dL_toSell_19 : decode cL_toSell 19 = .ok (.astore 5, 2) := by decide +kernel
theorem hcL_toSell : ∀ E q k, clk [("java/lang/IndexOutOfBoundsException", 17, 5), ("java/lang/IllegalArgumentException", 21, 5)] E = some (q, k) → HC mL_toSell 7 E q k := by
  intro E q k h
  unfold clk at h
  split at h
  · rename_i he; subst he; cases h
    exact ⟨[], ⟨0, 12, 15, 13⟩, [⟨0, 12, 19, 15⟩], 2, rfl, by decide, (fun z hz => by cases hz), by decide, by decide, tw_in tk_3 (i := 60) rfl rfl, by decide +kernel, Or.inl ⟨dL_toSell_15, rfl⟩, rfl⟩
  unfold clk at h
  split at h
  · rename_i he; subst he; cases h
    exact ⟨[⟨0, 12, 15, 13⟩], ⟨0, 12, 19, 15⟩, [], 2, rfl, by decide, (by
      intro z hz
      simp only [List.mem_cons, List.not_mem_nil, or_false] at hz
      rcases hz with rfl
      · exact ⟨by decide, "java/lang/IndexOutOfBoundsException", by decide, tw_in tk_3 (i := 60) rfl rfl, by decide⟩), by decide, by decide, tw_in tk_3 (i := 138) rfl rfl, by decide +kernel, Or.inl ⟨dL_toSell_19, rfl⟩, rfl⟩
  cases h
noncomputable def E_L_toSell : mE := (mL_toSell, [(24, [(0, (.aload 4, 2, false, false, 4, 0, 0, 0, 0, 0, [])), (2, (.iconst 0, 3, false, false, 0, 0, 0, 0, 0, 0, [])), (3, (.aload_n 0, 4, false, false, 0, 0, 0, 0, 0, 0, [])), (4, (.iload_n 1, 5, false, false, 1, 0, 0, 0, 0, 0, [])), (5, (.iload_n 2, 6, false, false, 2, 0, 0, 0, 0, 0, [])), (6, (.iload_n 3, 7, false, false, 3, 0, 0, 0, 0, 0, [])), (7, (.invokevirtual 115, 10, false, false, 350, 3, 1, 14, 0, 0, [])), (10, (.i2l, 11, false, false, 0, 0, 0, 0, 0, 0, [])), (11, (.lastore, 12, false, false, 0, 0, 0, 0, 0, 0, [])), (12, (.goto 11, 15, false, false, 23, 0, 0, 0, 0, 0, [])), (17, (.iconst 1, 18, false, false, 0, 0, 0, 0, 1, 0, [])), (18, (.ireturn, 19, false, false, 0, 0, 0, 0, 0, 0, [])), (21, (.iconst 2, 22, false, false, 0, 0, 0, 0, 2, 0, [])), (22, (.ireturn, 23, false, false, 0, 0, 0, 0, 0, 0, [])), (23, (.iconst 0, 24, false, false, 0, 0, 0, 0, 0, 0, [])), (24, (.ireturn, 25, false, false, 0, 0, 0, 0, 0, 0, []))])], 1, [("java/lang/IndexOutOfBoundsException", 17, 5), ("java/lang/IllegalArgumentException", 21, 5)])
set_option maxRecDepth 100000 in
theorem v_L_toSell : VE MYT dflT E_L_toSell := ⟨⟨⟨⟨⟨dL_toSell_0, rfl⟩, rfl⟩, ⟨⟨dL_toSell_2, rfl⟩, rfl⟩, ⟨⟨dL_toSell_3, rfl⟩, rfl⟩, ⟨⟨dL_toSell_4, rfl⟩, rfl⟩, ⟨⟨dL_toSell_5, rfl⟩, rfl⟩, ⟨⟨dL_toSell_6, rfl⟩, rfl⟩, ⟨⟨dL_toSell_7, rfl⟩, Or.inr ⟨by decide, ⟨_, my_350, sL_115⟩, fun _ E q k hq => hcL_toSell E q k hq⟩⟩, ⟨⟨dL_toSell_10, rfl⟩, trivial⟩, ⟨⟨dL_toSell_11, rfl⟩, trivial⟩, ⟨⟨dL_toSell_12, rfl⟩, rfl⟩, ⟨⟨dL_toSell_17, rfl⟩, rfl⟩, ⟨⟨dL_toSell_18, rfl⟩, Or.inl ⟨rfl, rfl⟩⟩, ⟨⟨dL_toSell_21, rfl⟩, rfl⟩, ⟨⟨dL_toSell_22, rfl⟩, Or.inl ⟨rfl, rfl⟩⟩, ⟨⟨dL_toSell_23, rfl⟩, rfl⟩, ⟨⟨dL_toSell_24, rfl⟩, Or.inl ⟨rfl, rfl⟩⟩, trivial⟩, trivial⟩, by decide, Or.inr (Or.inl ⟨rfl, by decide, by decide⟩)⟩
set_option maxRecDepth 100000 in
theorem g_L_toSell_0 (S : sT) (call : cT) (n : Nat) (v0 : Value) (x1 : Int32) (x2 : Int32) (x3 : Int32) (v4 : Value) (h : pH) : bd S call dflT E_L_toSell (n + 1) 0 [some (v0), some (.int x1), some (.int x2), some (.int x3), some (v4), none] [] h = (iA v4 (iA v0 (rC h v0 14 (cIx (thrH 1 6 [("java/lang/IndexOutOfBoundsException", 17, 5), ("java/lang/IllegalArgumentException", 21, 5)] [some (v0), some (.int x1), some (.int x2), some (.int x3), some (v4), none] (bd S call dflT E_L_toSell n)) (call 350 [v0, .int x1, .int x2, .int x3] h) (fun y2 h1 => sJ h1 v4 0 y2.toInt64 (fun h3 => some (.inl (some (.int 0)), h3))))))) := rfl
set_option maxRecDepth 100000 in
theorem g_L_toSell_17 (S : sT) (call : cT) (n : Nat) (v0 : Value) (x1 : Int32) (x2 : Int32) (x3 : Int32) (v4 : Value) (o5 : Option Value) (h : pH) : bd S call dflT E_L_toSell (n + 1) 17 [some (v0), some (.int x1), some (.int x2), some (.int x3), some (v4), o5] [] h = (some (.inl (some (.int 1)), h)) := rfl
set_option maxRecDepth 100000 in
theorem g_L_toSell_21 (S : sT) (call : cT) (n : Nat) (v0 : Value) (x1 : Int32) (x2 : Int32) (x3 : Int32) (v4 : Value) (o5 : Option Value) (h : pH) : bd S call dflT E_L_toSell (n + 1) 21 [some (v0), some (.int x1), some (.int x2), some (.int x3), some (v4), o5] [] h = (some (.inl (some (.int 2)), h)) := rfl
theorem dL_row_0 : decode cL_row 0 = .ok (.aload_n 3, 1) := by decide +kernel
theorem dL_row_1 : decode cL_row 1 = .ok (.iconst 0, 1) := by decide +kernel
theorem dL_row_2 : decode cL_row 2 = .ok (.aload_n 0, 1) := by decide +kernel
theorem dL_row_3 : decode cL_row 3 = .ok (.iload_n 1, 1) := by decide +kernel
theorem dL_row_4 : decode cL_row 4 = .ok (.iload_n 2, 1) := by decide +kernel
theorem dL_row_5 : decode cL_row 5 = .ok (.invokevirtual 118, 3) := by decide +kernel
theorem dL_row_8 : decode cL_row 8 = .ok (.i2l, 1) := by decide +kernel
theorem dL_row_9 : decode cL_row 9 = .ok (.lastore, 1) := by decide +kernel
theorem dL_row_10 : decode cL_row 10 = .ok (.goto 11, 3) := by decide +kernel
theorem dL_row_15 : decode cL_row 15 = .ok (.iconst 1, 1) := by decide +kernel
theorem dL_row_16 : decode cL_row 16 = .ok (.ireturn, 1) := by decide +kernel
theorem dL_row_19 : decode cL_row 19 = .ok (.iconst 2, 1) := by decide +kernel
theorem dL_row_20 : decode cL_row 20 = .ok (.ireturn, 1) := by decide +kernel
theorem dL_row_21 : decode cL_row 21 = .ok (.iconst 0, 1) := by decide +kernel
theorem dL_row_22 : decode cL_row 22 = .ok (.ireturn, 1) := by decide +kernel
theorem dL_row_13 : decode cL_row 13 = .ok (.astore 4, 2) := by decide +kernel
theorem dL_row_17 : decode cL_row 17 = .ok (.astore 4, 2) := by decide +kernel
theorem hcL_row : ∀ E q k, clk [("java/lang/IndexOutOfBoundsException", 15, 4), ("java/util/NoSuchElementException", 19, 4)] E = some (q, k) → HC mL_row 5 E q k := by
  intro E q k h
  unfold clk at h
  split at h
  · rename_i he; subst he; cases h
    exact ⟨[], ⟨0, 10, 13, 13⟩, [⟨0, 10, 17, 60⟩], 2, rfl, by decide, (fun z hz => by cases hz), by decide, by decide, tw_in tk_3 (i := 60) rfl rfl, by decide +kernel, Or.inl ⟨dL_row_13, rfl⟩, rfl⟩
  unfold clk at h
  split at h
  · rename_i he; subst he; cases h
    exact ⟨[⟨0, 10, 13, 13⟩], ⟨0, 10, 17, 60⟩, [], 2, rfl, by decide, (by
      intro z hz
      simp only [List.mem_cons, List.not_mem_nil, or_false] at hz
      rcases hz with rfl
      · exact ⟨by decide, "java/lang/IndexOutOfBoundsException", by decide, tw_in tk_3 (i := 60) rfl rfl, by decide⟩), by decide, by decide, tw_in tk_6 (i := 57) rfl rfl, by decide +kernel, Or.inl ⟨dL_row_17, rfl⟩, rfl⟩
  cases h
noncomputable def E_L_row : mE := (mL_row, [(22, [(0, (.aload_n 3, 1, false, false, 3, 0, 0, 0, 0, 0, [])), (1, (.iconst 0, 2, false, false, 0, 0, 0, 0, 0, 0, [])), (2, (.aload_n 0, 3, false, false, 0, 0, 0, 0, 0, 0, [])), (3, (.iload_n 1, 4, false, false, 1, 0, 0, 0, 0, 0, [])), (4, (.iload_n 2, 5, false, false, 2, 0, 0, 0, 0, 0, [])), (5, (.invokevirtual 118, 8, false, false, 355, 2, 1, 14, 0, 0, [])), (8, (.i2l, 9, false, false, 0, 0, 0, 0, 0, 0, [])), (9, (.lastore, 10, false, false, 0, 0, 0, 0, 0, 0, [])), (10, (.goto 11, 13, false, false, 21, 0, 0, 0, 0, 0, [])), (15, (.iconst 1, 16, false, false, 0, 0, 0, 0, 1, 0, [])), (16, (.ireturn, 17, false, false, 0, 0, 0, 0, 0, 0, [])), (19, (.iconst 2, 20, false, false, 0, 0, 0, 0, 2, 0, [])), (20, (.ireturn, 21, false, false, 0, 0, 0, 0, 0, 0, [])), (21, (.iconst 0, 22, false, false, 0, 0, 0, 0, 0, 0, [])), (22, (.ireturn, 23, false, false, 0, 0, 0, 0, 0, 0, []))])], 1, [("java/lang/IndexOutOfBoundsException", 15, 4), ("java/util/NoSuchElementException", 19, 4)])
set_option maxRecDepth 100000 in
theorem v_L_row : VE MYT dflT E_L_row := ⟨⟨⟨⟨⟨dL_row_0, rfl⟩, rfl⟩, ⟨⟨dL_row_1, rfl⟩, rfl⟩, ⟨⟨dL_row_2, rfl⟩, rfl⟩, ⟨⟨dL_row_3, rfl⟩, rfl⟩, ⟨⟨dL_row_4, rfl⟩, rfl⟩, ⟨⟨dL_row_5, rfl⟩, Or.inr ⟨by decide, ⟨_, my_355, sL_118⟩, fun _ E q k hq => hcL_row E q k hq⟩⟩, ⟨⟨dL_row_8, rfl⟩, trivial⟩, ⟨⟨dL_row_9, rfl⟩, trivial⟩, ⟨⟨dL_row_10, rfl⟩, rfl⟩, ⟨⟨dL_row_15, rfl⟩, rfl⟩, ⟨⟨dL_row_16, rfl⟩, Or.inl ⟨rfl, rfl⟩⟩, ⟨⟨dL_row_19, rfl⟩, rfl⟩, ⟨⟨dL_row_20, rfl⟩, Or.inl ⟨rfl, rfl⟩⟩, ⟨⟨dL_row_21, rfl⟩, rfl⟩, ⟨⟨dL_row_22, rfl⟩, Or.inl ⟨rfl, rfl⟩⟩, trivial⟩, trivial⟩, by decide, Or.inr (Or.inl ⟨rfl, by decide, by decide⟩)⟩
set_option maxRecDepth 100000 in
theorem g_L_row_0 (S : sT) (call : cT) (n : Nat) (v0 : Value) (x1 : Int32) (x2 : Int32) (v3 : Value) (h : pH) : bd S call dflT E_L_row (n + 1) 0 [some (v0), some (.int x1), some (.int x2), some (v3), none] [] h = (iA v3 (iA v0 (rC h v0 14 (cIx (thrH 1 5 [("java/lang/IndexOutOfBoundsException", 15, 4), ("java/util/NoSuchElementException", 19, 4)] [some (v0), some (.int x1), some (.int x2), some (v3), none] (bd S call dflT E_L_row n)) (call 355 [v0, .int x1, .int x2] h) (fun y2 h1 => sJ h1 v3 0 y2.toInt64 (fun h3 => some (.inl (some (.int 0)), h3))))))) := rfl
set_option maxRecDepth 100000 in
theorem g_L_row_15 (S : sT) (call : cT) (n : Nat) (v0 : Value) (x1 : Int32) (x2 : Int32) (v3 : Value) (o4 : Option Value) (h : pH) : bd S call dflT E_L_row (n + 1) 15 [some (v0), some (.int x1), some (.int x2), some (v3), o4] [] h = (some (.inl (some (.int 1)), h)) := rfl
set_option maxRecDepth 100000 in
theorem g_L_row_19 (S : sT) (call : cT) (n : Nat) (v0 : Value) (x1 : Int32) (x2 : Int32) (v3 : Value) (o4 : Option Value) (h : pH) : bd S call dflT E_L_row (n + 1) 19 [some (v0), some (.int x1), some (.int x2), some (v3), o4] [] h = (some (.inl (some (.int 2)), h)) := rfl
theorem dL_tear_0 : decode cL_tear 0 = .ok (.aload 4, 2) := by decide +kernel
theorem dL_tear_2 : decode cL_tear 2 = .ok (.iconst 0, 1) := by decide +kernel
theorem dL_tear_3 : decode cL_tear 3 = .ok (.aload_n 0, 1) := by decide +kernel
theorem dL_tear_4 : decode cL_tear 4 = .ok (.iload_n 1, 1) := by decide +kernel
theorem dL_tear_5 : decode cL_tear 5 = .ok (.iload_n 2, 1) := by decide +kernel
theorem dL_tear_6 : decode cL_tear 6 = .ok (.iload_n 3, 1) := by decide +kernel
theorem dL_tear_7 : decode cL_tear 7 = .ok (.invokevirtual 121, 3) := by decide +kernel
theorem dL_tear_10 : decode cL_tear 10 = .ok (.i2l, 1) := by decide +kernel
theorem dL_tear_11 : decode cL_tear 11 = .ok (.lastore, 1) := by decide +kernel
theorem dL_tear_12 : decode cL_tear 12 = .ok (.goto 11, 3) := by decide +kernel
theorem dL_tear_17 : decode cL_tear 17 = .ok (.iconst 1, 1) := by decide +kernel
theorem dL_tear_18 : decode cL_tear 18 = .ok (.ireturn, 1) := by decide +kernel
theorem dL_tear_21 : decode cL_tear 21 = .ok (.iconst 2, 1) := by decide +kernel
theorem dL_tear_22 : decode cL_tear 22 = .ok (.ireturn, 1) := by decide +kernel
theorem dL_tear_23 : decode cL_tear 23 = .ok (.iconst 0, 1) := by decide +kernel
theorem dL_tear_24 : decode cL_tear 24 = .ok (.ireturn, 1) := by decide +kernel
theorem dL_tear_15 : decode cL_tear 15 = .ok (.astore 5, 2) := by decide +kernel
theorem dL_tear_19 : decode cL_tear 19 = .ok (.astore 5, 2) := by decide +kernel
theorem hcL_tear : ∀ E q k, clk [("java/lang/IndexOutOfBoundsException", 17, 5), ("java/util/NoSuchElementException", 21, 5)] E = some (q, k) → HC mL_tear 7 E q k := by
  intro E q k h
  unfold clk at h
  split at h
  · rename_i he; subst he; cases h
    exact ⟨[], ⟨0, 12, 15, 13⟩, [⟨0, 12, 19, 60⟩], 2, rfl, by decide, (fun z hz => by cases hz), by decide, by decide, tw_in tk_3 (i := 60) rfl rfl, by decide +kernel, Or.inl ⟨dL_tear_15, rfl⟩, rfl⟩
  unfold clk at h
  split at h
  · rename_i he; subst he; cases h
    exact ⟨[⟨0, 12, 15, 13⟩], ⟨0, 12, 19, 60⟩, [], 2, rfl, by decide, (by
      intro z hz
      simp only [List.mem_cons, List.not_mem_nil, or_false] at hz
      rcases hz with rfl
      · exact ⟨by decide, "java/lang/IndexOutOfBoundsException", by decide, tw_in tk_3 (i := 60) rfl rfl, by decide⟩), by decide, by decide, tw_in tk_6 (i := 57) rfl rfl, by decide +kernel, Or.inl ⟨dL_tear_19, rfl⟩, rfl⟩
  cases h
noncomputable def E_L_tear : mE := (mL_tear, [(24, [(0, (.aload 4, 2, false, false, 4, 0, 0, 0, 0, 0, [])), (2, (.iconst 0, 3, false, false, 0, 0, 0, 0, 0, 0, [])), (3, (.aload_n 0, 4, false, false, 0, 0, 0, 0, 0, 0, [])), (4, (.iload_n 1, 5, false, false, 1, 0, 0, 0, 0, 0, [])), (5, (.iload_n 2, 6, false, false, 2, 0, 0, 0, 0, 0, [])), (6, (.iload_n 3, 7, false, false, 3, 0, 0, 0, 0, 0, [])), (7, (.invokevirtual 121, 10, false, false, 359, 3, 1, 14, 0, 0, [])), (10, (.i2l, 11, false, false, 0, 0, 0, 0, 0, 0, [])), (11, (.lastore, 12, false, false, 0, 0, 0, 0, 0, 0, [])), (12, (.goto 11, 15, false, false, 23, 0, 0, 0, 0, 0, [])), (17, (.iconst 1, 18, false, false, 0, 0, 0, 0, 1, 0, [])), (18, (.ireturn, 19, false, false, 0, 0, 0, 0, 0, 0, [])), (21, (.iconst 2, 22, false, false, 0, 0, 0, 0, 2, 0, [])), (22, (.ireturn, 23, false, false, 0, 0, 0, 0, 0, 0, [])), (23, (.iconst 0, 24, false, false, 0, 0, 0, 0, 0, 0, [])), (24, (.ireturn, 25, false, false, 0, 0, 0, 0, 0, 0, []))])], 1, [("java/lang/IndexOutOfBoundsException", 17, 5), ("java/util/NoSuchElementException", 21, 5)])
set_option maxRecDepth 100000 in
theorem v_L_tear : VE MYT dflT E_L_tear := ⟨⟨⟨⟨⟨dL_tear_0, rfl⟩, rfl⟩, ⟨⟨dL_tear_2, rfl⟩, rfl⟩, ⟨⟨dL_tear_3, rfl⟩, rfl⟩, ⟨⟨dL_tear_4, rfl⟩, rfl⟩, ⟨⟨dL_tear_5, rfl⟩, rfl⟩, ⟨⟨dL_tear_6, rfl⟩, rfl⟩, ⟨⟨dL_tear_7, rfl⟩, Or.inr ⟨by decide, ⟨_, my_359, sL_121⟩, fun _ E q k hq => hcL_tear E q k hq⟩⟩, ⟨⟨dL_tear_10, rfl⟩, trivial⟩, ⟨⟨dL_tear_11, rfl⟩, trivial⟩, ⟨⟨dL_tear_12, rfl⟩, rfl⟩, ⟨⟨dL_tear_17, rfl⟩, rfl⟩, ⟨⟨dL_tear_18, rfl⟩, Or.inl ⟨rfl, rfl⟩⟩, ⟨⟨dL_tear_21, rfl⟩, rfl⟩, ⟨⟨dL_tear_22, rfl⟩, Or.inl ⟨rfl, rfl⟩⟩, ⟨⟨dL_tear_23, rfl⟩, rfl⟩, ⟨⟨dL_tear_24, rfl⟩, Or.inl ⟨rfl, rfl⟩⟩, trivial⟩, trivial⟩, by decide, Or.inr (Or.inl ⟨rfl, by decide, by decide⟩)⟩
set_option maxRecDepth 100000 in
theorem g_L_tear_0 (S : sT) (call : cT) (n : Nat) (v0 : Value) (x1 : Int32) (x2 : Int32) (x3 : Int32) (v4 : Value) (h : pH) : bd S call dflT E_L_tear (n + 1) 0 [some (v0), some (.int x1), some (.int x2), some (.int x3), some (v4), none] [] h = (iA v4 (iA v0 (rC h v0 14 (cIx (thrH 1 6 [("java/lang/IndexOutOfBoundsException", 17, 5), ("java/util/NoSuchElementException", 21, 5)] [some (v0), some (.int x1), some (.int x2), some (.int x3), some (v4), none] (bd S call dflT E_L_tear n)) (call 359 [v0, .int x1, .int x2, .int x3] h) (fun y2 h1 => sJ h1 v4 0 y2.toInt64 (fun h3 => some (.inl (some (.int 0)), h3))))))) := rfl
set_option maxRecDepth 100000 in
theorem g_L_tear_17 (S : sT) (call : cT) (n : Nat) (v0 : Value) (x1 : Int32) (x2 : Int32) (x3 : Int32) (v4 : Value) (o5 : Option Value) (h : pH) : bd S call dflT E_L_tear (n + 1) 17 [some (v0), some (.int x1), some (.int x2), some (.int x3), some (v4), o5] [] h = (some (.inl (some (.int 1)), h)) := rfl
set_option maxRecDepth 100000 in
theorem g_L_tear_21 (S : sT) (call : cT) (n : Nat) (v0 : Value) (x1 : Int32) (x2 : Int32) (x3 : Int32) (v4 : Value) (o5 : Option Value) (h : pH) : bd S call dflT E_L_tear (n + 1) 21 [some (v0), some (.int x1), some (.int x2), some (.int x3), some (v4), o5] [] h = (some (.inl (some (.int 2)), h)) := rfl
