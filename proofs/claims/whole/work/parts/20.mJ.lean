/-! by program: methods as data, that they are right, what their bodies do -/
theorem dJ0_coder_7d493_0 : decode cJ0_coder_7d493 0 = .ok (.getstatic 38, 3) := by decide +kernel
theorem dJ0_coder_7d493_3 : decode cJ0_coder_7d493 3 = .ok (.ifCond .eq 10, 3) := by decide +kernel
theorem dJ0_coder_7d493_6 : decode cJ0_coder_7d493 6 = .ok (.aload_n 0, 1) := by decide +kernel
theorem dJ0_coder_7d493_7 : decode cJ0_coder_7d493 7 = .ok (.getfield 15, 3) := by decide +kernel
theorem dJ0_coder_7d493_10 : decode cJ0_coder_7d493 10 = .ok (.goto 4, 3) := by decide +kernel
theorem dJ0_coder_7d493_13 : decode cJ0_coder_7d493 13 = .ok (.iconst 1, 1) := by decide +kernel
theorem dJ0_coder_7d493_14 : decode cJ0_coder_7d493 14 = .ok (.ireturn, 1) := by decide +kernel
noncomputable def E_J0_coder_7d493 : mE := (mJ0_coder_7d493, [(14, [(0, (.getstatic 38, 3, false, false, 0, 0, 1, 0, 0, 0, [])), (3, (.ifCond .eq 10, 6, false, false, 13, 0, 0, 0, 0, 0, [])), (6, (.aload_n 0, 7, false, false, 0, 0, 0, 0, 0, 0, [])), (7, (.getfield 15, 10, false, false, 0, 0, 2, 0, 0, 0, [])), (10, (.goto 4, 13, false, false, 14, 0, 0, 0, 0, 0, [])), (13, (.iconst 1, 14, false, false, 0, 0, 0, 0, 1, 0, [])), (14, (.ireturn, 15, false, false, 0, 0, 2, 0, 0, 0, []))])], 0, [])
set_option maxRecDepth 100000 in
theorem v_J0_coder_7d493 : VE MYT dflT E_J0_coder_7d493 := ⟨⟨⟨⟨⟨dJ0_coder_7d493_0, rfl⟩, Or.inr (Or.inl ⟨rfl, ffJ0_38⟩)⟩, ⟨⟨dJ0_coder_7d493_3, rfl⟩, rfl⟩, ⟨⟨dJ0_coder_7d493_6, rfl⟩, rfl⟩, ⟨⟨dJ0_coder_7d493_7, rfl⟩, Or.inr (Or.inl ⟨rfl, ffJ0_15⟩)⟩, ⟨⟨dJ0_coder_7d493_10, rfl⟩, rfl⟩, ⟨⟨dJ0_coder_7d493_13, rfl⟩, rfl⟩, ⟨⟨dJ0_coder_7d493_14, rfl⟩, Or.inr (Or.inr (Or.inl ⟨rfl, rfl⟩))⟩, trivial⟩, trivial⟩, by decide, Or.inl ⟨rfl, by decide, rfl⟩⟩
set_option maxRecDepth 100000 in
theorem g_J0_coder_7d493_0 (S : sT) (call : cT) (n : Nat) (v0 : Value) (h : pH) : bd S call dflT E_J0_coder_7d493 (n + 1) 0 [some (v0)] [] h = ((if (1 : Int32) = 0 then nR .byte 1 (some (.inl (some (.int 1)), h)) else iA v0 (sCod v0 (fun y1 => nR .byte y1 (some (.inl (some (.int y1)), h)))))) := rfl
theorem dJ0_length_8abf5_0 : decode cJ0_length_8abf5 0 = .ok (.aload_n 0, 1) := by decide +kernel
theorem dJ0_length_8abf5_1 : decode cJ0_length_8abf5 1 = .ok (.getfield 9, 3) := by decide +kernel
theorem dJ0_length_8abf5_4 : decode cJ0_length_8abf5 4 = .ok (.arraylength, 1) := by decide +kernel
theorem dJ0_length_8abf5_5 : decode cJ0_length_8abf5 5 = .ok (.aload_n 0, 1) := by decide +kernel
theorem dJ0_length_8abf5_6 : decode cJ0_length_8abf5 6 = .ok (.invokevirtual 335, 3) := by decide +kernel
theorem dJ0_length_8abf5_9 : decode cJ0_length_8abf5 9 = .ok (.ishr, 1) := by decide +kernel
theorem dJ0_length_8abf5_10 : decode cJ0_length_8abf5 10 = .ok (.ireturn, 1) := by decide +kernel
noncomputable def E_J0_length_8abf5 : mE := (mJ0_length_8abf5, [(10, [(0, (.aload_n 0, 1, false, false, 0, 0, 0, 0, 0, 0, [])), (1, (.getfield 9, 4, false, false, 0, 0, 3, 0, 0, 0, [])), (4, (.arraylength, 5, false, false, 0, 0, 1, 0, 0, 0, [])), (5, (.aload_n 0, 6, false, false, 0, 0, 0, 0, 0, 0, [])), (6, (.invokevirtual 335, 9, false, false, 57, 0, 9, 0, 0, 0, [])), (9, (.ishr, 10, false, false, 0, 0, 0, 0, 0, 0, [])), (10, (.ireturn, 11, false, false, 0, 0, 0, 0, 0, 0, []))])], 0, [])
set_option maxRecDepth 100000 in
theorem v_J0_length_8abf5 : VE MYT dflT E_J0_length_8abf5 := ⟨⟨⟨⟨⟨dJ0_length_8abf5_0, rfl⟩, rfl⟩, ⟨⟨dJ0_length_8abf5_1, rfl⟩, Or.inr (Or.inr ⟨rfl, ffJ0_9⟩)⟩, ⟨⟨dJ0_length_8abf5_4, rfl⟩, trivial⟩, ⟨⟨dJ0_length_8abf5_5, rfl⟩, rfl⟩, ⟨⟨dJ0_length_8abf5_6, rfl⟩, Or.inl ⟨rfl, _, my_57, sJ0_335⟩⟩, ⟨⟨dJ0_length_8abf5_9, rfl⟩, trivial⟩, ⟨⟨dJ0_length_8abf5_10, rfl⟩, Or.inl ⟨rfl, rfl⟩⟩, trivial⟩, trivial⟩, by decide, Or.inl ⟨rfl, by decide, rfl⟩⟩
set_option maxRecDepth 100000 in
theorem g_J0_length_8abf5_0 (S : sT) (call : cT) (n : Nat) (v0 : Value) (h : pH) : bd S call dflT E_J0_length_8abf5 (n + 1) 0 [some (v0)] [] h = (iA v0 (sVal v0 (fun w1 => sLen w1 (fun y2 => iA v0 (rS0 v0 (cIx tN (call 57 [v0] h) (fun y4 h3 => some (.inl (some (.int (y2 >>> (y4 &&& 31)))), h3)))))))) := rfl
theorem dJ0_isLatin1_aae02_0 : decode cJ0_isLatin1_aae02 0 = .ok (.getstatic 38, 3) := by decide +kernel
theorem dJ0_isLatin1_aae02_3 : decode cJ0_isLatin1_aae02 3 = .ok (.ifCond .eq 14, 3) := by decide +kernel
theorem dJ0_isLatin1_aae02_6 : decode cJ0_isLatin1_aae02 6 = .ok (.aload_n 0, 1) := by decide +kernel
theorem dJ0_isLatin1_aae02_7 : decode cJ0_isLatin1_aae02 7 = .ok (.getfield 15, 3) := by decide +kernel
theorem dJ0_isLatin1_aae02_10 : decode cJ0_isLatin1_aae02 10 = .ok (.ifCond .ne 7, 3) := by decide +kernel
theorem dJ0_isLatin1_aae02_13 : decode cJ0_isLatin1_aae02 13 = .ok (.iconst 1, 1) := by decide +kernel
theorem dJ0_isLatin1_aae02_14 : decode cJ0_isLatin1_aae02 14 = .ok (.goto 4, 3) := by decide +kernel
theorem dJ0_isLatin1_aae02_17 : decode cJ0_isLatin1_aae02 17 = .ok (.iconst 0, 1) := by decide +kernel
theorem dJ0_isLatin1_aae02_18 : decode cJ0_isLatin1_aae02 18 = .ok (.ireturn, 1) := by decide +kernel
noncomputable def E_J0_isLatin1_aae02 : mE := (mJ0_isLatin1_aae02, [(18, [(0, (.getstatic 38, 3, false, false, 0, 0, 1, 0, 0, 0, [])), (3, (.ifCond .eq 14, 6, false, false, 17, 0, 0, 0, 0, 0, [])), (6, (.aload_n 0, 7, false, false, 0, 0, 0, 0, 0, 0, [])), (7, (.getfield 15, 10, false, false, 0, 0, 2, 0, 0, 0, [])), (10, (.ifCond .ne 7, 13, false, false, 17, 0, 0, 0, 0, 0, [])), (13, (.iconst 1, 14, false, false, 0, 0, 0, 0, 1, 0, [])), (14, (.goto 4, 17, false, false, 18, 0, 0, 0, 0, 0, [])), (17, (.iconst 0, 18, false, false, 0, 0, 0, 0, 0, 0, [])), (18, (.ireturn, 19, false, false, 0, 0, 1, 0, 0, 0, []))])], 0, [])
set_option maxRecDepth 100000 in
theorem v_J0_isLatin1_aae02 : VE MYT dflT E_J0_isLatin1_aae02 := ⟨⟨⟨⟨⟨dJ0_isLatin1_aae02_0, rfl⟩, Or.inr (Or.inl ⟨rfl, ffJ0_38⟩)⟩, ⟨⟨dJ0_isLatin1_aae02_3, rfl⟩, rfl⟩, ⟨⟨dJ0_isLatin1_aae02_6, rfl⟩, rfl⟩, ⟨⟨dJ0_isLatin1_aae02_7, rfl⟩, Or.inr (Or.inl ⟨rfl, ffJ0_15⟩)⟩, ⟨⟨dJ0_isLatin1_aae02_10, rfl⟩, rfl⟩, ⟨⟨dJ0_isLatin1_aae02_13, rfl⟩, rfl⟩, ⟨⟨dJ0_isLatin1_aae02_14, rfl⟩, rfl⟩, ⟨⟨dJ0_isLatin1_aae02_17, rfl⟩, rfl⟩, ⟨⟨dJ0_isLatin1_aae02_18, rfl⟩, Or.inr (Or.inl ⟨rfl, rfl⟩)⟩, trivial⟩, trivial⟩, by decide, Or.inl ⟨rfl, by decide, rfl⟩⟩
set_option maxRecDepth 100000 in
theorem g_J0_isLatin1_aae02_0 (S : sT) (call : cT) (n : Nat) (v0 : Value) (h : pH) : bd S call dflT E_J0_isLatin1_aae02 (n + 1) 0 [some (v0)] [] h = ((if (1 : Int32) = 0 then zR 0 (some (.inl (some (.int 0)), h)) else iA v0 (sCod v0 (fun y1 => (if y1 = 0 then zR 1 (some (.inl (some (.int 1)), h)) else zR 0 (some (.inl (some (.int 0)), h))))))) := rfl
theorem dJ0_checkIndex_df160_0 : decode cJ0_checkIndex_df160 0 = .ok (.iload_n 0, 1) := by decide +kernel
theorem dJ0_checkIndex_df160_1 : decode cJ0_checkIndex_df160 1 = .ok (.iload_n 1, 1) := by decide +kernel
theorem dJ0_checkIndex_df160_2 : decode cJ0_checkIndex_df160 2 = .ok (.getstatic 1053, 3) := by decide +kernel
theorem dJ0_checkIndex_df160_5 : decode cJ0_checkIndex_df160 5 = .ok (.invokestatic 1059, 3) := by decide +kernel
theorem dJ0_checkIndex_df160_8 : decode cJ0_checkIndex_df160 8 = .ok (.pop, 1) := by decide +kernel
theorem dJ0_checkIndex_df160_9 : decode cJ0_checkIndex_df160 9 = .ok (.return_, 1) := by decide +kernel
noncomputable def E_J0_checkIndex_df160 : mE := (mJ0_checkIndex_df160, [(9, [(0, (.iload_n 0, 1, false, false, 0, 0, 0, 0, 0, 0, [])), (1, (.iload_n 1, 2, false, false, 1, 0, 0, 0, 0, 0, [])), (2, (.getstatic 1053, 5, false, false, 9, 0, 2, 0, 0, 0, [])), (9, (.return_, 10, false, false, 0, 0, 0, 0, 0, 0, []))])], 0, [])
set_option maxRecDepth 100000 in
theorem v_J0_checkIndex_df160 : VE MYT dflT E_J0_checkIndex_df160 := ⟨⟨⟨⟨⟨dJ0_checkIndex_df160_0, rfl⟩, rfl⟩, ⟨⟨dJ0_checkIndex_df160_1, rfl⟩, rfl⟩, ⟨⟨dJ0_checkIndex_df160_2, rfl⟩, Or.inr (Or.inr ⟨rfl, rfl, ffJ0_1053, _, _, dJ0_checkIndex_df160_5, dJ0_checkIndex_df160_8, sJ0_1059, ckP⟩)⟩, ⟨⟨dJ0_checkIndex_df160_9, rfl⟩, rfl⟩, trivial⟩, trivial⟩, by decide, Or.inl ⟨rfl, by decide, rfl⟩⟩
set_option maxRecDepth 100000 in
theorem g_J0_checkIndex_df160_0 (S : sT) (call : cT) (n : Nat) (x0 : Int32) (x1 : Int32) (h : pH) : bd S call dflT E_J0_checkIndex_df160 (n + 1) 0 [some (.int x0), some (.int x1)] [] h = (ckI x0 x1 (some (.inl none, h))) := rfl
theorem dJ1_charAt_3b067_0 : decode cJ1_charAt_3b067 0 = .ok (.iload_n 1, 1) := by decide +kernel
theorem dJ1_charAt_3b067_1 : decode cJ1_charAt_3b067 1 = .ok (.aload_n 0, 1) := by decide +kernel
theorem dJ1_charAt_3b067_2 : decode cJ1_charAt_3b067 2 = .ok (.arraylength, 1) := by decide +kernel
theorem dJ1_charAt_3b067_3 : decode cJ1_charAt_3b067 3 = .ok (.invokestatic 9, 3) := by decide +kernel
theorem dJ1_charAt_3b067_6 : decode cJ1_charAt_3b067 6 = .ok (.aload_n 0, 1) := by decide +kernel
theorem dJ1_charAt_3b067_7 : decode cJ1_charAt_3b067 7 = .ok (.iload_n 1, 1) := by decide +kernel
theorem dJ1_charAt_3b067_8 : decode cJ1_charAt_3b067 8 = .ok (.baload, 1) := by decide +kernel
theorem dJ1_charAt_3b067_9 : decode cJ1_charAt_3b067 9 = .ok (.sipush 255, 3) := by decide +kernel
theorem dJ1_charAt_3b067_12 : decode cJ1_charAt_3b067 12 = .ok (.iand, 1) := by decide +kernel
theorem dJ1_charAt_3b067_13 : decode cJ1_charAt_3b067 13 = .ok (.i2c, 1) := by decide +kernel
theorem dJ1_charAt_3b067_14 : decode cJ1_charAt_3b067 14 = .ok (.ireturn, 1) := by decide +kernel
noncomputable def E_J1_charAt_3b067 : mE := (mJ1_charAt_3b067, [(14, [(0, (.iload_n 1, 1, false, false, 1, 0, 0, 0, 0, 0, [])), (1, (.aload_n 0, 2, false, false, 0, 0, 0, 0, 0, 0, [])), (2, (.arraylength, 3, false, false, 0, 0, 1, 0, 0, 0, [])), (3, (.invokestatic 9, 6, false, false, 60, 2, 0, 0, 0, 0, [])), (6, (.aload_n 0, 7, false, false, 0, 0, 0, 0, 0, 0, [])), (7, (.iload_n 1, 8, false, false, 1, 0, 0, 0, 0, 0, [])), (8, (.baload, 9, false, false, 0, 0, 2, 0, 0, 0, [])), (9, (.sipush 255, 12, false, false, 0, 0, 0, 0, 255, 0, [])), (12, (.iand, 13, false, false, 0, 0, 0, 0, 0, 0, [])), (13, (.i2c, 14, false, false, 0, 0, 0, 0, 0, 0, [])), (14, (.ireturn, 15, false, false, 0, 0, 3, 0, 0, 0, []))])], 0, [])
set_option maxRecDepth 100000 in
theorem v_J1_charAt_3b067 : VE MYT dflT E_J1_charAt_3b067 := ⟨⟨⟨⟨⟨dJ1_charAt_3b067_0, rfl⟩, rfl⟩, ⟨⟨dJ1_charAt_3b067_1, rfl⟩, rfl⟩, ⟨⟨dJ1_charAt_3b067_2, rfl⟩, trivial⟩, ⟨⟨dJ1_charAt_3b067_3, rfl⟩, Or.inl ⟨rfl, _, my_60, sJ1_9⟩⟩, ⟨⟨dJ1_charAt_3b067_6, rfl⟩, rfl⟩, ⟨⟨dJ1_charAt_3b067_7, rfl⟩, rfl⟩, ⟨⟨dJ1_charAt_3b067_8, rfl⟩, trivial⟩, ⟨⟨dJ1_charAt_3b067_9, rfl⟩, rfl⟩, ⟨⟨dJ1_charAt_3b067_12, rfl⟩, trivial⟩, ⟨⟨dJ1_charAt_3b067_13, rfl⟩, trivial⟩, ⟨⟨dJ1_charAt_3b067_14, rfl⟩, Or.inr (Or.inr (Or.inr ⟨rfl, rfl⟩))⟩, trivial⟩, trivial⟩, by decide, Or.inl ⟨rfl, by decide, rfl⟩⟩
set_option maxRecDepth 100000 in
theorem g_J1_charAt_3b067_0 (S : sT) (call : cT) (n : Nat) (v0 : Value) (x1 : Int32) (h : pH) : bd S call dflT E_J1_charAt_3b067 (n + 1) 0 [some (v0), some (.int x1)] [] h = (iA v0 (sLen v0 (fun y1 => cU (call 60 [.int x1, .int y1] h) (fun h2 => iA v0 (sByt v0 x1 (fun y3 => nR .char ((y3 &&& 255).toUInt32 % 65536).toInt32 (some (.inl (some (.int ((y3 &&& 255).toUInt32 % 65536).toInt32)), h2)))))))) := rfl
theorem dJ0_charAt_5068e_0 : decode cJ0_charAt_5068e 0 = .ok (.aload_n 0, 1) := by decide +kernel
theorem dJ0_charAt_5068e_1 : decode cJ0_charAt_5068e 1 = .ok (.invokevirtual 492, 3) := by decide +kernel
theorem dJ0_charAt_5068e_4 : decode cJ0_charAt_5068e 4 = .ok (.ifCond .eq 12, 3) := by decide +kernel
theorem dJ0_charAt_5068e_7 : decode cJ0_charAt_5068e 7 = .ok (.aload_n 0, 1) := by decide +kernel
theorem dJ0_charAt_5068e_8 : decode cJ0_charAt_5068e 8 = .ok (.getfield 9, 3) := by decide +kernel
theorem dJ0_charAt_5068e_11 : decode cJ0_charAt_5068e 11 = .ok (.iload_n 1, 1) := by decide +kernel
theorem dJ0_charAt_5068e_12 : decode cJ0_charAt_5068e 12 = .ok (.invokestatic 495, 3) := by decide +kernel
theorem dJ0_charAt_5068e_15 : decode cJ0_charAt_5068e 15 = .ok (.ireturn, 1) := by decide +kernel
theorem dJ0_charAt_5068e_16 : decode cJ0_charAt_5068e 16 = .ok (.aload_n 0, 1) := by decide +kernel
theorem dJ0_charAt_5068e_17 : decode cJ0_charAt_5068e 17 = .ok (.getfield 9, 3) := by decide +kernel
theorem dJ0_charAt_5068e_20 : decode cJ0_charAt_5068e 20 = .ok (.iload_n 1, 1) := by decide +kernel
theorem dJ0_charAt_5068e_21 : decode cJ0_charAt_5068e 21 = .ok (.invokestatic 498, 3) := by decide +kernel
noncomputable def E_J0_charAt_5068e : mE := (mJ0_charAt_5068e, [(20, [(0, (.aload_n 0, 1, false, false, 0, 0, 0, 0, 0, 0, [])), (1, (.invokevirtual 492, 4, false, false, 59, 0, 9, 0, 0, 0, [])), (4, (.ifCond .eq 12, 7, false, false, 16, 0, 0, 0, 0, 0, [])), (7, (.aload_n 0, 8, false, false, 0, 0, 0, 0, 0, 0, [])), (8, (.getfield 9, 11, false, false, 0, 0, 3, 0, 0, 0, [])), (11, (.iload_n 1, 12, false, false, 1, 0, 0, 0, 0, 0, [])), (12, (.invokestatic 495, 15, false, false, 61, 2, 1, 0, 0, 0, [])), (15, (.ireturn, 16, false, false, 0, 0, 3, 0, 0, 0, [])), (16, (.aload_n 0, 17, false, false, 0, 0, 0, 0, 0, 0, [])), (17, (.getfield 9, 20, false, false, 0, 0, 3, 0, 0, 0, [])), (20, (.iload_n 1, 21, false, false, 1, 0, 0, 0, 0, 0, []))])], 0, [])
set_option maxRecDepth 100000 in
theorem v_J0_charAt_5068e : VE MYT dflT E_J0_charAt_5068e := ⟨⟨⟨⟨⟨dJ0_charAt_5068e_0, rfl⟩, rfl⟩, ⟨⟨dJ0_charAt_5068e_1, rfl⟩, Or.inl ⟨rfl, _, my_59, sJ0_492⟩⟩, ⟨⟨dJ0_charAt_5068e_4, rfl⟩, rfl⟩, ⟨⟨dJ0_charAt_5068e_7, rfl⟩, rfl⟩, ⟨⟨dJ0_charAt_5068e_8, rfl⟩, Or.inr (Or.inr ⟨rfl, ffJ0_9⟩)⟩, ⟨⟨dJ0_charAt_5068e_11, rfl⟩, rfl⟩, ⟨⟨dJ0_charAt_5068e_12, rfl⟩, Or.inl ⟨rfl, _, my_61, sJ0_495⟩⟩, ⟨⟨dJ0_charAt_5068e_15, rfl⟩, Or.inr (Or.inr (Or.inr ⟨rfl, rfl⟩))⟩, ⟨⟨dJ0_charAt_5068e_16, rfl⟩, rfl⟩, ⟨⟨dJ0_charAt_5068e_17, rfl⟩, Or.inr (Or.inr ⟨rfl, ffJ0_9⟩)⟩, ⟨⟨dJ0_charAt_5068e_20, rfl⟩, rfl⟩, trivial⟩, trivial⟩, by decide, Or.inl ⟨rfl, by decide, rfl⟩⟩
set_option maxRecDepth 100000 in
theorem g_J0_charAt_5068e_0 (S : sT) (call : cT) (n : Nat) (v0 : Value) (x1 : Int32) (h : pH) : bd S call dflT E_J0_charAt_5068e (n + 1) 0 [some (v0), some (.int x1)] [] h = (iA v0 (rS0 v0 (cIx tN (call 59 [v0] h) (fun y2 h1 => (if y2 = 0 then iA v0 (sVal v0 (fun w3 => none)) else iA v0 (sVal v0 (fun w4 => cI (call 61 [w4, .int x1] h1) (fun y6 h5 => nR .char y6 (some (.inl (some (.int y6)), h5)))))))))) := rfl
theorem dJ6_bitCount_0f7a4_0 : decode cJ6_bitCount_0f7a4 0 = .ok (.iload_n 0, 1) := by decide +kernel
theorem dJ6_bitCount_0f7a4_1 : decode cJ6_bitCount_0f7a4 1 = .ok (.iload_n 0, 1) := by decide +kernel
theorem dJ6_bitCount_0f7a4_2 : decode cJ6_bitCount_0f7a4 2 = .ok (.iconst 1, 1) := by decide +kernel
theorem dJ6_bitCount_0f7a4_3 : decode cJ6_bitCount_0f7a4 3 = .ok (.iushr, 1) := by decide +kernel
theorem dJ6_bitCount_0f7a4_4 : decode cJ6_bitCount_0f7a4 4 = .ok (.ldc_w 265, 3) := by decide +kernel
theorem dJ6_bitCount_0f7a4_7 : decode cJ6_bitCount_0f7a4 7 = .ok (.iand, 1) := by decide +kernel
theorem dJ6_bitCount_0f7a4_8 : decode cJ6_bitCount_0f7a4 8 = .ok (.isub, 1) := by decide +kernel
theorem dJ6_bitCount_0f7a4_9 : decode cJ6_bitCount_0f7a4 9 = .ok (.istore_n 0, 1) := by decide +kernel
theorem dJ6_bitCount_0f7a4_10 : decode cJ6_bitCount_0f7a4 10 = .ok (.iload_n 0, 1) := by decide +kernel
theorem dJ6_bitCount_0f7a4_11 : decode cJ6_bitCount_0f7a4 11 = .ok (.ldc_w 266, 3) := by decide +kernel
theorem dJ6_bitCount_0f7a4_14 : decode cJ6_bitCount_0f7a4 14 = .ok (.iand, 1) := by decide +kernel
theorem dJ6_bitCount_0f7a4_15 : decode cJ6_bitCount_0f7a4 15 = .ok (.iload_n 0, 1) := by decide +kernel
theorem dJ6_bitCount_0f7a4_16 : decode cJ6_bitCount_0f7a4 16 = .ok (.iconst 2, 1) := by decide +kernel
theorem dJ6_bitCount_0f7a4_17 : decode cJ6_bitCount_0f7a4 17 = .ok (.iushr, 1) := by decide +kernel
theorem dJ6_bitCount_0f7a4_18 : decode cJ6_bitCount_0f7a4 18 = .ok (.ldc_w 266, 3) := by decide +kernel
theorem dJ6_bitCount_0f7a4_21 : decode cJ6_bitCount_0f7a4 21 = .ok (.iand, 1) := by decide +kernel
theorem dJ6_bitCount_0f7a4_22 : decode cJ6_bitCount_0f7a4 22 = .ok (.iadd, 1) := by decide +kernel
theorem dJ6_bitCount_0f7a4_23 : decode cJ6_bitCount_0f7a4 23 = .ok (.istore_n 0, 1) := by decide +kernel
theorem dJ6_bitCount_0f7a4_24 : decode cJ6_bitCount_0f7a4 24 = .ok (.iload_n 0, 1) := by decide +kernel
theorem dJ6_bitCount_0f7a4_25 : decode cJ6_bitCount_0f7a4 25 = .ok (.iload_n 0, 1) := by decide +kernel
theorem dJ6_bitCount_0f7a4_26 : decode cJ6_bitCount_0f7a4 26 = .ok (.iconst 4, 1) := by decide +kernel
theorem dJ6_bitCount_0f7a4_27 : decode cJ6_bitCount_0f7a4 27 = .ok (.iushr, 1) := by decide +kernel
theorem dJ6_bitCount_0f7a4_28 : decode cJ6_bitCount_0f7a4 28 = .ok (.iadd, 1) := by decide +kernel
theorem dJ6_bitCount_0f7a4_29 : decode cJ6_bitCount_0f7a4 29 = .ok (.ldc_w 267, 3) := by decide +kernel
theorem dJ6_bitCount_0f7a4_32 : decode cJ6_bitCount_0f7a4 32 = .ok (.iand, 1) := by decide +kernel
theorem dJ6_bitCount_0f7a4_33 : decode cJ6_bitCount_0f7a4 33 = .ok (.istore_n 0, 1) := by decide +kernel
theorem dJ6_bitCount_0f7a4_34 : decode cJ6_bitCount_0f7a4 34 = .ok (.iload_n 0, 1) := by decide +kernel
theorem dJ6_bitCount_0f7a4_35 : decode cJ6_bitCount_0f7a4 35 = .ok (.iload_n 0, 1) := by decide +kernel
theorem dJ6_bitCount_0f7a4_36 : decode cJ6_bitCount_0f7a4 36 = .ok (.bipush 8, 2) := by decide +kernel
theorem dJ6_bitCount_0f7a4_38 : decode cJ6_bitCount_0f7a4 38 = .ok (.iushr, 1) := by decide +kernel
theorem dJ6_bitCount_0f7a4_39 : decode cJ6_bitCount_0f7a4 39 = .ok (.iadd, 1) := by decide +kernel
theorem dJ6_bitCount_0f7a4_40 : decode cJ6_bitCount_0f7a4 40 = .ok (.istore_n 0, 1) := by decide +kernel
theorem dJ6_bitCount_0f7a4_41 : decode cJ6_bitCount_0f7a4 41 = .ok (.iload_n 0, 1) := by decide +kernel
theorem dJ6_bitCount_0f7a4_42 : decode cJ6_bitCount_0f7a4 42 = .ok (.iload_n 0, 1) := by decide +kernel
theorem dJ6_bitCount_0f7a4_43 : decode cJ6_bitCount_0f7a4 43 = .ok (.bipush 16, 2) := by decide +kernel
theorem dJ6_bitCount_0f7a4_45 : decode cJ6_bitCount_0f7a4 45 = .ok (.iushr, 1) := by decide +kernel
theorem dJ6_bitCount_0f7a4_46 : decode cJ6_bitCount_0f7a4 46 = .ok (.iadd, 1) := by decide +kernel
theorem dJ6_bitCount_0f7a4_47 : decode cJ6_bitCount_0f7a4 47 = .ok (.istore_n 0, 1) := by decide +kernel
theorem dJ6_bitCount_0f7a4_48 : decode cJ6_bitCount_0f7a4 48 = .ok (.iload_n 0, 1) := by decide +kernel
theorem dJ6_bitCount_0f7a4_49 : decode cJ6_bitCount_0f7a4 49 = .ok (.bipush 63, 2) := by decide +kernel
theorem dJ6_bitCount_0f7a4_51 : decode cJ6_bitCount_0f7a4 51 = .ok (.iand, 1) := by decide +kernel
theorem dJ6_bitCount_0f7a4_52 : decode cJ6_bitCount_0f7a4 52 = .ok (.ireturn, 1) := by decide +kernel
noncomputable def E_J6_bitCount_0f7a4 : mE := (mJ6_bitCount_0f7a4, [(29, [(0, (.iload_n 0, 1, false, false, 0, 0, 0, 0, 0, 0, [])), (1, (.iload_n 0, 2, false, false, 0, 0, 0, 0, 0, 0, [])), (2, (.iconst 1, 3, false, false, 0, 0, 0, 0, 1, 0, [])), (3, (.iushr, 4, false, false, 0, 0, 0, 0, 0, 0, [])), (4, (.ldc_w 265, 7, false, false, 0, 0, 0, 0, 1431655765, 0, [])), (7, (.iand, 8, false, false, 0, 0, 0, 0, 0, 0, [])), (8, (.isub, 9, false, false, 0, 0, 0, 0, 0, 0, [])), (9, (.istore_n 0, 10, false, false, 0, 0, 0, 0, 0, 0, [])), (10, (.iload_n 0, 11, false, false, 0, 0, 0, 0, 0, 0, [])), (11, (.ldc_w 266, 14, false, false, 0, 0, 0, 0, 858993459, 0, [])), (14, (.iand, 15, false, false, 0, 0, 0, 0, 0, 0, [])), (15, (.iload_n 0, 16, false, false, 0, 0, 0, 0, 0, 0, [])), (16, (.iconst 2, 17, false, false, 0, 0, 0, 0, 2, 0, [])), (17, (.iushr, 18, false, false, 0, 0, 0, 0, 0, 0, [])), (18, (.ldc_w 266, 21, false, false, 0, 0, 0, 0, 858993459, 0, [])), (21, (.iand, 22, false, false, 0, 0, 0, 0, 0, 0, [])), (22, (.iadd, 23, false, false, 0, 0, 0, 0, 0, 0, [])), (23, (.istore_n 0, 24, false, false, 0, 0, 0, 0, 0, 0, [])), (24, (.iload_n 0, 25, false, false, 0, 0, 0, 0, 0, 0, [])), (25, (.iload_n 0, 26, false, false, 0, 0, 0, 0, 0, 0, [])), (26, (.iconst 4, 27, false, false, 0, 0, 0, 0, 4, 0, [])), (27, (.iushr, 28, false, false, 0, 0, 0, 0, 0, 0, [])), (28, (.iadd, 29, false, false, 0, 0, 0, 0, 0, 0, [])), (29, (.ldc_w 267, 32, false, false, 0, 0, 0, 0, 252645135, 0, []))]),
  (52, [(32, (.iand, 33, false, false, 0, 0, 0, 0, 0, 0, [])), (33, (.istore_n 0, 34, false, false, 0, 0, 0, 0, 0, 0, [])), (34, (.iload_n 0, 35, false, false, 0, 0, 0, 0, 0, 0, [])), (35, (.iload_n 0, 36, false, false, 0, 0, 0, 0, 0, 0, [])), (36, (.bipush 8, 38, false, false, 0, 0, 0, 0, 8, 0, [])), (38, (.iushr, 39, false, false, 0, 0, 0, 0, 0, 0, [])), (39, (.iadd, 40, false, false, 0, 0, 0, 0, 0, 0, [])), (40, (.istore_n 0, 41, false, false, 0, 0, 0, 0, 0, 0, [])), (41, (.iload_n 0, 42, false, false, 0, 0, 0, 0, 0, 0, [])), (42, (.iload_n 0, 43, false, false, 0, 0, 0, 0, 0, 0, [])), (43, (.bipush 16, 45, false, false, 0, 0, 0, 0, 16, 0, [])), (45, (.iushr, 46, false, false, 0, 0, 0, 0, 0, 0, [])), (46, (.iadd, 47, false, false, 0, 0, 0, 0, 0, 0, [])), (47, (.istore_n 0, 48, false, false, 0, 0, 0, 0, 0, 0, [])), (48, (.iload_n 0, 49, false, false, 0, 0, 0, 0, 0, 0, [])), (49, (.bipush 63, 51, false, false, 0, 0, 0, 0, 63, 0, [])), (51, (.iand, 52, false, false, 0, 0, 0, 0, 0, 0, [])), (52, (.ireturn, 53, false, false, 0, 0, 0, 0, 0, 0, []))])], 0, [])
set_option maxRecDepth 100000 in
theorem v_J6_bitCount_0f7a4 : VE MYT dflT E_J6_bitCount_0f7a4 := ⟨⟨⟨⟨⟨dJ6_bitCount_0f7a4_0, rfl⟩, rfl⟩, ⟨⟨dJ6_bitCount_0f7a4_1, rfl⟩, rfl⟩, ⟨⟨dJ6_bitCount_0f7a4_2, rfl⟩, rfl⟩, ⟨⟨dJ6_bitCount_0f7a4_3, rfl⟩, trivial⟩, ⟨⟨dJ6_bitCount_0f7a4_4, rfl⟩, Or.inl ⟨rfl, kJ6_265⟩⟩, ⟨⟨dJ6_bitCount_0f7a4_7, rfl⟩, trivial⟩, ⟨⟨dJ6_bitCount_0f7a4_8, rfl⟩, trivial⟩, ⟨⟨dJ6_bitCount_0f7a4_9, rfl⟩, rfl⟩, ⟨⟨dJ6_bitCount_0f7a4_10, rfl⟩, rfl⟩, ⟨⟨dJ6_bitCount_0f7a4_11, rfl⟩, Or.inl ⟨rfl, kJ6_266⟩⟩, ⟨⟨dJ6_bitCount_0f7a4_14, rfl⟩, trivial⟩, ⟨⟨dJ6_bitCount_0f7a4_15, rfl⟩, rfl⟩, ⟨⟨dJ6_bitCount_0f7a4_16, rfl⟩, rfl⟩, ⟨⟨dJ6_bitCount_0f7a4_17, rfl⟩, trivial⟩, ⟨⟨dJ6_bitCount_0f7a4_18, rfl⟩, Or.inl ⟨rfl, kJ6_266⟩⟩, ⟨⟨dJ6_bitCount_0f7a4_21, rfl⟩, trivial⟩, ⟨⟨dJ6_bitCount_0f7a4_22, rfl⟩, trivial⟩, ⟨⟨dJ6_bitCount_0f7a4_23, rfl⟩, rfl⟩, ⟨⟨dJ6_bitCount_0f7a4_24, rfl⟩, rfl⟩, ⟨⟨dJ6_bitCount_0f7a4_25, rfl⟩, rfl⟩, ⟨⟨dJ6_bitCount_0f7a4_26, rfl⟩, rfl⟩, ⟨⟨dJ6_bitCount_0f7a4_27, rfl⟩, trivial⟩, ⟨⟨dJ6_bitCount_0f7a4_28, rfl⟩, trivial⟩, ⟨⟨dJ6_bitCount_0f7a4_29, rfl⟩, Or.inl ⟨rfl, kJ6_267⟩⟩, trivial⟩,
  ⟨⟨⟨dJ6_bitCount_0f7a4_32, rfl⟩, trivial⟩, ⟨⟨dJ6_bitCount_0f7a4_33, rfl⟩, rfl⟩, ⟨⟨dJ6_bitCount_0f7a4_34, rfl⟩, rfl⟩, ⟨⟨dJ6_bitCount_0f7a4_35, rfl⟩, rfl⟩, ⟨⟨dJ6_bitCount_0f7a4_36, rfl⟩, rfl⟩, ⟨⟨dJ6_bitCount_0f7a4_38, rfl⟩, trivial⟩, ⟨⟨dJ6_bitCount_0f7a4_39, rfl⟩, trivial⟩, ⟨⟨dJ6_bitCount_0f7a4_40, rfl⟩, rfl⟩, ⟨⟨dJ6_bitCount_0f7a4_41, rfl⟩, rfl⟩, ⟨⟨dJ6_bitCount_0f7a4_42, rfl⟩, rfl⟩, ⟨⟨dJ6_bitCount_0f7a4_43, rfl⟩, rfl⟩, ⟨⟨dJ6_bitCount_0f7a4_45, rfl⟩, trivial⟩, ⟨⟨dJ6_bitCount_0f7a4_46, rfl⟩, trivial⟩, ⟨⟨dJ6_bitCount_0f7a4_47, rfl⟩, rfl⟩, ⟨⟨dJ6_bitCount_0f7a4_48, rfl⟩, rfl⟩, ⟨⟨dJ6_bitCount_0f7a4_49, rfl⟩, rfl⟩, ⟨⟨dJ6_bitCount_0f7a4_51, rfl⟩, trivial⟩, ⟨⟨dJ6_bitCount_0f7a4_52, rfl⟩, Or.inl ⟨rfl, rfl⟩⟩, trivial⟩, trivial⟩, by decide, Or.inl ⟨rfl, by decide, rfl⟩⟩
set_option maxRecDepth 100000 in
theorem g_J6_bitCount_0f7a4_0 (S : sT) (call : cT) (n : Nat) (x0 : Int32) (h : pH) : bd S call dflT E_J6_bitCount_0f7a4 (n + 1) 0 [some (.int x0)] [] h = (some (.inl (some (.int ((((((((x0 - (((x0.toUInt32 >>> ((1 : Int32).toUInt32 &&& Int32.toUInt32 31)).toInt32) &&& 1431655765)) &&& 858993459) + ((((x0 - (((x0.toUInt32 >>> ((1 : Int32).toUInt32 &&& Int32.toUInt32 31)).toInt32) &&& 1431655765)).toUInt32 >>> ((2 : Int32).toUInt32 &&& Int32.toUInt32 31)).toInt32) &&& 858993459)) + (((((x0 - (((x0.toUInt32 >>> ((1 : Int32).toUInt32 &&& Int32.toUInt32 31)).toInt32) &&& 1431655765)) &&& 858993459) + ((((x0 - (((x0.toUInt32 >>> ((1 : Int32).toUInt32 &&& Int32.toUInt32 31)).toInt32) &&& 1431655765)).toUInt32 >>> ((2 : Int32).toUInt32 &&& Int32.toUInt32 31)).toInt32) &&& 858993459)).toUInt32 >>> ((4 : Int32).toUInt32 &&& Int32.toUInt32 31)).toInt32)) &&& 252645135) + (((((((x0 - (((x0.toUInt32 >>> ((1 : Int32).toUInt32 &&& Int32.toUInt32 31)).toInt32) &&& 1431655765)) &&& 858993459) + ((((x0 - (((x0.toUInt32 >>> ((1 : Int32).toUInt32 &&& Int32.toUInt32 31)).toInt32) &&& 1431655765)).toUInt32 >>> ((2 : Int32).toUInt32 &&& Int32.toUInt32 31)).toInt32) &&& 858993459)) + (((((x0 - (((x0.toUInt32 >>> ((1 : Int32).toUInt32 &&& Int32.toUInt32 31)).toInt32) &&& 1431655765)) &&& 858993459) + ((((x0 - (((x0.toUInt32 >>> ((1 : Int32).toUInt32 &&& Int32.toUInt32 31)).toInt32) &&& 1431655765)).toUInt32 >>> ((2 : Int32).toUInt32 &&& Int32.toUInt32 31)).toInt32) &&& 858993459)).toUInt32 >>> ((4 : Int32).toUInt32 &&& Int32.toUInt32 31)).toInt32)) &&& 252645135).toUInt32 >>> ((8 : Int32).toUInt32 &&& Int32.toUInt32 31)).toInt32)) + ((((((((x0 - (((x0.toUInt32 >>> ((1 : Int32).toUInt32 &&& Int32.toUInt32 31)).toInt32) &&& 1431655765)) &&& 858993459) + ((((x0 - (((x0.toUInt32 >>> ((1 : Int32).toUInt32 &&& Int32.toUInt32 31)).toInt32) &&& 1431655765)).toUInt32 >>> ((2 : Int32).toUInt32 &&& Int32.toUInt32 31)).toInt32) &&& 858993459)) + (((((x0 - (((x0.toUInt32 >>> ((1 : Int32).toUInt32 &&& Int32.toUInt32 31)).toInt32) &&& 1431655765)) &&& 858993459) + ((((x0 - (((x0.toUInt32 >>> ((1 : Int32).toUInt32 &&& Int32.toUInt32 31)).toInt32) &&& 1431655765)).toUInt32 >>> ((2 : Int32).toUInt32 &&& Int32.toUInt32 31)).toInt32) &&& 858993459)).toUInt32 >>> ((4 : Int32).toUInt32 &&& Int32.toUInt32 31)).toInt32)) &&& 252645135) + (((((((x0 - (((x0.toUInt32 >>> ((1 : Int32).toUInt32 &&& Int32.toUInt32 31)).toInt32) &&& 1431655765)) &&& 858993459) + ((((x0 - (((x0.toUInt32 >>> ((1 : Int32).toUInt32 &&& Int32.toUInt32 31)).toInt32) &&& 1431655765)).toUInt32 >>> ((2 : Int32).toUInt32 &&& Int32.toUInt32 31)).toInt32) &&& 858993459)) + (((((x0 - (((x0.toUInt32 >>> ((1 : Int32).toUInt32 &&& Int32.toUInt32 31)).toInt32) &&& 1431655765)) &&& 858993459) + ((((x0 - (((x0.toUInt32 >>> ((1 : Int32).toUInt32 &&& Int32.toUInt32 31)).toInt32) &&& 1431655765)).toUInt32 >>> ((2 : Int32).toUInt32 &&& Int32.toUInt32 31)).toInt32) &&& 858993459)).toUInt32 >>> ((4 : Int32).toUInt32 &&& Int32.toUInt32 31)).toInt32)) &&& 252645135).toUInt32 >>> ((8 : Int32).toUInt32 &&& Int32.toUInt32 31)).toInt32)).toUInt32 >>> ((16 : Int32).toUInt32 &&& Int32.toUInt32 31)).toInt32)) &&& 63))), h)) := rfl
