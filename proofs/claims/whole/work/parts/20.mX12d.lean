/-! by program: methods as data, that they are right, what their bodies do -/
theorem dX12_partOf_0 : decode cX12_partOf 0 = .ok (.aload_n 0, 1) := by decide +kernel
theorem dX12_partOf_1 : decode cX12_partOf 1 = .ok (.aload_n 0, 1) := by decide +kernel
theorem dX12_partOf_2 : decode cX12_partOf 2 = .ok (.bipush 14, 2) := by decide +kernel
theorem dX12_partOf_4 : decode cX12_partOf 4 = .ok (.iload_n 1, 1) := by decide +kernel
theorem dX12_partOf_5 : decode cX12_partOf 5 = .ok (.invokevirtual 311, 3) := by decide +kernel
theorem dX12_partOf_8 : decode cX12_partOf 8 = .ok (.invokevirtual 314, 3) := by decide +kernel
theorem dX12_partOf_11 : decode cX12_partOf 11 = .ok (.ireturn, 1) := by decide +kernel
noncomputable def E_X12_partOf : mE := (mX12_partOf, [(11, [(0, (.aload_n 0, 1, false, false, 0, 0, 0, 0, 0, 0, [])), (1, (.aload_n 0, 2, false, false, 0, 0, 0, 0, 0, 0, [])), (2, (.bipush 14, 4, false, false, 0, 0, 0, 0, 14, 0, [])), (4, (.iload_n 1, 5, false, false, 1, 0, 0, 0, 0, 0, [])), (5, (.invokevirtual 311, 8, false, false, 144, 2, 1, 15, 0, 0, [])), (8, (.invokevirtual 314, 11, false, false, 145, 1, 1, 15, 0, 0, [])), (11, (.ireturn, 12, false, false, 0, 0, 0, 0, 0, 0, []))])], 0, [])
set_option maxRecDepth 100000 in
theorem v_X12_partOf : VE MYT dflT E_X12_partOf := ⟨⟨⟨⟨⟨dX12_partOf_0, rfl⟩, rfl⟩, ⟨⟨dX12_partOf_1, rfl⟩, rfl⟩, ⟨⟨dX12_partOf_2, rfl⟩, rfl⟩, ⟨⟨dX12_partOf_4, rfl⟩, rfl⟩, ⟨⟨dX12_partOf_5, rfl⟩, Or.inr ⟨by decide, ⟨_, my_144, sX12_311⟩, fun q => absurd q (by decide)⟩⟩, ⟨⟨dX12_partOf_8, rfl⟩, Or.inr ⟨by decide, ⟨_, my_145, sX12_314⟩, fun q => absurd q (by decide)⟩⟩, ⟨⟨dX12_partOf_11, rfl⟩, Or.inl ⟨rfl, rfl⟩⟩, trivial⟩, trivial⟩, by decide, Or.inl ⟨rfl, by decide, rfl⟩⟩
set_option maxRecDepth 100000 in
theorem g_X12_partOf_0 (S : sT) (call : cT) (n : Nat) (a0 : Nat) (x1 : Int32) (h : pH) : bd S call dflT E_X12_partOf (n + 1) 0 [some (.ref a0), some (.int x1)] [] h = (rC h (.ref a0) 15 (cI (call 144 [.ref a0, .int 14, .int x1] h) (fun y2 h1 => rC h1 (.ref a0) 15 (cI (call 145 [.ref a0, .int y2] h1) (fun y4 h3 => some (.inl (some (.int y4)), h3)))))) := rfl
theorem dX12_capital_0 : decode cX12_capital 0 = .ok (.aload_n 0, 1) := by decide +kernel
theorem dX12_capital_1 : decode cX12_capital 1 = .ok (.getfield 27, 3) := by decide +kernel
theorem dX12_capital_4 : decode cX12_capital 4 = .ok (.iconst 2, 1) := by decide +kernel
theorem dX12_capital_5 : decode cX12_capital 5 = .ok (.aload_n 0, 1) := by decide +kernel
theorem dX12_capital_6 : decode cX12_capital 6 = .ok (.getfield 27, 3) := by decide +kernel
theorem dX12_capital_9 : decode cX12_capital 9 = .ok (.iconst 2, 1) := by decide +kernel
theorem dX12_capital_10 : decode cX12_capital 10 = .ok (.iaload, 1) := by decide +kernel
theorem dX12_capital_11 : decode cX12_capital 11 = .ok (.i2l, 1) := by decide +kernel
theorem dX12_capital_12 : decode cX12_capital 12 = .ok (.lload_n 1, 1) := by decide +kernel
theorem dX12_capital_13 : decode cX12_capital 13 = .ok (.ladd, 1) := by decide +kernel
theorem dX12_capital_14 : decode cX12_capital 14 = .ok (.invokestatic 345, 3) := by decide +kernel
theorem dX12_capital_17 : decode cX12_capital 17 = .ok (.iastore, 1) := by decide +kernel
theorem dX12_capital_18 : decode cX12_capital 18 = .ok (.return_, 1) := by decide +kernel
noncomputable def E_X12_capital : mE := (mX12_capital, [(18, [(0, (.aload_n 0, 1, false, false, 0, 0, 0, 0, 0, 0, [])), (1, (.getfield 27, 4, false, false, 15, 1, 1, 0, 0, 0, [])), (4, (.iconst 2, 5, false, false, 0, 0, 0, 0, 2, 0, [])), (5, (.aload_n 0, 6, false, false, 0, 0, 0, 0, 0, 0, [])), (6, (.getfield 27, 9, false, false, 15, 1, 1, 0, 0, 0, [])), (9, (.iconst 2, 10, false, false, 0, 0, 0, 0, 2, 0, [])), (10, (.iaload, 11, false, false, 0, 0, 0, 0, 0, 0, [])), (11, (.i2l, 12, false, false, 0, 0, 0, 0, 0, 0, [])), (12, (.lload_n 1, 13, false, false, 1, 0, 0, 0, 0, 0, [])), (13, (.ladd, 14, false, false, 0, 0, 0, 0, 0, 0, [])), (14, (.invokestatic 345, 17, false, false, 150, 1, 1, 0, 0, 0, [])), (17, (.iastore, 18, false, false, 0, 0, 0, 0, 0, 0, [])), (18, (.return_, 19, false, false, 0, 0, 0, 0, 0, 0, []))])], 0, [])
set_option maxRecDepth 100000 in
theorem v_X12_capital : VE MYT dflT E_X12_capital := ⟨⟨⟨⟨⟨dX12_capital_0, rfl⟩, rfl⟩, ⟨⟨dX12_capital_1, rfl⟩, Or.inl ⟨by decide, _, _, fX12_27⟩⟩, ⟨⟨dX12_capital_4, rfl⟩, rfl⟩, ⟨⟨dX12_capital_5, rfl⟩, rfl⟩, ⟨⟨dX12_capital_6, rfl⟩, Or.inl ⟨by decide, _, _, fX12_27⟩⟩, ⟨⟨dX12_capital_9, rfl⟩, rfl⟩, ⟨⟨dX12_capital_10, rfl⟩, trivial⟩, ⟨⟨dX12_capital_11, rfl⟩, trivial⟩, ⟨⟨dX12_capital_12, rfl⟩, rfl⟩, ⟨⟨dX12_capital_13, rfl⟩, trivial⟩, ⟨⟨dX12_capital_14, rfl⟩, Or.inl ⟨rfl, _, my_150, sX12_345⟩⟩, ⟨⟨dX12_capital_17, rfl⟩, trivial⟩, ⟨⟨dX12_capital_18, rfl⟩, rfl⟩, trivial⟩, trivial⟩, by decide, Or.inl ⟨rfl, by decide, rfl⟩⟩
set_option maxRecDepth 100000 in
theorem g_X12_capital_0 (S : sT) (call : cT) (n : Nat) (a0 : Nat) (j1 : Int64) (h : pH) : bd S call dflT E_X12_capital (n + 1) 0 [some (.ref a0), some (.long j1), none] [] h = (gV h (.ref a0) 15 1 (fun w1 => gV h (.ref a0) 15 1 (fun w2 => aI h w2 0 2 (fun y3 => cI (call 150 [.long (y3.toInt64 + j1)] h) (fun y5 h4 => sI h4 w1 0 2 y5 (fun h6 => some (.inl none, h6))))))) := rfl
theorem dX12_comes_0 : decode cX12_comes 0 = .ok (.iload_n 2, 1) := by decide +kernel
theorem dX12_comes_1 : decode cX12_comes 1 = .ok (.i2l, 1) := by decide +kernel
theorem dX12_comes_2 : decode cX12_comes 2 = .ok (.aload_n 0, 1) := by decide +kernel
theorem dX12_comes_3 : decode cX12_comes 3 = .ok (.iload_n 1, 1) := by decide +kernel
theorem dX12_comes_4 : decode cX12_comes 4 = .ok (.invokevirtual 342, 3) := by decide +kernel
theorem dX12_comes_7 : decode cX12_comes 7 = .ok (.i2l, 1) := by decide +kernel
theorem dX12_comes_8 : decode cX12_comes 8 = .ok (.lmul, 1) := by decide +kernel
theorem dX12_comes_9 : decode cX12_comes 9 = .ok (.ldc2_w 349, 3) := by decide +kernel
theorem dX12_comes_12 : decode cX12_comes 12 = .ok (.ldiv, 1) := by decide +kernel
theorem dX12_comes_13 : decode cX12_comes 13 = .ok (.l2i, 1) := by decide +kernel
theorem dX12_comes_14 : decode cX12_comes 14 = .ok (.istore_n 3, 1) := by decide +kernel
theorem dX12_comes_15 : decode cX12_comes 15 = .ok (.aload_n 0, 1) := by decide +kernel
theorem dX12_comes_16 : decode cX12_comes 16 = .ok (.iload_n 3, 1) := by decide +kernel
theorem dX12_comes_17 : decode cX12_comes 17 = .ok (.i2l, 1) := by decide +kernel
theorem dX12_comes_18 : decode cX12_comes 18 = .ok (.invokevirtual 351, 3) := by decide +kernel
theorem dX12_comes_21 : decode cX12_comes 21 = .ok (.aload_n 0, 1) := by decide +kernel
theorem dX12_comes_22 : decode cX12_comes 22 = .ok (.iload_n 2, 1) := by decide +kernel
theorem dX12_comes_23 : decode cX12_comes 23 = .ok (.iload_n 3, 1) := by decide +kernel
theorem dX12_comes_24 : decode cX12_comes 24 = .ok (.isub, 1) := by decide +kernel
theorem dX12_comes_25 : decode cX12_comes 25 = .ok (.i2l, 1) := by decide +kernel
theorem dX12_comes_26 : decode cX12_comes 26 = .ok (.invokevirtual 355, 3) := by decide +kernel
theorem dX12_comes_29 : decode cX12_comes 29 = .ok (.return_, 1) := by decide +kernel
noncomputable def E_X12_comes : mE := (mX12_comes, [(29, [(0, (.iload_n 2, 1, false, false, 2, 0, 0, 0, 0, 0, [])), (1, (.i2l, 2, false, false, 0, 0, 0, 0, 0, 0, [])), (2, (.aload_n 0, 3, false, false, 0, 0, 0, 0, 0, 0, [])), (3, (.iload_n 1, 4, false, false, 1, 0, 0, 0, 0, 0, [])), (4, (.invokevirtual 342, 7, false, false, 247, 1, 1, 15, 0, 0, [])), (7, (.i2l, 8, false, false, 0, 0, 0, 0, 0, 0, [])), (8, (.lmul, 9, false, false, 0, 0, 0, 0, 0, 0, [])), (9, (.ldc2_w 349, 12, false, false, 0, 0, 0, 0, 0, 100, [])), (12, (.ldiv, 13, false, false, 0, 0, 0, 0, 0, 0, [])), (13, (.l2i, 14, false, false, 0, 0, 0, 0, 0, 0, [])), (14, (.istore_n 3, 15, false, false, 3, 0, 0, 0, 0, 0, [])), (15, (.aload_n 0, 16, false, false, 0, 0, 0, 0, 0, 0, [])), (16, (.iload_n 3, 17, false, false, 3, 0, 0, 0, 0, 0, [])), (17, (.i2l, 18, false, false, 0, 0, 0, 0, 0, 0, [])), (18, (.invokevirtual 351, 21, false, false, 248, 1, 0, 15, 0, 0, [])), (21, (.aload_n 0, 22, false, false, 0, 0, 0, 0, 0, 0, [])), (22, (.iload_n 2, 23, false, false, 2, 0, 0, 0, 0, 0, [])), (23, (.iload_n 3, 24, false, false, 3, 0, 0, 0, 0, 0, [])), (24, (.isub, 25, false, false, 0, 0, 0, 0, 0, 0, [])), (25, (.i2l, 26, false, false, 0, 0, 0, 0, 0, 0, [])), (26, (.invokevirtual 355, 29, false, false, 235, 1, 0, 15, 0, 0, [])), (29, (.return_, 30, false, false, 0, 0, 0, 0, 0, 0, []))])], 0, [])
set_option maxRecDepth 100000 in
theorem v_X12_comes : VE MYT dflT E_X12_comes := ⟨⟨⟨⟨⟨dX12_comes_0, rfl⟩, rfl⟩, ⟨⟨dX12_comes_1, rfl⟩, trivial⟩, ⟨⟨dX12_comes_2, rfl⟩, rfl⟩, ⟨⟨dX12_comes_3, rfl⟩, rfl⟩, ⟨⟨dX12_comes_4, rfl⟩, Or.inr ⟨by decide, ⟨_, my_247, sX12_342⟩, fun q => absurd q (by decide)⟩⟩, ⟨⟨dX12_comes_7, rfl⟩, trivial⟩, ⟨⟨dX12_comes_8, rfl⟩, trivial⟩, ⟨⟨dX12_comes_9, rfl⟩, kX12_349⟩, ⟨⟨dX12_comes_12, rfl⟩, trivial⟩, ⟨⟨dX12_comes_13, rfl⟩, trivial⟩, ⟨⟨dX12_comes_14, rfl⟩, rfl⟩, ⟨⟨dX12_comes_15, rfl⟩, rfl⟩, ⟨⟨dX12_comes_16, rfl⟩, rfl⟩, ⟨⟨dX12_comes_17, rfl⟩, trivial⟩, ⟨⟨dX12_comes_18, rfl⟩, Or.inr ⟨by decide, ⟨_, my_248, sX12_351⟩, fun q => absurd q (by decide)⟩⟩, ⟨⟨dX12_comes_21, rfl⟩, rfl⟩, ⟨⟨dX12_comes_22, rfl⟩, rfl⟩, ⟨⟨dX12_comes_23, rfl⟩, rfl⟩, ⟨⟨dX12_comes_24, rfl⟩, trivial⟩, ⟨⟨dX12_comes_25, rfl⟩, trivial⟩, ⟨⟨dX12_comes_26, rfl⟩, Or.inr ⟨by decide, ⟨_, my_235, sX12_355⟩, fun q => absurd q (by decide)⟩⟩, ⟨⟨dX12_comes_29, rfl⟩, rfl⟩, trivial⟩, trivial⟩, by decide, Or.inl ⟨rfl, by decide, rfl⟩⟩
set_option maxRecDepth 100000 in
theorem g_X12_comes_0 (S : sT) (call : cT) (n : Nat) (a0 : Nat) (x1 : Int32) (x2 : Int32) (h : pH) : bd S call dflT E_X12_comes (n + 1) 0 [some (.ref a0), some (.int x1), some (.int x2), none] [] h = (rC h (.ref a0) 15 (cI (call 247 [.ref a0, .int x1] h) (fun y2 h1 => dvJ 100 (rC h1 (.ref a0) 15 (cU (call 248 [.ref a0, .long (((x2.toInt64 * y2.toInt64) / 100).toInt32).toInt64] h1) (fun h3 => rC h3 (.ref a0) 15 (cU (call 235 [.ref a0, .long (x2 - ((x2.toInt64 * y2.toInt64) / 100).toInt32).toInt64] h3) (fun h4 => some (.inl none, h4))))))))) := rfl
theorem dX12_digs_0 : decode cX12_digs 0 = .ok (.aload_n 0, 1) := by decide +kernel
theorem dX12_digs_1 : decode cX12_digs 1 = .ok (.iload_n 1, 1) := by decide +kernel
theorem dX12_digs_2 : decode cX12_digs 2 = .ok (.bipush 9, 2) := by decide +kernel
theorem dX12_digs_4 : decode cX12_digs 4 = .ok (.invokevirtual 293, 3) := by decide +kernel
theorem dX12_digs_7 : decode cX12_digs 7 = .ok (.istore_n 2, 1) := by decide +kernel
theorem dX12_digs_8 : decode cX12_digs 8 = .ok (.aload_n 0, 1) := by decide +kernel
theorem dX12_digs_9 : decode cX12_digs 9 = .ok (.iload_n 1, 1) := by decide +kernel
theorem dX12_digs_10 : decode cX12_digs 10 = .ok (.bipush 6, 2) := by decide +kernel
theorem dX12_digs_12 : decode cX12_digs 12 = .ok (.invokevirtual 293, 3) := by decide +kernel
theorem dX12_digs_15 : decode cX12_digs 15 = .ok (.bipush 100, 2) := by decide +kernel
theorem dX12_digs_17 : decode cX12_digs 17 = .ok (.idiv, 1) := by decide +kernel
theorem dX12_digs_18 : decode cX12_digs 18 = .ok (.istore_n 3, 1) := by decide +kernel
theorem dX12_digs_19 : decode cX12_digs 19 = .ok (.aload_n 0, 1) := by decide +kernel
theorem dX12_digs_20 : decode cX12_digs 20 = .ok (.iload_n 1, 1) := by decide +kernel
theorem dX12_digs_21 : decode cX12_digs 21 = .ok (.bipush 6, 2) := by decide +kernel
theorem dX12_digs_23 : decode cX12_digs 23 = .ok (.aload_n 0, 1) := by decide +kernel
theorem dX12_digs_24 : decode cX12_digs 24 = .ok (.iload_n 1, 1) := by decide +kernel
theorem dX12_digs_25 : decode cX12_digs 25 = .ok (.bipush 6, 2) := by decide +kernel
theorem dX12_digs_27 : decode cX12_digs 27 = .ok (.invokevirtual 293, 3) := by decide +kernel
theorem dX12_digs_30 : decode cX12_digs 30 = .ok (.iload_n 2, 1) := by decide +kernel
theorem dX12_digs_31 : decode cX12_digs 31 = .ok (.iadd, 1) := by decide +kernel
theorem dX12_digs_32 : decode cX12_digs 32 = .ok (.i2l, 1) := by decide +kernel
theorem dX12_digs_33 : decode cX12_digs 33 = .ok (.invokevirtual 373, 3) := by decide +kernel
theorem dX12_digs_36 : decode cX12_digs 36 = .ok (.aload_n 0, 1) := by decide +kernel
theorem dX12_digs_37 : decode cX12_digs 37 = .ok (.iconst 3, 1) := by decide +kernel
theorem dX12_digs_38 : decode cX12_digs 38 = .ok (.iload_n 2, 1) := by decide +kernel
theorem dX12_digs_39 : decode cX12_digs 39 = .ok (.aload_n 0, 1) := by decide +kernel
theorem dX12_digs_40 : decode cX12_digs 40 = .ok (.iload_n 1, 1) := by decide +kernel
theorem dX12_digs_41 : decode cX12_digs 41 = .ok (.bipush 10, 2) := by decide +kernel
theorem dX12_digs_43 : decode cX12_digs 43 = .ok (.invokevirtual 293, 3) := by decide +kernel
theorem dX12_digs_46 : decode cX12_digs 46 = .ok (.imul, 1) := by decide +kernel
theorem dX12_digs_47 : decode cX12_digs 47 = .ok (.invokevirtual 422, 3) := by decide +kernel
theorem dX12_digs_50 : decode cX12_digs 50 = .ok (.aload_n 0, 1) := by decide +kernel
theorem dX12_digs_51 : decode cX12_digs 51 = .ok (.iload_n 1, 1) := by decide +kernel
theorem dX12_digs_52 : decode cX12_digs 52 = .ok (.iconst 5, 1) := by decide +kernel
theorem dX12_digs_53 : decode cX12_digs 53 = .ok (.aload_n 0, 1) := by decide +kernel
theorem dX12_digs_54 : decode cX12_digs 54 = .ok (.iload_n 1, 1) := by decide +kernel
theorem dX12_digs_55 : decode cX12_digs 55 = .ok (.iconst 5, 1) := by decide +kernel
theorem dX12_digs_56 : decode cX12_digs 56 = .ok (.invokevirtual 293, 3) := by decide +kernel
theorem dX12_digs_59 : decode cX12_digs 59 = .ok (.i2l, 1) := by decide +kernel
theorem dX12_digs_60 : decode cX12_digs 60 = .ok (.iload_n 2, 1) := by decide +kernel
theorem dX12_digs_61 : decode cX12_digs 61 = .ok (.aload_n 0, 1) := by decide +kernel
theorem dX12_digs_62 : decode cX12_digs 62 = .ok (.iload_n 1, 1) := by decide +kernel
theorem dX12_digs_63 : decode cX12_digs 63 = .ok (.bipush 10, 2) := by decide +kernel
theorem dX12_digs_65 : decode cX12_digs 65 = .ok (.invokevirtual 293, 3) := by decide +kernel
theorem dX12_digs_68 : decode cX12_digs 68 = .ok (.imul, 1) := by decide +kernel
theorem dX12_digs_69 : decode cX12_digs 69 = .ok (.i2l, 1) := by decide +kernel
theorem dX12_digs_70 : decode cX12_digs 70 = .ok (.ladd, 1) := by decide +kernel
theorem dX12_digs_71 : decode cX12_digs 71 = .ok (.invokevirtual 373, 3) := by decide +kernel
theorem dX12_digs_74 : decode cX12_digs 74 = .ok (.aload_n 0, 1) := by decide +kernel
theorem dX12_digs_75 : decode cX12_digs 75 = .ok (.iload_n 1, 1) := by decide +kernel
theorem dX12_digs_76 : decode cX12_digs 76 = .ok (.invokevirtual 386, 3) := by decide +kernel
theorem dX12_digs_79 : decode cX12_digs 79 = .ok (.istore 4, 2) := by decide +kernel
theorem dX12_digs_81 : decode cX12_digs 81 = .ok (.iload_n 3, 1) := by decide +kernel
theorem dX12_digs_82 : decode cX12_digs 82 = .ok (.istore 5, 2) := by decide +kernel
theorem dX12_digs_84 : decode cX12_digs 84 = .ok (.iload 5, 2) := by decide +kernel
theorem dX12_digs_86 : decode cX12_digs 86 = .ok (.aload_n 0, 1) := by decide +kernel
theorem dX12_digs_87 : decode cX12_digs 87 = .ok (.iload_n 1, 1) := by decide +kernel
theorem dX12_digs_88 : decode cX12_digs 88 = .ok (.bipush 6, 2) := by decide +kernel
theorem dX12_digs_90 : decode cX12_digs 90 = .ok (.invokevirtual 293, 3) := by decide +kernel
theorem dX12_digs_93 : decode cX12_digs 93 = .ok (.bipush 100, 2) := by decide +kernel
theorem dX12_digs_95 : decode cX12_digs 95 = .ok (.idiv, 1) := by decide +kernel
theorem dX12_digs_96 : decode cX12_digs 96 = .ok (.if_icmp .ge 82, 3) := by decide +kernel
theorem dX12_digs_99 : decode cX12_digs 99 = .ok (.iload 5, 2) := by decide +kernel
theorem dX12_digs_101 : decode cX12_digs 101 = .ok (.iload 4, 2) := by decide +kernel
theorem dX12_digs_103 : decode cX12_digs 103 = .ok (.irem, 1) := by decide +kernel
theorem dX12_digs_104 : decode cX12_digs 104 = .ok (.istore 6, 2) := by decide +kernel
theorem dX12_digs_106 : decode cX12_digs 106 = .ok (.iconst 0, 1) := by decide +kernel
theorem dX12_digs_107 : decode cX12_digs 107 = .ok (.istore 7, 2) := by decide +kernel
theorem dX12_digs_109 : decode cX12_digs 109 = .ok (.iload 7, 2) := by decide +kernel
theorem dX12_digs_111 : decode cX12_digs 111 = .ok (.bipush 48, 2) := by decide +kernel
theorem dX12_digs_113 : decode cX12_digs 113 = .ok (.if_icmp .ge 59, 3) := by decide +kernel
theorem dX12_digs_116 : decode cX12_digs 116 = .ok (.aload_n 0, 1) := by decide +kernel
theorem dX12_digs_117 : decode cX12_digs 117 = .ok (.iload 7, 2) := by decide +kernel
theorem dX12_digs_119 : decode cX12_digs 119 = .ok (.bipush 10, 2) := by decide +kernel
theorem dX12_digs_121 : decode cX12_digs 121 = .ok (.invokevirtual 79, 3) := by decide +kernel
theorem dX12_digs_124 : decode cX12_digs 124 = .ok (.iload_n 1, 1) := by decide +kernel
theorem dX12_digs_125 : decode cX12_digs 125 = .ok (.if_icmp .eq 6, 3) := by decide +kernel
theorem dX12_digs_128 : decode cX12_digs 128 = .ok (.goto 38, 3) := by decide +kernel
theorem dX12_digs_131 : decode cX12_digs 131 = .ok (.iload 6, 2) := by decide +kernel
theorem dX12_digs_133 : decode cX12_digs 133 = .ok (.ifCond .ne 30, 3) := by decide +kernel
theorem dX12_digs_136 : decode cX12_digs 136 = .ok (.aload_n 0, 1) := by decide +kernel
theorem dX12_digs_137 : decode cX12_digs 137 = .ok (.getfield 27, 3) := by decide +kernel
theorem dX12_digs_140 : decode cX12_digs 140 = .ok (.iload 7, 2) := by decide +kernel
theorem dX12_digs_142 : decode cX12_digs 142 = .ok (.bipush 8, 2) := by decide +kernel
theorem dX12_digs_144 : decode cX12_digs 144 = .ok (.invokestatic 59, 3) := by decide +kernel
theorem dX12_digs_147 : decode cX12_digs 147 = .ok (.bipush 9, 2) := by decide +kernel
theorem dX12_digs_149 : decode cX12_digs 149 = .ok (.aload_n 0, 1) := by decide +kernel
theorem dX12_digs_150 : decode cX12_digs 150 = .ok (.iload 7, 2) := by decide +kernel
theorem dX12_digs_152 : decode cX12_digs 152 = .ok (.bipush 8, 2) := by decide +kernel
theorem dX12_digs_154 : decode cX12_digs 154 = .ok (.invokevirtual 79, 3) := by decide +kernel
theorem dX12_digs_157 : decode cX12_digs 157 = .ok (.iconst 1, 1) := by decide +kernel
theorem dX12_digs_158 : decode cX12_digs 158 = .ok (.iadd, 1) := by decide +kernel
theorem dX12_digs_159 : decode cX12_digs 159 = .ok (.invokestatic 358, 3) := by decide +kernel
theorem dX12_digs_162 : decode cX12_digs 162 = .ok (.iastore, 1) := by decide +kernel
theorem dX12_digs_163 : decode cX12_digs 163 = .ok (.iinc 6 (-1), 3) := by decide +kernel
theorem dX12_digs_166 : decode cX12_digs 166 = .ok (.iinc 7 1, 3) := by decide +kernel
theorem dX12_digs_169 : decode cX12_digs 169 = .ok (.goto (-60), 3) := by decide +kernel
theorem dX12_digs_172 : decode cX12_digs 172 = .ok (.iinc 5 1, 3) := by decide +kernel
theorem dX12_digs_175 : decode cX12_digs 175 = .ok (.goto (-91), 3) := by decide +kernel
theorem dX12_digs_178 : decode cX12_digs 178 = .ok (.return_, 1) := by decide +kernel
noncomputable def E_X12_digs : mE := (mX12_digs, [(36, [(0, (.aload_n 0, 1, false, false, 0, 0, 0, 0, 0, 0, [])), (1, (.iload_n 1, 2, false, false, 1, 0, 0, 0, 0, 0, [])), (2, (.bipush 9, 4, false, false, 0, 0, 0, 0, 9, 0, [])), (4, (.invokevirtual 293, 7, false, false, 165, 2, 1, 15, 0, 0, [])), (7, (.istore_n 2, 8, false, false, 2, 0, 0, 0, 0, 0, [])), (8, (.aload_n 0, 9, false, false, 0, 0, 0, 0, 0, 0, [])), (9, (.iload_n 1, 10, false, false, 1, 0, 0, 0, 0, 0, [])), (10, (.bipush 6, 12, false, false, 0, 0, 0, 0, 6, 0, [])), (12, (.invokevirtual 293, 15, false, false, 165, 2, 1, 15, 0, 0, [])), (15, (.bipush 100, 17, false, false, 0, 0, 0, 0, 100, 0, [])), (17, (.idiv, 18, false, false, 0, 0, 0, 0, 0, 0, [])), (18, (.istore_n 3, 19, false, false, 3, 0, 0, 0, 0, 0, [])), (19, (.aload_n 0, 20, false, false, 0, 0, 0, 0, 0, 0, [])), (20, (.iload_n 1, 21, false, false, 1, 0, 0, 0, 0, 0, [])), (21, (.bipush 6, 23, false, false, 0, 0, 0, 0, 6, 0, [])), (23, (.aload_n 0, 24, false, false, 0, 0, 0, 0, 0, 0, [])), (24, (.iload_n 1, 25, false, false, 1, 0, 0, 0, 0, 0, [])), (25, (.bipush 6, 27, false, false, 0, 0, 0, 0, 6, 0, [])), (27, (.invokevirtual 293, 30, false, false, 165, 2, 1, 15, 0, 0, [])), (30, (.iload_n 2, 31, false, false, 2, 0, 0, 0, 0, 0, [])), (31, (.iadd, 32, false, false, 0, 0, 0, 0, 0, 0, [])), (32, (.i2l, 33, false, false, 0, 0, 0, 0, 0, 0, [])), (33, (.invokevirtual 373, 36, false, false, 151, 3, 0, 15, 0, 0, [])), (36, (.aload_n 0, 37, false, false, 0, 0, 0, 0, 0, 0, []))]),
  (70, [(37, (.iconst 3, 38, false, false, 0, 0, 0, 0, 3, 0, [])), (38, (.iload_n 2, 39, false, false, 2, 0, 0, 0, 0, 0, [])), (39, (.aload_n 0, 40, false, false, 0, 0, 0, 0, 0, 0, [])), (40, (.iload_n 1, 41, false, false, 1, 0, 0, 0, 0, 0, [])), (41, (.bipush 10, 43, false, false, 0, 0, 0, 0, 10, 0, [])), (43, (.invokevirtual 293, 46, false, false, 165, 2, 1, 15, 0, 0, [])), (46, (.imul, 47, false, false, 0, 0, 0, 0, 0, 0, [])), (47, (.invokevirtual 422, 50, false, false, 249, 2, 0, 15, 0, 0, [])), (50, (.aload_n 0, 51, false, false, 0, 0, 0, 0, 0, 0, [])), (51, (.iload_n 1, 52, false, false, 1, 0, 0, 0, 0, 0, [])), (52, (.iconst 5, 53, false, false, 0, 0, 0, 0, 5, 0, [])), (53, (.aload_n 0, 54, false, false, 0, 0, 0, 0, 0, 0, [])), (54, (.iload_n 1, 55, false, false, 1, 0, 0, 0, 0, 0, [])), (55, (.iconst 5, 56, false, false, 0, 0, 0, 0, 5, 0, [])), (56, (.invokevirtual 293, 59, false, false, 165, 2, 1, 15, 0, 0, [])), (59, (.i2l, 60, false, false, 0, 0, 0, 0, 0, 0, [])), (60, (.iload_n 2, 61, false, false, 2, 0, 0, 0, 0, 0, [])), (61, (.aload_n 0, 62, false, false, 0, 0, 0, 0, 0, 0, [])), (62, (.iload_n 1, 63, false, false, 1, 0, 0, 0, 0, 0, [])), (63, (.bipush 10, 65, false, false, 0, 0, 0, 0, 10, 0, [])), (65, (.invokevirtual 293, 68, false, false, 165, 2, 1, 15, 0, 0, [])), (68, (.imul, 69, false, false, 0, 0, 0, 0, 0, 0, [])), (69, (.i2l, 70, false, false, 0, 0, 0, 0, 0, 0, [])), (70, (.ladd, 71, false, false, 0, 0, 0, 0, 0, 0, []))]),
  (113, [(71, (.invokevirtual 373, 74, false, false, 151, 3, 0, 15, 0, 0, [])), (74, (.aload_n 0, 75, false, false, 0, 0, 0, 0, 0, 0, [])), (75, (.iload_n 1, 76, false, false, 1, 0, 0, 0, 0, 0, [])), (76, (.invokevirtual 386, 79, false, false, 172, 1, 1, 15, 0, 0, [])), (79, (.istore 4, 81, false, false, 4, 0, 0, 0, 0, 0, [])), (81, (.iload_n 3, 82, false, false, 3, 0, 0, 0, 0, 0, [])), (82, (.istore 5, 84, true, false, 5, 0, 0, 0, 0, 0, [])), (84, (.iload 5, 86, false, false, 5, 0, 0, 0, 0, 0, [])), (86, (.aload_n 0, 87, false, false, 0, 0, 0, 0, 0, 0, [])), (87, (.iload_n 1, 88, false, false, 1, 0, 0, 0, 0, 0, [])), (88, (.bipush 6, 90, false, false, 0, 0, 0, 0, 6, 0, [])), (90, (.invokevirtual 293, 93, false, false, 165, 2, 1, 15, 0, 0, [])), (93, (.bipush 100, 95, false, false, 0, 0, 0, 0, 100, 0, [])), (95, (.idiv, 96, false, false, 0, 0, 0, 0, 0, 0, [])), (96, (.if_icmp .ge 82, 99, false, false, 178, 0, 0, 0, 0, 0, [])), (99, (.iload 5, 101, false, false, 5, 0, 0, 0, 0, 0, [])), (101, (.iload 4, 103, false, false, 4, 0, 0, 0, 0, 0, [])), (103, (.irem, 104, false, false, 0, 0, 0, 0, 0, 0, [])), (104, (.istore 6, 106, false, false, 6, 0, 0, 0, 0, 0, [])), (106, (.iconst 0, 107, false, false, 0, 0, 0, 0, 0, 0, [])), (107, (.istore 7, 109, true, false, 7, 0, 0, 0, 0, 0, [])), (109, (.iload 7, 111, false, false, 7, 0, 0, 0, 0, 0, [])), (111, (.bipush 48, 113, false, false, 0, 0, 0, 0, 48, 0, [])), (113, (.if_icmp .ge 59, 116, false, false, 172, 0, 0, 0, 0, 0, []))]),
  (163, [(116, (.aload_n 0, 117, false, false, 0, 0, 0, 0, 0, 0, [])), (117, (.iload 7, 119, false, false, 7, 0, 0, 0, 0, 0, [])), (119, (.bipush 10, 121, false, false, 0, 0, 0, 0, 10, 0, [])), (121, (.invokevirtual 79, 124, false, false, 31, 2, 1, 15, 0, 0, [])), (124, (.iload_n 1, 125, false, false, 1, 0, 0, 0, 0, 0, [])), (125, (.if_icmp .eq 6, 128, false, false, 131, 0, 0, 0, 0, 0, [])), (128, (.goto 38, 131, false, false, 166, 0, 0, 0, 0, 0, [])), (131, (.iload 6, 133, false, false, 6, 0, 0, 0, 0, 0, [])), (133, (.ifCond .ne 30, 136, false, false, 163, 0, 0, 0, 0, 0, [])), (136, (.aload_n 0, 137, false, false, 0, 0, 0, 0, 0, 0, [])), (137, (.getfield 27, 140, false, false, 15, 1, 1, 0, 0, 0, [])), (140, (.iload 7, 142, false, false, 7, 0, 0, 0, 0, 0, [])), (142, (.bipush 8, 144, false, false, 0, 0, 0, 0, 8, 0, [])), (144, (.invokestatic 59, 147, false, false, 12, 2, 1, 0, 0, 0, [])), (147, (.bipush 9, 149, false, false, 0, 0, 0, 0, 9, 0, [])), (149, (.aload_n 0, 150, false, false, 0, 0, 0, 0, 0, 0, [])), (150, (.iload 7, 152, false, false, 7, 0, 0, 0, 0, 0, [])), (152, (.bipush 8, 154, false, false, 0, 0, 0, 0, 8, 0, [])), (154, (.invokevirtual 79, 157, false, false, 31, 2, 1, 15, 0, 0, [])), (157, (.iconst 1, 158, false, false, 0, 0, 0, 0, 1, 0, [])), (158, (.iadd, 159, false, false, 0, 0, 0, 0, 0, 0, [])), (159, (.invokestatic 358, 162, false, false, 0, 2, 1, 6, 0, 0, [])), (162, (.iastore, 163, false, false, 0, 0, 0, 0, 0, 0, [])), (163, (.iinc 6 (-1), 166, false, false, 6, 0, 0, 0, -1, 0, []))]),
  (178, [(166, (.iinc 7 1, 169, false, false, 7, 0, 0, 0, 1, 0, [])), (169, (.goto (-60), 172, false, true, 109, 0, 0, 0, 0, 0, [])), (172, (.iinc 5 1, 175, false, false, 5, 0, 0, 0, 1, 0, [])), (175, (.goto (-91), 178, false, true, 84, 0, 0, 0, 0, 0, [])), (178, (.return_, 179, false, false, 0, 0, 0, 0, 0, 0, []))])], 0, [])
set_option maxRecDepth 100000 in
theorem v_X12_digs : VE MYT dflT E_X12_digs := ⟨⟨⟨⟨⟨dX12_digs_0, rfl⟩, rfl⟩, ⟨⟨dX12_digs_1, rfl⟩, rfl⟩, ⟨⟨dX12_digs_2, rfl⟩, rfl⟩, ⟨⟨dX12_digs_4, rfl⟩, Or.inr ⟨by decide, ⟨_, my_165, sX12_293⟩, fun q => absurd q (by decide)⟩⟩, ⟨⟨dX12_digs_7, rfl⟩, rfl⟩, ⟨⟨dX12_digs_8, rfl⟩, rfl⟩, ⟨⟨dX12_digs_9, rfl⟩, rfl⟩, ⟨⟨dX12_digs_10, rfl⟩, rfl⟩, ⟨⟨dX12_digs_12, rfl⟩, Or.inr ⟨by decide, ⟨_, my_165, sX12_293⟩, fun q => absurd q (by decide)⟩⟩, ⟨⟨dX12_digs_15, rfl⟩, rfl⟩, ⟨⟨dX12_digs_17, rfl⟩, trivial⟩, ⟨⟨dX12_digs_18, rfl⟩, rfl⟩, ⟨⟨dX12_digs_19, rfl⟩, rfl⟩, ⟨⟨dX12_digs_20, rfl⟩, rfl⟩, ⟨⟨dX12_digs_21, rfl⟩, rfl⟩, ⟨⟨dX12_digs_23, rfl⟩, rfl⟩, ⟨⟨dX12_digs_24, rfl⟩, rfl⟩, ⟨⟨dX12_digs_25, rfl⟩, rfl⟩, ⟨⟨dX12_digs_27, rfl⟩, Or.inr ⟨by decide, ⟨_, my_165, sX12_293⟩, fun q => absurd q (by decide)⟩⟩, ⟨⟨dX12_digs_30, rfl⟩, rfl⟩, ⟨⟨dX12_digs_31, rfl⟩, trivial⟩, ⟨⟨dX12_digs_32, rfl⟩, trivial⟩, ⟨⟨dX12_digs_33, rfl⟩, Or.inr ⟨by decide, ⟨_, my_151, sX12_373⟩, fun q => absurd q (by decide)⟩⟩, ⟨⟨dX12_digs_36, rfl⟩, rfl⟩, trivial⟩,
  ⟨⟨⟨dX12_digs_37, rfl⟩, rfl⟩, ⟨⟨dX12_digs_38, rfl⟩, rfl⟩, ⟨⟨dX12_digs_39, rfl⟩, rfl⟩, ⟨⟨dX12_digs_40, rfl⟩, rfl⟩, ⟨⟨dX12_digs_41, rfl⟩, rfl⟩, ⟨⟨dX12_digs_43, rfl⟩, Or.inr ⟨by decide, ⟨_, my_165, sX12_293⟩, fun q => absurd q (by decide)⟩⟩, ⟨⟨dX12_digs_46, rfl⟩, trivial⟩, ⟨⟨dX12_digs_47, rfl⟩, Or.inr ⟨by decide, ⟨_, my_249, sX12_422⟩, fun q => absurd q (by decide)⟩⟩, ⟨⟨dX12_digs_50, rfl⟩, rfl⟩, ⟨⟨dX12_digs_51, rfl⟩, rfl⟩, ⟨⟨dX12_digs_52, rfl⟩, rfl⟩, ⟨⟨dX12_digs_53, rfl⟩, rfl⟩, ⟨⟨dX12_digs_54, rfl⟩, rfl⟩, ⟨⟨dX12_digs_55, rfl⟩, rfl⟩, ⟨⟨dX12_digs_56, rfl⟩, Or.inr ⟨by decide, ⟨_, my_165, sX12_293⟩, fun q => absurd q (by decide)⟩⟩, ⟨⟨dX12_digs_59, rfl⟩, trivial⟩, ⟨⟨dX12_digs_60, rfl⟩, rfl⟩, ⟨⟨dX12_digs_61, rfl⟩, rfl⟩, ⟨⟨dX12_digs_62, rfl⟩, rfl⟩, ⟨⟨dX12_digs_63, rfl⟩, rfl⟩, ⟨⟨dX12_digs_65, rfl⟩, Or.inr ⟨by decide, ⟨_, my_165, sX12_293⟩, fun q => absurd q (by decide)⟩⟩, ⟨⟨dX12_digs_68, rfl⟩, trivial⟩, ⟨⟨dX12_digs_69, rfl⟩, trivial⟩, ⟨⟨dX12_digs_70, rfl⟩, trivial⟩, trivial⟩,
  ⟨⟨⟨dX12_digs_71, rfl⟩, Or.inr ⟨by decide, ⟨_, my_151, sX12_373⟩, fun q => absurd q (by decide)⟩⟩, ⟨⟨dX12_digs_74, rfl⟩, rfl⟩, ⟨⟨dX12_digs_75, rfl⟩, rfl⟩, ⟨⟨dX12_digs_76, rfl⟩, Or.inr ⟨by decide, ⟨_, my_172, sX12_386⟩, fun q => absurd q (by decide)⟩⟩, ⟨⟨dX12_digs_79, rfl⟩, rfl⟩, ⟨⟨dX12_digs_81, rfl⟩, rfl⟩, ⟨⟨dX12_digs_82, rfl⟩, rfl⟩, ⟨⟨dX12_digs_84, rfl⟩, rfl⟩, ⟨⟨dX12_digs_86, rfl⟩, rfl⟩, ⟨⟨dX12_digs_87, rfl⟩, rfl⟩, ⟨⟨dX12_digs_88, rfl⟩, rfl⟩, ⟨⟨dX12_digs_90, rfl⟩, Or.inr ⟨by decide, ⟨_, my_165, sX12_293⟩, fun q => absurd q (by decide)⟩⟩, ⟨⟨dX12_digs_93, rfl⟩, rfl⟩, ⟨⟨dX12_digs_95, rfl⟩, trivial⟩, ⟨⟨dX12_digs_96, rfl⟩, rfl⟩, ⟨⟨dX12_digs_99, rfl⟩, rfl⟩, ⟨⟨dX12_digs_101, rfl⟩, rfl⟩, ⟨⟨dX12_digs_103, rfl⟩, trivial⟩, ⟨⟨dX12_digs_104, rfl⟩, rfl⟩, ⟨⟨dX12_digs_106, rfl⟩, rfl⟩, ⟨⟨dX12_digs_107, rfl⟩, rfl⟩, ⟨⟨dX12_digs_109, rfl⟩, rfl⟩, ⟨⟨dX12_digs_111, rfl⟩, rfl⟩, ⟨⟨dX12_digs_113, rfl⟩, rfl⟩, trivial⟩,
  ⟨⟨⟨dX12_digs_116, rfl⟩, rfl⟩, ⟨⟨dX12_digs_117, rfl⟩, rfl⟩, ⟨⟨dX12_digs_119, rfl⟩, rfl⟩, ⟨⟨dX12_digs_121, rfl⟩, Or.inr ⟨by decide, ⟨_, my_31, sX12_79⟩, fun q => absurd q (by decide)⟩⟩, ⟨⟨dX12_digs_124, rfl⟩, rfl⟩, ⟨⟨dX12_digs_125, rfl⟩, rfl⟩, ⟨⟨dX12_digs_128, rfl⟩, rfl⟩, ⟨⟨dX12_digs_131, rfl⟩, rfl⟩, ⟨⟨dX12_digs_133, rfl⟩, rfl⟩, ⟨⟨dX12_digs_136, rfl⟩, rfl⟩, ⟨⟨dX12_digs_137, rfl⟩, Or.inl ⟨by decide, _, _, fX12_27⟩⟩, ⟨⟨dX12_digs_140, rfl⟩, rfl⟩, ⟨⟨dX12_digs_142, rfl⟩, rfl⟩, ⟨⟨dX12_digs_144, rfl⟩, Or.inl ⟨rfl, _, my_12, sX12_59⟩⟩, ⟨⟨dX12_digs_147, rfl⟩, rfl⟩, ⟨⟨dX12_digs_149, rfl⟩, rfl⟩, ⟨⟨dX12_digs_150, rfl⟩, rfl⟩, ⟨⟨dX12_digs_152, rfl⟩, rfl⟩, ⟨⟨dX12_digs_154, rfl⟩, Or.inr ⟨by decide, ⟨_, my_31, sX12_79⟩, fun q => absurd q (by decide)⟩⟩, ⟨⟨dX12_digs_157, rfl⟩, rfl⟩, ⟨⟨dX12_digs_158, rfl⟩, trivial⟩, ⟨⟨dX12_digs_159, rfl⟩, Or.inr (Or.inr (Or.inr (Or.inr (Or.inr (Or.inl ⟨rfl, sX12_358⟩)))))⟩, ⟨⟨dX12_digs_162, rfl⟩, trivial⟩, ⟨⟨dX12_digs_163, rfl⟩, ⟨rfl, rfl⟩⟩, trivial⟩,
  ⟨⟨⟨dX12_digs_166, rfl⟩, ⟨rfl, rfl⟩⟩, ⟨⟨dX12_digs_169, rfl⟩, rfl⟩, ⟨⟨dX12_digs_172, rfl⟩, ⟨rfl, rfl⟩⟩, ⟨⟨dX12_digs_175, rfl⟩, rfl⟩, ⟨⟨dX12_digs_178, rfl⟩, rfl⟩, trivial⟩, trivial⟩, by decide, Or.inl ⟨rfl, by decide, rfl⟩⟩
set_option maxRecDepth 100000 in
theorem g_X12_digs_0 (S : sT) (call : cT) (n : Nat) (a0 : Nat) (x1 : Int32) (h : pH) : bd S call dflT E_X12_digs (n + 1) 0 [some (.ref a0), some (.int x1), none, none, none, none, none, none] [] h = (rC h (.ref a0) 15 (cI (call 165 [.ref a0, .int x1, .int 9] h) (fun y2 h1 => rC h1 (.ref a0) 15 (cI (call 165 [.ref a0, .int x1, .int 6] h1) (fun y4 h3 => dv 100 (rC h3 (.ref a0) 15 (cI (call 165 [.ref a0, .int x1, .int 6] h3) (fun y6 h5 => rC h5 (.ref a0) 15 (cU (call 151 [.ref a0, .int x1, .int 6, .long (y6 + y2).toInt64] h5) (fun h7 => rC h7 (.ref a0) 15 (cI (call 165 [.ref a0, .int x1, .int 10] h7) (fun y9 h8 => rC h8 (.ref a0) 15 (cU (call 249 [.ref a0, .int 3, .int (y2 * y9)] h8) (fun h10 => rC h10 (.ref a0) 15 (cI (call 165 [.ref a0, .int x1, .int 5] h10) (fun y12 h11 => h8f [.int y2, .long y12.toInt64, .int 5, .int x1, .ref a0] (rC h11 (.ref a0) 15 (cI (call 165 [.ref a0, .int x1, .int 10] h11) (fun y14 h13 => rC h13 (.ref a0) 15 (cU (call 151 [.ref a0, .int x1, .int 5, .long (y12.toInt64 + (y2 * y14).toInt64)] h13) (fun h15 => rC h15 (.ref a0) 15 (cI (call 172 [.ref a0, .int x1] h15) (fun y17 h16 => bd S call dflT E_X12_digs n 84 [some (.ref a0), some (.int x1), some (.int y2), some (.int (y4 / 100)), some (.int y17), some (.int (y4 / 100)), none, none] [] h16))))))))))))))))))))))) := rfl
set_option maxRecDepth 100000 in
theorem g_X12_digs_84 (S : sT) (call : cT) (n : Nat) (a0 : Nat) (x1 : Int32) (x2 : Int32) (x3 : Int32) (x4 : Int32) (x5 : Int32) (o6 : Option Value) (o7 : Option Value) (h : pH) : bd S call dflT E_X12_digs (n + 1) 84 [some (.ref a0), some (.int x1), some (.int x2), some (.int x3), some (.int x4), some (.int x5), o6, o7] [] h = (rC h (.ref a0) 15 (cI (call 165 [.ref a0, .int x1, .int 6] h) (fun y2 h1 => dv 100 ((if (y2 / 100) ≤ x5 then some (.inl none, h1) else dv x4 (bd S call dflT E_X12_digs n 109 [some (.ref a0), some (.int x1), some (.int x2), some (.int x3), some (.int x4), some (.int x5), some (.int (x5 - x5 / x4 * x4)), some (.int 0)] [] h1)))))) := rfl
set_option maxRecDepth 100000 in
theorem g_X12_digs_109 (S : sT) (call : cT) (n : Nat) (a0 : Nat) (x1 : Int32) (x2 : Int32) (x3 : Int32) (x4 : Int32) (x5 : Int32) (x6 : Int32) (x7 : Int32) (h : pH) : bd S call dflT E_X12_digs (n + 1) 109 [some (.ref a0), some (.int x1), some (.int x2), some (.int x3), some (.int x4), some (.int x5), some (.int x6), some (.int x7)] [] h = ((if 48 ≤ x7 then bd S call dflT E_X12_digs n 84 [some (.ref a0), some (.int x1), some (.int x2), some (.int x3), some (.int x4), some (.int (x5 + 1)), some (.int x6), some (.int x7)] [] h else rC h (.ref a0) 15 (cI (call 31 [.ref a0, .int x7, .int 10] h) (fun y2 h1 => (if y2 = x1 then (if x6 = 0 then gV h1 (.ref a0) 15 1 (fun w3 => cI (call 12 [.int x7, .int 8] h1) (fun y5 h4 => rC h4 (.ref a0) 15 (cI (call 31 [.ref a0, .int x7, .int 8] h4) (fun y7 h6 => sI h6 w3 0 y5 (if (y7 + 1) < (9 : Int32) then (y7 + 1) else (9 : Int32)) (fun h8 => bd S call dflT E_X12_digs n 109 [some (.ref a0), some (.int x1), some (.int x2), some (.int x3), some (.int x4), some (.int x5), some (.int (x6 + (-1))), some (.int (x7 + 1))] [] h8))))) else bd S call dflT E_X12_digs n 109 [some (.ref a0), some (.int x1), some (.int x2), some (.int x3), some (.int x4), some (.int x5), some (.int (x6 + (-1))), some (.int (x7 + 1))] [] h1) else bd S call dflT E_X12_digs n 109 [some (.ref a0), some (.int x1), some (.int x2), some (.int x3), some (.int x4), some (.int x5), some (.int x6), some (.int (x7 + 1))] [] h1))))) := rfl
theorem dX12_paysLoan_0 : decode cX12_paysLoan 0 = .ok (.aload_n 0, 1) := by decide +kernel
theorem dX12_paysLoan_1 : decode cX12_paysLoan 1 = .ok (.getfield 27, 3) := by decide +kernel
theorem dX12_paysLoan_4 : decode cX12_paysLoan 4 = .ok (.iload_n 1, 1) := by decide +kernel
theorem dX12_paysLoan_5 : decode cX12_paysLoan 5 = .ok (.iaload, 1) := by decide +kernel
theorem dX12_paysLoan_6 : decode cX12_paysLoan 6 = .ok (.i2l, 1) := by decide +kernel
theorem dX12_paysLoan_7 : decode cX12_paysLoan 7 = .ok (.aload_n 0, 1) := by decide +kernel
theorem dX12_paysLoan_8 : decode cX12_paysLoan 8 = .ok (.getfield 27, 3) := by decide +kernel
theorem dX12_paysLoan_11 : decode cX12_paysLoan 11 = .ok (.iload_n 1, 1) := by decide +kernel
theorem dX12_paysLoan_12 : decode cX12_paysLoan 12 = .ok (.iconst 1, 1) := by decide +kernel
theorem dX12_paysLoan_13 : decode cX12_paysLoan 13 = .ok (.iadd, 1) := by decide +kernel
theorem dX12_paysLoan_14 : decode cX12_paysLoan 14 = .ok (.iaload, 1) := by decide +kernel
theorem dX12_paysLoan_15 : decode cX12_paysLoan 15 = .ok (.i2l, 1) := by decide +kernel
theorem dX12_paysLoan_16 : decode cX12_paysLoan 16 = .ok (.lmul, 1) := by decide +kernel
theorem dX12_paysLoan_17 : decode cX12_paysLoan 17 = .ok (.ldc2_w 452, 3) := by decide +kernel
theorem dX12_paysLoan_20 : decode cX12_paysLoan 20 = .ok (.ladd, 1) := by decide +kernel
theorem dX12_paysLoan_21 : decode cX12_paysLoan 21 = .ok (.ldc2_w 454, 3) := by decide +kernel
theorem dX12_paysLoan_24 : decode cX12_paysLoan 24 = .ok (.ldiv, 1) := by decide +kernel
theorem dX12_paysLoan_25 : decode cX12_paysLoan 25 = .ok (.l2i, 1) := by decide +kernel
theorem dX12_paysLoan_26 : decode cX12_paysLoan 26 = .ok (.istore_n 2, 1) := by decide +kernel
theorem dX12_paysLoan_27 : decode cX12_paysLoan 27 = .ok (.aload_n 0, 1) := by decide +kernel
theorem dX12_paysLoan_28 : decode cX12_paysLoan 28 = .ok (.getfield 27, 3) := by decide +kernel
theorem dX12_paysLoan_31 : decode cX12_paysLoan 31 = .ok (.iload_n 1, 1) := by decide +kernel
theorem dX12_paysLoan_32 : decode cX12_paysLoan 32 = .ok (.iaload, 1) := by decide +kernel
theorem dX12_paysLoan_33 : decode cX12_paysLoan 33 = .ok (.aload_n 0, 1) := by decide +kernel
theorem dX12_paysLoan_34 : decode cX12_paysLoan 34 = .ok (.getfield 27, 3) := by decide +kernel
theorem dX12_paysLoan_37 : decode cX12_paysLoan 37 = .ok (.iload_n 1, 1) := by decide +kernel
theorem dX12_paysLoan_38 : decode cX12_paysLoan 38 = .ok (.iconst 2, 1) := by decide +kernel
theorem dX12_paysLoan_39 : decode cX12_paysLoan 39 = .ok (.iadd, 1) := by decide +kernel
theorem dX12_paysLoan_40 : decode cX12_paysLoan 40 = .ok (.iaload, 1) := by decide +kernel
theorem dX12_paysLoan_41 : decode cX12_paysLoan 41 = .ok (.invokestatic 358, 3) := by decide +kernel
theorem dX12_paysLoan_44 : decode cX12_paysLoan 44 = .ok (.istore_n 3, 1) := by decide +kernel
theorem dX12_paysLoan_45 : decode cX12_paysLoan 45 = .ok (.aload_n 0, 1) := by decide +kernel
theorem dX12_paysLoan_46 : decode cX12_paysLoan 46 = .ok (.iload_n 2, 1) := by decide +kernel
theorem dX12_paysLoan_47 : decode cX12_paysLoan 47 = .ok (.i2l, 1) := by decide +kernel
theorem dX12_paysLoan_48 : decode cX12_paysLoan 48 = .ok (.lneg, 1) := by decide +kernel
theorem dX12_paysLoan_49 : decode cX12_paysLoan 49 = .ok (.iload_n 3, 1) := by decide +kernel
theorem dX12_paysLoan_50 : decode cX12_paysLoan 50 = .ok (.i2l, 1) := by decide +kernel
theorem dX12_paysLoan_51 : decode cX12_paysLoan 51 = .ok (.lsub, 1) := by decide +kernel
theorem dX12_paysLoan_52 : decode cX12_paysLoan 52 = .ok (.invokevirtual 355, 3) := by decide +kernel
theorem dX12_paysLoan_55 : decode cX12_paysLoan 55 = .ok (.aload_n 0, 1) := by decide +kernel
theorem dX12_paysLoan_56 : decode cX12_paysLoan 56 = .ok (.getfield 27, 3) := by decide +kernel
theorem dX12_paysLoan_59 : decode cX12_paysLoan 59 = .ok (.iload_n 1, 1) := by decide +kernel
theorem dX12_paysLoan_60 : decode cX12_paysLoan 60 = .ok (.dup2, 1) := by decide +kernel
theorem dX12_paysLoan_61 : decode cX12_paysLoan 61 = .ok (.iaload, 1) := by decide +kernel
theorem dX12_paysLoan_62 : decode cX12_paysLoan 62 = .ok (.iload_n 3, 1) := by decide +kernel
theorem dX12_paysLoan_63 : decode cX12_paysLoan 63 = .ok (.isub, 1) := by decide +kernel
theorem dX12_paysLoan_64 : decode cX12_paysLoan 64 = .ok (.iastore, 1) := by decide +kernel
theorem dX12_paysLoan_65 : decode cX12_paysLoan 65 = .ok (.return_, 1) := by decide +kernel
noncomputable def E_X12_paysLoan : mE := (mX12_paysLoan, [(33, [(0, (.aload_n 0, 1, false, false, 0, 0, 0, 0, 0, 0, [])), (1, (.getfield 27, 4, false, false, 15, 1, 1, 0, 0, 0, [])), (4, (.iload_n 1, 5, false, false, 1, 0, 0, 0, 0, 0, [])), (5, (.iaload, 6, false, false, 0, 0, 0, 0, 0, 0, [])), (6, (.i2l, 7, false, false, 0, 0, 0, 0, 0, 0, [])), (7, (.aload_n 0, 8, false, false, 0, 0, 0, 0, 0, 0, [])), (8, (.getfield 27, 11, false, false, 15, 1, 1, 0, 0, 0, [])), (11, (.iload_n 1, 12, false, false, 1, 0, 0, 0, 0, 0, [])), (12, (.iconst 1, 13, false, false, 0, 0, 0, 0, 1, 0, [])), (13, (.iadd, 14, false, false, 0, 0, 0, 0, 0, 0, [])), (14, (.iaload, 15, false, false, 0, 0, 0, 0, 0, 0, [])), (15, (.i2l, 16, false, false, 0, 0, 0, 0, 0, 0, [])), (16, (.lmul, 17, false, false, 0, 0, 0, 0, 0, 0, [])), (17, (.ldc2_w 452, 20, false, false, 0, 0, 0, 0, 0, 9999, [])), (20, (.ladd, 21, false, false, 0, 0, 0, 0, 0, 0, [])), (21, (.ldc2_w 454, 24, false, false, 0, 0, 0, 0, 0, 10000, [])), (24, (.ldiv, 25, false, false, 0, 0, 0, 0, 0, 0, [])), (25, (.l2i, 26, false, false, 0, 0, 0, 0, 0, 0, [])), (26, (.istore_n 2, 27, false, false, 2, 0, 0, 0, 0, 0, [])), (27, (.aload_n 0, 28, false, false, 0, 0, 0, 0, 0, 0, [])), (28, (.getfield 27, 31, false, false, 15, 1, 1, 0, 0, 0, [])), (31, (.iload_n 1, 32, false, false, 1, 0, 0, 0, 0, 0, [])), (32, (.iaload, 33, false, false, 0, 0, 0, 0, 0, 0, [])), (33, (.aload_n 0, 34, false, false, 0, 0, 0, 0, 0, 0, []))]),
  (65, [(34, (.getfield 27, 37, false, false, 15, 1, 1, 0, 0, 0, [])), (37, (.iload_n 1, 38, false, false, 1, 0, 0, 0, 0, 0, [])), (38, (.iconst 2, 39, false, false, 0, 0, 0, 0, 2, 0, [])), (39, (.iadd, 40, false, false, 0, 0, 0, 0, 0, 0, [])), (40, (.iaload, 41, false, false, 0, 0, 0, 0, 0, 0, [])), (41, (.invokestatic 358, 44, false, false, 0, 2, 1, 6, 0, 0, [])), (44, (.istore_n 3, 45, false, false, 3, 0, 0, 0, 0, 0, [])), (45, (.aload_n 0, 46, false, false, 0, 0, 0, 0, 0, 0, [])), (46, (.iload_n 2, 47, false, false, 2, 0, 0, 0, 0, 0, [])), (47, (.i2l, 48, false, false, 0, 0, 0, 0, 0, 0, [])), (48, (.lneg, 49, false, false, 0, 0, 0, 0, 0, 0, [])), (49, (.iload_n 3, 50, false, false, 3, 0, 0, 0, 0, 0, [])), (50, (.i2l, 51, false, false, 0, 0, 0, 0, 0, 0, [])), (51, (.lsub, 52, false, false, 0, 0, 0, 0, 0, 0, [])), (52, (.invokevirtual 355, 55, false, false, 235, 1, 0, 15, 0, 0, [])), (55, (.aload_n 0, 56, false, false, 0, 0, 0, 0, 0, 0, [])), (56, (.getfield 27, 59, false, false, 15, 1, 1, 0, 0, 0, [])), (59, (.iload_n 1, 60, false, false, 1, 0, 0, 0, 0, 0, [])), (60, (.dup2, 61, false, false, 0, 0, 0, 0, 0, 0, [])), (61, (.iaload, 62, false, false, 0, 0, 0, 0, 0, 0, [])), (62, (.iload_n 3, 63, false, false, 3, 0, 0, 0, 0, 0, [])), (63, (.isub, 64, false, false, 0, 0, 0, 0, 0, 0, [])), (64, (.iastore, 65, false, false, 0, 0, 0, 0, 0, 0, [])), (65, (.return_, 66, false, false, 0, 0, 0, 0, 0, 0, []))])], 0, [])
set_option maxRecDepth 100000 in
theorem v_X12_paysLoan : VE MYT dflT E_X12_paysLoan := ⟨⟨⟨⟨⟨dX12_paysLoan_0, rfl⟩, rfl⟩, ⟨⟨dX12_paysLoan_1, rfl⟩, Or.inl ⟨by decide, _, _, fX12_27⟩⟩, ⟨⟨dX12_paysLoan_4, rfl⟩, rfl⟩, ⟨⟨dX12_paysLoan_5, rfl⟩, trivial⟩, ⟨⟨dX12_paysLoan_6, rfl⟩, trivial⟩, ⟨⟨dX12_paysLoan_7, rfl⟩, rfl⟩, ⟨⟨dX12_paysLoan_8, rfl⟩, Or.inl ⟨by decide, _, _, fX12_27⟩⟩, ⟨⟨dX12_paysLoan_11, rfl⟩, rfl⟩, ⟨⟨dX12_paysLoan_12, rfl⟩, rfl⟩, ⟨⟨dX12_paysLoan_13, rfl⟩, trivial⟩, ⟨⟨dX12_paysLoan_14, rfl⟩, trivial⟩, ⟨⟨dX12_paysLoan_15, rfl⟩, trivial⟩, ⟨⟨dX12_paysLoan_16, rfl⟩, trivial⟩, ⟨⟨dX12_paysLoan_17, rfl⟩, kX12_452⟩, ⟨⟨dX12_paysLoan_20, rfl⟩, trivial⟩, ⟨⟨dX12_paysLoan_21, rfl⟩, kX12_454⟩, ⟨⟨dX12_paysLoan_24, rfl⟩, trivial⟩, ⟨⟨dX12_paysLoan_25, rfl⟩, trivial⟩, ⟨⟨dX12_paysLoan_26, rfl⟩, rfl⟩, ⟨⟨dX12_paysLoan_27, rfl⟩, rfl⟩, ⟨⟨dX12_paysLoan_28, rfl⟩, Or.inl ⟨by decide, _, _, fX12_27⟩⟩, ⟨⟨dX12_paysLoan_31, rfl⟩, rfl⟩, ⟨⟨dX12_paysLoan_32, rfl⟩, trivial⟩, ⟨⟨dX12_paysLoan_33, rfl⟩, rfl⟩, trivial⟩,
  ⟨⟨⟨dX12_paysLoan_34, rfl⟩, Or.inl ⟨by decide, _, _, fX12_27⟩⟩, ⟨⟨dX12_paysLoan_37, rfl⟩, rfl⟩, ⟨⟨dX12_paysLoan_38, rfl⟩, rfl⟩, ⟨⟨dX12_paysLoan_39, rfl⟩, trivial⟩, ⟨⟨dX12_paysLoan_40, rfl⟩, trivial⟩, ⟨⟨dX12_paysLoan_41, rfl⟩, Or.inr (Or.inr (Or.inr (Or.inr (Or.inr (Or.inl ⟨rfl, sX12_358⟩)))))⟩, ⟨⟨dX12_paysLoan_44, rfl⟩, rfl⟩, ⟨⟨dX12_paysLoan_45, rfl⟩, rfl⟩, ⟨⟨dX12_paysLoan_46, rfl⟩, rfl⟩, ⟨⟨dX12_paysLoan_47, rfl⟩, trivial⟩, ⟨⟨dX12_paysLoan_48, rfl⟩, trivial⟩, ⟨⟨dX12_paysLoan_49, rfl⟩, rfl⟩, ⟨⟨dX12_paysLoan_50, rfl⟩, trivial⟩, ⟨⟨dX12_paysLoan_51, rfl⟩, trivial⟩, ⟨⟨dX12_paysLoan_52, rfl⟩, Or.inr ⟨by decide, ⟨_, my_235, sX12_355⟩, fun q => absurd q (by decide)⟩⟩, ⟨⟨dX12_paysLoan_55, rfl⟩, rfl⟩, ⟨⟨dX12_paysLoan_56, rfl⟩, Or.inl ⟨by decide, _, _, fX12_27⟩⟩, ⟨⟨dX12_paysLoan_59, rfl⟩, rfl⟩, ⟨⟨dX12_paysLoan_60, rfl⟩, trivial⟩, ⟨⟨dX12_paysLoan_61, rfl⟩, trivial⟩, ⟨⟨dX12_paysLoan_62, rfl⟩, rfl⟩, ⟨⟨dX12_paysLoan_63, rfl⟩, trivial⟩, ⟨⟨dX12_paysLoan_64, rfl⟩, trivial⟩, ⟨⟨dX12_paysLoan_65, rfl⟩, rfl⟩, trivial⟩, trivial⟩, by decide, Or.inl ⟨rfl, by decide, rfl⟩⟩
set_option maxRecDepth 100000 in
theorem g_X12_paysLoan_0 (S : sT) (call : cT) (n : Nat) (a0 : Nat) (x1 : Int32) (h : pH) : bd S call dflT E_X12_paysLoan (n + 1) 0 [some (.ref a0), some (.int x1), none, none] [] h = (gV h (.ref a0) 15 1 (fun w1 => aI h w1 0 x1 (fun y2 => gV h (.ref a0) 15 1 (fun w3 => aI h w3 0 (x1 + 1) (fun y4 => dvJ 10000 (gV h (.ref a0) 15 1 (fun w5 => aI h w5 0 x1 (fun y6 => gV h (.ref a0) 15 1 (fun w7 => aI h w7 0 (x1 + 2) (fun y8 => rC h (.ref a0) 15 (cU (call 235 [.ref a0, .long ((-((((y2.toInt64 * y4.toInt64) + 9999) / 10000).toInt32).toInt64) - (if y8 < y6 then y8 else y6).toInt64)] h) (fun h9 => gV h9 (.ref a0) 15 1 (fun w10 => nl w10 (aI h9 w10 0 x1 (fun y11 => sI h9 w10 0 x1 (y11 - (if y8 < y6 then y8 else y6)) (fun h12 => some (.inl none, h12))))))))))))))))) := rfl
theorem dX12_charges_0 : decode cX12_charges 0 = .ok (.aload_n 0, 1) := by decide +kernel
theorem dX12_charges_1 : decode cX12_charges 1 = .ok (.invokevirtual 305, 3) := by decide +kernel
theorem dX12_charges_4 : decode cX12_charges 4 = .ok (.aload_n 0, 1) := by decide +kernel
theorem dX12_charges_5 : decode cX12_charges 5 = .ok (.iconst (-1), 1) := by decide +kernel
theorem dX12_charges_6 : decode cX12_charges 6 = .ok (.iconst (-1), 1) := by decide +kernel
theorem dX12_charges_7 : decode cX12_charges 7 = .ok (.invokevirtual 317, 3) := by decide +kernel
theorem dX12_charges_10 : decode cX12_charges 10 = .ok (.iconst 0, 1) := by decide +kernel
theorem dX12_charges_11 : decode cX12_charges 11 = .ok (.istore_n 1, 1) := by decide +kernel
theorem dX12_charges_12 : decode cX12_charges 12 = .ok (.iconst 0, 1) := by decide +kernel
theorem dX12_charges_13 : decode cX12_charges 13 = .ok (.istore_n 2, 1) := by decide +kernel
theorem dX12_charges_14 : decode cX12_charges 14 = .ok (.iload_n 2, 1) := by decide +kernel
theorem dX12_charges_15 : decode cX12_charges 15 = .ok (.aload_n 0, 1) := by decide +kernel
theorem dX12_charges_16 : decode cX12_charges 16 = .ok (.getfield 296, 3) := by decide +kernel
theorem dX12_charges_19 : decode cX12_charges 19 = .ok (.if_icmp .ge 76, 3) := by decide +kernel
theorem dX12_charges_22 : decode cX12_charges 22 = .ok (.iconst 0, 1) := by decide +kernel
theorem dX12_charges_23 : decode cX12_charges 23 = .ok (.istore_n 3, 1) := by decide +kernel
theorem dX12_charges_24 : decode cX12_charges 24 = .ok (.iload_n 3, 1) := by decide +kernel
theorem dX12_charges_25 : decode cX12_charges 25 = .ok (.aload_n 0, 1) := by decide +kernel
theorem dX12_charges_26 : decode cX12_charges 26 = .ok (.aload_n 0, 1) := by decide +kernel
theorem dX12_charges_27 : decode cX12_charges 27 = .ok (.getfield 52, 3) := by decide +kernel
theorem dX12_charges_30 : decode cX12_charges 30 = .ok (.iload_n 2, 1) := by decide +kernel
theorem dX12_charges_31 : decode cX12_charges 31 = .ok (.iaload, 1) := by decide +kernel
theorem dX12_charges_32 : decode cX12_charges 32 = .ok (.invokevirtual 299, 3) := by decide +kernel
theorem dX12_charges_35 : decode cX12_charges 35 = .ok (.if_icmp .ge 54, 3) := by decide +kernel
theorem dX12_charges_38 : decode cX12_charges 38 = .ok (.aload_n 0, 1) := by decide +kernel
theorem dX12_charges_39 : decode cX12_charges 39 = .ok (.iload_n 2, 1) := by decide +kernel
theorem dX12_charges_40 : decode cX12_charges 40 = .ok (.iload_n 3, 1) := by decide +kernel
theorem dX12_charges_41 : decode cX12_charges 41 = .ok (.bipush 15, 2) := by decide +kernel
theorem dX12_charges_43 : decode cX12_charges 43 = .ok (.invokevirtual 308, 3) := by decide +kernel
theorem dX12_charges_46 : decode cX12_charges 46 = .ok (.ifCond .eq 37, 3) := by decide +kernel
theorem dX12_charges_49 : decode cX12_charges 49 = .ok (.aload_n 0, 1) := by decide +kernel
theorem dX12_charges_50 : decode cX12_charges 50 = .ok (.aload_n 0, 1) := by decide +kernel
theorem dX12_charges_51 : decode cX12_charges 51 = .ok (.getfield 52, 3) := by decide +kernel
theorem dX12_charges_54 : decode cX12_charges 54 = .ok (.iload_n 2, 1) := by decide +kernel
theorem dX12_charges_55 : decode cX12_charges 55 = .ok (.iaload, 1) := by decide +kernel
theorem dX12_charges_56 : decode cX12_charges 56 = .ok (.iload_n 3, 1) := by decide +kernel
theorem dX12_charges_57 : decode cX12_charges 57 = .ok (.invokevirtual 320, 3) := by decide +kernel
theorem dX12_charges_60 : decode cX12_charges 60 = .ok (.ifCond .eq 23, 3) := by decide +kernel
theorem dX12_charges_63 : decode cX12_charges 63 = .ok (.iload_n 1, 1) := by decide +kernel
theorem dX12_charges_64 : decode cX12_charges 64 = .ok (.aload_n 0, 1) := by decide +kernel
theorem dX12_charges_65 : decode cX12_charges 65 = .ok (.getfield 27, 3) := by decide +kernel
theorem dX12_charges_68 : decode cX12_charges 68 = .ok (.aload_n 0, 1) := by decide +kernel
theorem dX12_charges_69 : decode cX12_charges 69 = .ok (.getfield 52, 3) := by decide +kernel
theorem dX12_charges_72 : decode cX12_charges 72 = .ok (.iload_n 2, 1) := by decide +kernel
theorem dX12_charges_73 : decode cX12_charges 73 = .ok (.iaload, 1) := by decide +kernel
theorem dX12_charges_74 : decode cX12_charges 74 = .ok (.iload_n 3, 1) := by decide +kernel
theorem dX12_charges_75 : decode cX12_charges 75 = .ok (.invokestatic 275, 3) := by decide +kernel
theorem dX12_charges_78 : decode cX12_charges 78 = .ok (.iconst 1, 1) := by decide +kernel
theorem dX12_charges_79 : decode cX12_charges 79 = .ok (.iadd, 1) := by decide +kernel
theorem dX12_charges_80 : decode cX12_charges 80 = .ok (.iaload, 1) := by decide +kernel
theorem dX12_charges_81 : decode cX12_charges 81 = .ok (.iadd, 1) := by decide +kernel
theorem dX12_charges_82 : decode cX12_charges 82 = .ok (.istore_n 1, 1) := by decide +kernel
theorem dX12_charges_83 : decode cX12_charges 83 = .ok (.iinc 3 1, 3) := by decide +kernel
theorem dX12_charges_86 : decode cX12_charges 86 = .ok (.goto (-62), 3) := by decide +kernel
theorem dX12_charges_89 : decode cX12_charges 89 = .ok (.iinc 2 1, 3) := by decide +kernel
theorem dX12_charges_92 : decode cX12_charges 92 = .ok (.goto (-78), 3) := by decide +kernel
theorem dX12_charges_95 : decode cX12_charges 95 = .ok (.iload_n 1, 1) := by decide +kernel
theorem dX12_charges_96 : decode cX12_charges 96 = .ok (.ireturn, 1) := by decide +kernel
noncomputable def E_X12_charges : mE := (mX12_charges, [(35, [(0, (.aload_n 0, 1, false, false, 0, 0, 0, 0, 0, 0, [])), (1, (.invokevirtual 305, 4, false, false, 140, 0, 0, 15, 0, 0, [])), (4, (.aload_n 0, 5, false, false, 0, 0, 0, 0, 0, 0, [])), (5, (.iconst (-1), 6, false, false, 0, 0, 0, 0, -1, 0, [])), (6, (.iconst (-1), 7, false, false, 0, 0, 0, 0, -1, 0, [])), (7, (.invokevirtual 317, 10, false, false, 238, 2, 0, 15, 0, 0, [])), (10, (.iconst 0, 11, false, false, 0, 0, 0, 0, 0, 0, [])), (11, (.istore_n 1, 12, false, false, 1, 0, 0, 0, 0, 0, [])), (12, (.iconst 0, 13, false, false, 0, 0, 0, 0, 0, 0, [])), (13, (.istore_n 2, 14, true, false, 2, 0, 0, 0, 0, 0, [])), (14, (.iload_n 2, 15, false, false, 2, 0, 0, 0, 0, 0, [])), (15, (.aload_n 0, 16, false, false, 0, 0, 0, 0, 0, 0, [])), (16, (.getfield 296, 19, false, false, 15, 16, 0, 0, 0, 0, [])), (19, (.if_icmp .ge 76, 22, false, false, 95, 0, 0, 0, 0, 0, [])), (22, (.iconst 0, 23, false, false, 0, 0, 0, 0, 0, 0, [])), (23, (.istore_n 3, 24, true, false, 3, 0, 0, 0, 0, 0, [])), (24, (.iload_n 3, 25, false, false, 3, 0, 0, 0, 0, 0, [])), (25, (.aload_n 0, 26, false, false, 0, 0, 0, 0, 0, 0, [])), (26, (.aload_n 0, 27, false, false, 0, 0, 0, 0, 0, 0, [])), (27, (.getfield 52, 30, false, false, 15, 15, 1, 0, 0, 0, [])), (30, (.iload_n 2, 31, false, false, 2, 0, 0, 0, 0, 0, [])), (31, (.iaload, 32, false, false, 0, 0, 0, 0, 0, 0, [])), (32, (.invokevirtual 299, 35, false, false, 141, 1, 1, 15, 0, 0, [])), (35, (.if_icmp .ge 54, 38, false, false, 89, 0, 0, 0, 0, 0, []))]),
  (78, [(38, (.aload_n 0, 39, false, false, 0, 0, 0, 0, 0, 0, [])), (39, (.iload_n 2, 40, false, false, 2, 0, 0, 0, 0, 0, [])), (40, (.iload_n 3, 41, false, false, 3, 0, 0, 0, 0, 0, [])), (41, (.bipush 15, 43, false, false, 0, 0, 0, 0, 15, 0, [])), (43, (.invokevirtual 308, 46, false, false, 143, 3, 1, 15, 0, 0, [])), (46, (.ifCond .eq 37, 49, false, false, 83, 0, 0, 0, 0, 0, [])), (49, (.aload_n 0, 50, false, false, 0, 0, 0, 0, 0, 0, [])), (50, (.aload_n 0, 51, false, false, 0, 0, 0, 0, 0, 0, [])), (51, (.getfield 52, 54, false, false, 15, 15, 1, 0, 0, 0, [])), (54, (.iload_n 2, 55, false, false, 2, 0, 0, 0, 0, 0, [])), (55, (.iaload, 56, false, false, 0, 0, 0, 0, 0, 0, [])), (56, (.iload_n 3, 57, false, false, 3, 0, 0, 0, 0, 0, [])), (57, (.invokevirtual 320, 60, false, false, 239, 2, 1, 15, 0, 0, [])), (60, (.ifCond .eq 23, 63, false, false, 83, 0, 0, 0, 0, 0, [])), (63, (.iload_n 1, 64, false, false, 1, 0, 0, 0, 0, 0, [])), (64, (.aload_n 0, 65, false, false, 0, 0, 0, 0, 0, 0, [])), (65, (.getfield 27, 68, false, false, 15, 1, 1, 0, 0, 0, [])), (68, (.aload_n 0, 69, false, false, 0, 0, 0, 0, 0, 0, [])), (69, (.getfield 52, 72, false, false, 15, 15, 1, 0, 0, 0, [])), (72, (.iload_n 2, 73, false, false, 2, 0, 0, 0, 0, 0, [])), (73, (.iaload, 74, false, false, 0, 0, 0, 0, 0, 0, [])), (74, (.iload_n 3, 75, false, false, 3, 0, 0, 0, 0, 0, [])), (75, (.invokestatic 275, 78, false, false, 117, 2, 1, 0, 0, 0, [])), (78, (.iconst 1, 79, false, false, 0, 0, 0, 0, 1, 0, []))]),
  (96, [(79, (.iadd, 80, false, false, 0, 0, 0, 0, 0, 0, [])), (80, (.iaload, 81, false, false, 0, 0, 0, 0, 0, 0, [])), (81, (.iadd, 82, false, false, 0, 0, 0, 0, 0, 0, [])), (82, (.istore_n 1, 83, false, false, 1, 0, 0, 0, 0, 0, [])), (83, (.iinc 3 1, 86, false, false, 3, 0, 0, 0, 1, 0, [])), (86, (.goto (-62), 89, false, true, 24, 0, 0, 0, 0, 0, [])), (89, (.iinc 2 1, 92, false, false, 2, 0, 0, 0, 1, 0, [])), (92, (.goto (-78), 95, false, true, 14, 0, 0, 0, 0, 0, [])), (95, (.iload_n 1, 96, false, false, 1, 0, 0, 0, 0, 0, [])), (96, (.ireturn, 97, false, false, 0, 0, 0, 0, 0, 0, []))])], 0, [])
set_option maxRecDepth 100000 in
theorem v_X12_charges : VE MYT dflT E_X12_charges := ⟨⟨⟨⟨⟨dX12_charges_0, rfl⟩, rfl⟩, ⟨⟨dX12_charges_1, rfl⟩, Or.inr ⟨by decide, ⟨_, my_140, sX12_305⟩, fun q => absurd q (by decide)⟩⟩, ⟨⟨dX12_charges_4, rfl⟩, rfl⟩, ⟨⟨dX12_charges_5, rfl⟩, rfl⟩, ⟨⟨dX12_charges_6, rfl⟩, rfl⟩, ⟨⟨dX12_charges_7, rfl⟩, Or.inr ⟨by decide, ⟨_, my_238, sX12_317⟩, fun q => absurd q (by decide)⟩⟩, ⟨⟨dX12_charges_10, rfl⟩, rfl⟩, ⟨⟨dX12_charges_11, rfl⟩, rfl⟩, ⟨⟨dX12_charges_12, rfl⟩, rfl⟩, ⟨⟨dX12_charges_13, rfl⟩, rfl⟩, ⟨⟨dX12_charges_14, rfl⟩, rfl⟩, ⟨⟨dX12_charges_15, rfl⟩, rfl⟩, ⟨⟨dX12_charges_16, rfl⟩, Or.inl ⟨by decide, _, _, fX12_296⟩⟩, ⟨⟨dX12_charges_19, rfl⟩, rfl⟩, ⟨⟨dX12_charges_22, rfl⟩, rfl⟩, ⟨⟨dX12_charges_23, rfl⟩, rfl⟩, ⟨⟨dX12_charges_24, rfl⟩, rfl⟩, ⟨⟨dX12_charges_25, rfl⟩, rfl⟩, ⟨⟨dX12_charges_26, rfl⟩, rfl⟩, ⟨⟨dX12_charges_27, rfl⟩, Or.inl ⟨by decide, _, _, fX12_52⟩⟩, ⟨⟨dX12_charges_30, rfl⟩, rfl⟩, ⟨⟨dX12_charges_31, rfl⟩, trivial⟩, ⟨⟨dX12_charges_32, rfl⟩, Or.inr ⟨by decide, ⟨_, my_141, sX12_299⟩, fun q => absurd q (by decide)⟩⟩, ⟨⟨dX12_charges_35, rfl⟩, rfl⟩, trivial⟩,
  ⟨⟨⟨dX12_charges_38, rfl⟩, rfl⟩, ⟨⟨dX12_charges_39, rfl⟩, rfl⟩, ⟨⟨dX12_charges_40, rfl⟩, rfl⟩, ⟨⟨dX12_charges_41, rfl⟩, rfl⟩, ⟨⟨dX12_charges_43, rfl⟩, Or.inr ⟨by decide, ⟨_, my_143, sX12_308⟩, fun q => absurd q (by decide)⟩⟩, ⟨⟨dX12_charges_46, rfl⟩, rfl⟩, ⟨⟨dX12_charges_49, rfl⟩, rfl⟩, ⟨⟨dX12_charges_50, rfl⟩, rfl⟩, ⟨⟨dX12_charges_51, rfl⟩, Or.inl ⟨by decide, _, _, fX12_52⟩⟩, ⟨⟨dX12_charges_54, rfl⟩, rfl⟩, ⟨⟨dX12_charges_55, rfl⟩, trivial⟩, ⟨⟨dX12_charges_56, rfl⟩, rfl⟩, ⟨⟨dX12_charges_57, rfl⟩, Or.inr ⟨by decide, ⟨_, my_239, sX12_320⟩, fun q => absurd q (by decide)⟩⟩, ⟨⟨dX12_charges_60, rfl⟩, rfl⟩, ⟨⟨dX12_charges_63, rfl⟩, rfl⟩, ⟨⟨dX12_charges_64, rfl⟩, rfl⟩, ⟨⟨dX12_charges_65, rfl⟩, Or.inl ⟨by decide, _, _, fX12_27⟩⟩, ⟨⟨dX12_charges_68, rfl⟩, rfl⟩, ⟨⟨dX12_charges_69, rfl⟩, Or.inl ⟨by decide, _, _, fX12_52⟩⟩, ⟨⟨dX12_charges_72, rfl⟩, rfl⟩, ⟨⟨dX12_charges_73, rfl⟩, trivial⟩, ⟨⟨dX12_charges_74, rfl⟩, rfl⟩, ⟨⟨dX12_charges_75, rfl⟩, Or.inl ⟨rfl, _, my_117, sX12_275⟩⟩, ⟨⟨dX12_charges_78, rfl⟩, rfl⟩, trivial⟩,
  ⟨⟨⟨dX12_charges_79, rfl⟩, trivial⟩, ⟨⟨dX12_charges_80, rfl⟩, trivial⟩, ⟨⟨dX12_charges_81, rfl⟩, trivial⟩, ⟨⟨dX12_charges_82, rfl⟩, rfl⟩, ⟨⟨dX12_charges_83, rfl⟩, ⟨rfl, rfl⟩⟩, ⟨⟨dX12_charges_86, rfl⟩, rfl⟩, ⟨⟨dX12_charges_89, rfl⟩, ⟨rfl, rfl⟩⟩, ⟨⟨dX12_charges_92, rfl⟩, rfl⟩, ⟨⟨dX12_charges_95, rfl⟩, rfl⟩, ⟨⟨dX12_charges_96, rfl⟩, Or.inl ⟨rfl, rfl⟩⟩, trivial⟩, trivial⟩, by decide, Or.inl ⟨rfl, by decide, rfl⟩⟩
set_option maxRecDepth 100000 in
theorem g_X12_charges_0 (S : sT) (call : cT) (n : Nat) (a0 : Nat) (h : pH) : bd S call dflT E_X12_charges (n + 1) 0 [some (.ref a0), none, none, none] [] h = (rC h (.ref a0) 15 (cU (call 140 [.ref a0] h) (fun h1 => rC h1 (.ref a0) 15 (cU (call 238 [.ref a0, .int (-1), .int (-1)] h1) (fun h2 => bd S call dflT E_X12_charges n 14 [some (.ref a0), some (.int 0), some (.int 0), none] [] h2))))) := rfl
set_option maxRecDepth 100000 in
theorem g_X12_charges_14 (S : sT) (call : cT) (n : Nat) (a0 : Nat) (x1 : Int32) (x2 : Int32) (o3 : Option Value) (h : pH) : bd S call dflT E_X12_charges (n + 1) 14 [some (.ref a0), some (.int x1), some (.int x2), o3] [] h = (gI h (.ref a0) 15 16 (fun y1 => (if y1 ≤ x2 then some (.inl (some (.int x1)), h) else bd S call dflT E_X12_charges n 24 [some (.ref a0), some (.int x1), some (.int x2), some (.int 0)] [] h))) := rfl
set_option maxRecDepth 100000 in
theorem g_X12_charges_24 (S : sT) (call : cT) (n : Nat) (a0 : Nat) (x1 : Int32) (x2 : Int32) (x3 : Int32) (h : pH) : bd S call dflT E_X12_charges (n + 1) 24 [some (.ref a0), some (.int x1), some (.int x2), some (.int x3)] [] h = (gV h (.ref a0) 15 15 (fun w1 => aI h w1 0 x2 (fun y2 => rC h (.ref a0) 15 (cI (call 141 [.ref a0, .int y2] h) (fun y4 h3 => (if y4 ≤ x3 then bd S call dflT E_X12_charges n 14 [some (.ref a0), some (.int x1), some (.int (x2 + 1)), some (.int x3)] [] h3 else rC h3 (.ref a0) 15 (cI (call 143 [.ref a0, .int x2, .int x3, .int 15] h3) (fun y6 h5 => (if y6 = 0 then bd S call dflT E_X12_charges n 24 [some (.ref a0), some (.int x1), some (.int x2), some (.int (x3 + 1))] [] h5 else gV h5 (.ref a0) 15 15 (fun w7 => aI h5 w7 0 x2 (fun y8 => rC h5 (.ref a0) 15 (cI (call 239 [.ref a0, .int y8, .int x3] h5) (fun y10 h9 => (if y10 = 0 then bd S call dflT E_X12_charges n 24 [some (.ref a0), some (.int x1), some (.int x2), some (.int (x3 + 1))] [] h9 else gV h9 (.ref a0) 15 1 (fun w11 => gV h9 (.ref a0) 15 15 (fun w12 => aI h9 w12 0 x2 (fun y13 => cI (call 117 [.int y13, .int x3] h9) (fun y15 h14 => aI h14 w11 0 (y15 + 1) (fun y16 => bd S call dflT E_X12_charges n 24 [some (.ref a0), some (.int (x1 + y16)), some (.int x2), some (.int (x3 + 1))] [] h14))))))))))))))))))) := rfl
theorem dX12_owedTo_0 : decode cX12_owedTo 0 = .ok (.lconst 0, 1) := by decide +kernel
theorem dX12_owedTo_1 : decode cX12_owedTo 1 = .ok (.lstore_n 2, 1) := by decide +kernel
theorem dX12_owedTo_2 : decode cX12_owedTo 2 = .ok (.iconst 0, 1) := by decide +kernel
theorem dX12_owedTo_3 : decode cX12_owedTo 3 = .ok (.istore 4, 2) := by decide +kernel
theorem dX12_owedTo_5 : decode cX12_owedTo 5 = .ok (.iload 4, 2) := by decide +kernel
theorem dX12_owedTo_7 : decode cX12_owedTo 7 = .ok (.aload_n 0, 1) := by decide +kernel
theorem dX12_owedTo_8 : decode cX12_owedTo 8 = .ok (.bipush 12, 2) := by decide +kernel
theorem dX12_owedTo_10 : decode cX12_owedTo 10 = .ok (.iload_n 1, 1) := by decide +kernel
theorem dX12_owedTo_11 : decode cX12_owedTo 11 = .ok (.iadd, 1) := by decide +kernel
theorem dX12_owedTo_12 : decode cX12_owedTo 12 = .ok (.invokevirtual 299, 3) := by decide +kernel
theorem dX12_owedTo_15 : decode cX12_owedTo 15 = .ok (.if_icmp .ge 144, 3) := by decide +kernel
theorem dX12_owedTo_18 : decode cX12_owedTo 18 = .ok (.bipush 12, 2) := by decide +kernel
theorem dX12_owedTo_20 : decode cX12_owedTo 20 = .ok (.iload_n 1, 1) := by decide +kernel
theorem dX12_owedTo_21 : decode cX12_owedTo 21 = .ok (.iadd, 1) := by decide +kernel
theorem dX12_owedTo_22 : decode cX12_owedTo 22 = .ok (.iload 4, 2) := by decide +kernel
theorem dX12_owedTo_24 : decode cX12_owedTo 24 = .ok (.invokestatic 275, 3) := by decide +kernel
theorem dX12_owedTo_27 : decode cX12_owedTo 27 = .ok (.istore 5, 2) := by decide +kernel
theorem dX12_owedTo_29 : decode cX12_owedTo 29 = .ok (.iconst 0, 1) := by decide +kernel
theorem dX12_owedTo_30 : decode cX12_owedTo 30 = .ok (.istore 6, 2) := by decide +kernel
theorem dX12_owedTo_32 : decode cX12_owedTo 32 = .ok (.iload 6, 2) := by decide +kernel
theorem dX12_owedTo_34 : decode cX12_owedTo 34 = .ok (.bipush 48, 2) := by decide +kernel
theorem dX12_owedTo_36 : decode cX12_owedTo 36 = .ok (.if_icmp .ge 117, 3) := by decide +kernel
theorem dX12_owedTo_39 : decode cX12_owedTo 39 = .ok (.aload_n 0, 1) := by decide +kernel
theorem dX12_owedTo_40 : decode cX12_owedTo 40 = .ok (.iload 6, 2) := by decide +kernel
theorem dX12_owedTo_42 : decode cX12_owedTo 42 = .ok (.bipush 10, 2) := by decide +kernel
theorem dX12_owedTo_44 : decode cX12_owedTo 44 = .ok (.invokevirtual 79, 3) := by decide +kernel
theorem dX12_owedTo_47 : decode cX12_owedTo 47 = .ok (.iload_n 1, 1) := by decide +kernel
theorem dX12_owedTo_48 : decode cX12_owedTo 48 = .ok (.if_icmp .eq 6, 3) := by decide +kernel
theorem dX12_owedTo_51 : decode cX12_owedTo 51 = .ok (.goto 96, 3) := by decide +kernel
theorem dX12_owedTo_54 : decode cX12_owedTo 54 = .ok (.aload_n 0, 1) := by decide +kernel
theorem dX12_owedTo_55 : decode cX12_owedTo 55 = .ok (.getfield 27, 3) := by decide +kernel
theorem dX12_owedTo_58 : decode cX12_owedTo 58 = .ok (.iload 5, 2) := by decide +kernel
theorem dX12_owedTo_60 : decode cX12_owedTo 60 = .ok (.iaload, 1) := by decide +kernel
theorem dX12_owedTo_61 : decode cX12_owedTo 61 = .ok (.iconst 3, 1) := by decide +kernel
theorem dX12_owedTo_62 : decode cX12_owedTo 62 = .ok (.if_icmp .ne 41, 3) := by decide +kernel
theorem dX12_owedTo_65 : decode cX12_owedTo 65 = .ok (.lload_n 2, 1) := by decide +kernel
theorem dX12_owedTo_66 : decode cX12_owedTo 66 = .ok (.aload_n 0, 1) := by decide +kernel
theorem dX12_owedTo_67 : decode cX12_owedTo 67 = .ok (.getfield 27, 3) := by decide +kernel
theorem dX12_owedTo_70 : decode cX12_owedTo 70 = .ok (.iload 5, 2) := by decide +kernel
theorem dX12_owedTo_72 : decode cX12_owedTo 72 = .ok (.iconst 1, 1) := by decide +kernel
theorem dX12_owedTo_73 : decode cX12_owedTo 73 = .ok (.iadd, 1) := by decide +kernel
theorem dX12_owedTo_74 : decode cX12_owedTo 74 = .ok (.iaload, 1) := by decide +kernel
theorem dX12_owedTo_75 : decode cX12_owedTo 75 = .ok (.i2l, 1) := by decide +kernel
theorem dX12_owedTo_76 : decode cX12_owedTo 76 = .ok (.aload_n 0, 1) := by decide +kernel
theorem dX12_owedTo_77 : decode cX12_owedTo 77 = .ok (.iload 6, 2) := by decide +kernel
theorem dX12_owedTo_79 : decode cX12_owedTo 79 = .ok (.aload_n 0, 1) := by decide +kernel
theorem dX12_owedTo_80 : decode cX12_owedTo 80 = .ok (.getfield 27, 3) := by decide +kernel
theorem dX12_owedTo_83 : decode cX12_owedTo 83 = .ok (.iload 5, 2) := by decide +kernel
theorem dX12_owedTo_85 : decode cX12_owedTo 85 = .ok (.iconst 2, 1) := by decide +kernel
theorem dX12_owedTo_86 : decode cX12_owedTo 86 = .ok (.iadd, 1) := by decide +kernel
theorem dX12_owedTo_87 : decode cX12_owedTo 87 = .ok (.iaload, 1) := by decide +kernel
theorem dX12_owedTo_88 : decode cX12_owedTo 88 = .ok (.ifCond .ne 7, 3) := by decide +kernel
theorem dX12_owedTo_91 : decode cX12_owedTo 91 = .ok (.iconst 5, 1) := by decide +kernel
theorem dX12_owedTo_92 : decode cX12_owedTo 92 = .ok (.goto 4, 3) := by decide +kernel
theorem dX12_owedTo_95 : decode cX12_owedTo 95 = .ok (.iconst 4, 1) := by decide +kernel
theorem dX12_owedTo_96 : decode cX12_owedTo 96 = .ok (.invokevirtual 79, 3) := by decide +kernel
theorem dX12_owedTo_99 : decode cX12_owedTo 99 = .ok (.i2l, 1) := by decide +kernel
theorem dX12_owedTo_100 : decode cX12_owedTo 100 = .ok (.lmul, 1) := by decide +kernel
theorem dX12_owedTo_101 : decode cX12_owedTo 101 = .ok (.ladd, 1) := by decide +kernel
theorem dX12_owedTo_102 : decode cX12_owedTo 102 = .ok (.lstore_n 2, 1) := by decide +kernel
theorem dX12_owedTo_103 : decode cX12_owedTo 103 = .ok (.aload_n 0, 1) := by decide +kernel
theorem dX12_owedTo_104 : decode cX12_owedTo 104 = .ok (.iload 6, 2) := by decide +kernel
theorem dX12_owedTo_106 : decode cX12_owedTo 106 = .ok (.iload_n 1, 1) := by decide +kernel
theorem dX12_owedTo_107 : decode cX12_owedTo 107 = .ok (.invokevirtual 317, 3) := by decide +kernel
theorem dX12_owedTo_110 : decode cX12_owedTo 110 = .ok (.aload_n 0, 1) := by decide +kernel
theorem dX12_owedTo_111 : decode cX12_owedTo 111 = .ok (.getfield 27, 3) := by decide +kernel
theorem dX12_owedTo_114 : decode cX12_owedTo 114 = .ok (.iload 5, 2) := by decide +kernel
theorem dX12_owedTo_116 : decode cX12_owedTo 116 = .ok (.iaload, 1) := by decide +kernel
theorem dX12_owedTo_117 : decode cX12_owedTo 117 = .ok (.iconst 4, 1) := by decide +kernel
theorem dX12_owedTo_118 : decode cX12_owedTo 118 = .ok (.if_icmp .ne 29, 3) := by decide +kernel
theorem dX12_owedTo_121 : decode cX12_owedTo 121 = .ok (.aload_n 0, 1) := by decide +kernel
theorem dX12_owedTo_122 : decode cX12_owedTo 122 = .ok (.bipush 12, 2) := by decide +kernel
theorem dX12_owedTo_124 : decode cX12_owedTo 124 = .ok (.iload_n 1, 1) := by decide +kernel
theorem dX12_owedTo_125 : decode cX12_owedTo 125 = .ok (.iadd, 1) := by decide +kernel
theorem dX12_owedTo_126 : decode cX12_owedTo 126 = .ok (.iload 4, 2) := by decide +kernel
theorem dX12_owedTo_128 : decode cX12_owedTo 128 = .ok (.invokevirtual 320, 3) := by decide +kernel
theorem dX12_owedTo_131 : decode cX12_owedTo 131 = .ok (.ifCond .eq 16, 3) := by decide +kernel
theorem dX12_owedTo_134 : decode cX12_owedTo 134 = .ok (.lload_n 2, 1) := by decide +kernel
theorem dX12_owedTo_135 : decode cX12_owedTo 135 = .ok (.aload_n 0, 1) := by decide +kernel
theorem dX12_owedTo_136 : decode cX12_owedTo 136 = .ok (.getfield 27, 3) := by decide +kernel
theorem dX12_owedTo_139 : decode cX12_owedTo 139 = .ok (.iload 5, 2) := by decide +kernel
theorem dX12_owedTo_141 : decode cX12_owedTo 141 = .ok (.iconst 1, 1) := by decide +kernel
theorem dX12_owedTo_142 : decode cX12_owedTo 142 = .ok (.iadd, 1) := by decide +kernel
theorem dX12_owedTo_143 : decode cX12_owedTo 143 = .ok (.iaload, 1) := by decide +kernel
theorem dX12_owedTo_144 : decode cX12_owedTo 144 = .ok (.i2l, 1) := by decide +kernel
theorem dX12_owedTo_145 : decode cX12_owedTo 145 = .ok (.lsub, 1) := by decide +kernel
theorem dX12_owedTo_146 : decode cX12_owedTo 146 = .ok (.lstore_n 2, 1) := by decide +kernel
theorem dX12_owedTo_147 : decode cX12_owedTo 147 = .ok (.iinc 6 1, 3) := by decide +kernel
theorem dX12_owedTo_150 : decode cX12_owedTo 150 = .ok (.goto (-118), 3) := by decide +kernel
theorem dX12_owedTo_153 : decode cX12_owedTo 153 = .ok (.iinc 4 1, 3) := by decide +kernel
theorem dX12_owedTo_156 : decode cX12_owedTo 156 = .ok (.goto (-151), 3) := by decide +kernel
theorem dX12_owedTo_159 : decode cX12_owedTo 159 = .ok (.lconst 0, 1) := by decide +kernel
theorem dX12_owedTo_160 : decode cX12_owedTo 160 = .ok (.lload_n 2, 1) := by decide +kernel
theorem dX12_owedTo_161 : decode cX12_owedTo 161 = .ok (.invokestatic 17, 3) := by decide +kernel
theorem dX12_owedTo_164 : decode cX12_owedTo 164 = .ok (.invokestatic 345, 3) := by decide +kernel
theorem dX12_owedTo_167 : decode cX12_owedTo 167 = .ok (.ireturn, 1) := by decide +kernel
noncomputable def E_X12_owedTo : mE := (mX12_owedTo, [(40, [(0, (.lconst 0, 1, false, false, 0, 0, 0, 0, 0, 0, [])), (1, (.lstore_n 2, 2, false, false, 2, 3, 0, 0, 0, 0, [])), (2, (.iconst 0, 3, false, false, 0, 0, 0, 0, 0, 0, [])), (3, (.istore 4, 5, true, false, 4, 0, 0, 0, 0, 0, [])), (5, (.iload 4, 7, false, false, 4, 0, 0, 0, 0, 0, [])), (7, (.aload_n 0, 8, false, false, 0, 0, 0, 0, 0, 0, [])), (8, (.bipush 12, 10, false, false, 0, 0, 0, 0, 12, 0, [])), (10, (.iload_n 1, 11, false, false, 1, 0, 0, 0, 0, 0, [])), (11, (.iadd, 12, false, false, 0, 0, 0, 0, 0, 0, [])), (12, (.invokevirtual 299, 15, false, false, 141, 1, 1, 15, 0, 0, [])), (15, (.if_icmp .ge 144, 18, false, false, 159, 0, 0, 0, 0, 0, [])), (18, (.bipush 12, 20, false, false, 0, 0, 0, 0, 12, 0, [])), (20, (.iload_n 1, 21, false, false, 1, 0, 0, 0, 0, 0, [])), (21, (.iadd, 22, false, false, 0, 0, 0, 0, 0, 0, [])), (22, (.iload 4, 24, false, false, 4, 0, 0, 0, 0, 0, [])), (24, (.invokestatic 275, 27, false, false, 117, 2, 1, 0, 0, 0, [])), (27, (.istore 5, 29, false, false, 5, 0, 0, 0, 0, 0, [])), (29, (.iconst 0, 30, false, false, 0, 0, 0, 0, 0, 0, [])), (30, (.istore 6, 32, true, false, 6, 0, 0, 0, 0, 0, [])), (32, (.iload 6, 34, false, false, 6, 0, 0, 0, 0, 0, [])), (34, (.bipush 48, 36, false, false, 0, 0, 0, 0, 48, 0, [])), (36, (.if_icmp .ge 117, 39, false, false, 153, 0, 0, 0, 0, 0, [])), (39, (.aload_n 0, 40, false, false, 0, 0, 0, 0, 0, 0, [])), (40, (.iload 6, 42, false, false, 6, 0, 0, 0, 0, 0, []))]),
  (83, [(42, (.bipush 10, 44, false, false, 0, 0, 0, 0, 10, 0, [])), (44, (.invokevirtual 79, 47, false, false, 31, 2, 1, 15, 0, 0, [])), (47, (.iload_n 1, 48, false, false, 1, 0, 0, 0, 0, 0, [])), (48, (.if_icmp .eq 6, 51, false, false, 54, 0, 0, 0, 0, 0, [])), (51, (.goto 96, 54, false, false, 147, 0, 0, 0, 0, 0, [])), (54, (.aload_n 0, 55, false, false, 0, 0, 0, 0, 0, 0, [])), (55, (.getfield 27, 58, false, false, 15, 1, 1, 0, 0, 0, [])), (58, (.iload 5, 60, false, false, 5, 0, 0, 0, 0, 0, [])), (60, (.iaload, 61, false, false, 0, 0, 0, 0, 0, 0, [])), (61, (.iconst 3, 62, false, false, 0, 0, 0, 0, 3, 0, [])), (62, (.if_icmp .ne 41, 65, false, true, 103, 0, 0, 0, 0, 0, [])), (65, (.lload_n 2, 66, false, false, 2, 0, 0, 0, 0, 0, [])), (66, (.aload_n 0, 67, false, false, 0, 0, 0, 0, 0, 0, [])), (67, (.getfield 27, 70, false, false, 15, 1, 1, 0, 0, 0, [])), (70, (.iload 5, 72, false, false, 5, 0, 0, 0, 0, 0, [])), (72, (.iconst 1, 73, false, false, 0, 0, 0, 0, 1, 0, [])), (73, (.iadd, 74, false, false, 0, 0, 0, 0, 0, 0, [])), (74, (.iaload, 75, false, false, 0, 0, 0, 0, 0, 0, [])), (75, (.i2l, 76, false, false, 0, 0, 0, 0, 0, 0, [])), (76, (.aload_n 0, 77, false, false, 0, 0, 0, 0, 0, 0, [])), (77, (.iload 6, 79, false, false, 6, 0, 0, 0, 0, 0, [])), (79, (.aload_n 0, 80, false, false, 0, 0, 0, 0, 0, 0, [])), (80, (.getfield 27, 83, false, false, 15, 1, 1, 0, 0, 0, [])), (83, (.iload 5, 85, false, false, 5, 0, 0, 0, 0, 0, []))]),
  (122, [(85, (.iconst 2, 86, false, false, 0, 0, 0, 0, 2, 0, [])), (86, (.iadd, 87, false, false, 0, 0, 0, 0, 0, 0, [])), (87, (.iaload, 88, false, false, 0, 0, 0, 0, 0, 0, [])), (88, (.ifCond .ne 7, 91, false, false, 95, 0, 0, 0, 0, 0, [])), (91, (.iconst 5, 92, false, false, 0, 0, 0, 0, 5, 0, [])), (92, (.goto 4, 95, false, false, 96, 0, 0, 0, 0, 0, [])), (95, (.iconst 4, 96, false, false, 0, 0, 0, 0, 4, 0, [])), (96, (.invokevirtual 79, 99, false, false, 31, 2, 1, 15, 0, 0, [])), (99, (.i2l, 100, false, false, 0, 0, 0, 0, 0, 0, [])), (100, (.lmul, 101, false, false, 0, 0, 0, 0, 0, 0, [])), (101, (.ladd, 102, false, false, 0, 0, 0, 0, 0, 0, [])), (102, (.lstore_n 2, 103, true, false, 2, 3, 0, 0, 0, 0, [])), (103, (.aload_n 0, 104, false, false, 0, 0, 0, 0, 0, 0, [])), (104, (.iload 6, 106, false, false, 6, 0, 0, 0, 0, 0, [])), (106, (.iload_n 1, 107, false, false, 1, 0, 0, 0, 0, 0, [])), (107, (.invokevirtual 317, 110, false, false, 238, 2, 0, 15, 0, 0, [])), (110, (.aload_n 0, 111, false, false, 0, 0, 0, 0, 0, 0, [])), (111, (.getfield 27, 114, false, false, 15, 1, 1, 0, 0, 0, [])), (114, (.iload 5, 116, false, false, 5, 0, 0, 0, 0, 0, [])), (116, (.iaload, 117, false, false, 0, 0, 0, 0, 0, 0, [])), (117, (.iconst 4, 118, false, false, 0, 0, 0, 0, 4, 0, [])), (118, (.if_icmp .ne 29, 121, false, false, 147, 0, 0, 0, 0, 0, [])), (121, (.aload_n 0, 122, false, false, 0, 0, 0, 0, 0, 0, [])), (122, (.bipush 12, 124, false, false, 0, 0, 0, 0, 12, 0, []))]),
  (167, [(124, (.iload_n 1, 125, false, false, 1, 0, 0, 0, 0, 0, [])), (125, (.iadd, 126, false, false, 0, 0, 0, 0, 0, 0, [])), (126, (.iload 4, 128, false, false, 4, 0, 0, 0, 0, 0, [])), (128, (.invokevirtual 320, 131, false, false, 239, 2, 1, 15, 0, 0, [])), (131, (.ifCond .eq 16, 134, false, false, 147, 0, 0, 0, 0, 0, [])), (134, (.lload_n 2, 135, false, false, 2, 0, 0, 0, 0, 0, [])), (135, (.aload_n 0, 136, false, false, 0, 0, 0, 0, 0, 0, [])), (136, (.getfield 27, 139, false, false, 15, 1, 1, 0, 0, 0, [])), (139, (.iload 5, 141, false, false, 5, 0, 0, 0, 0, 0, [])), (141, (.iconst 1, 142, false, false, 0, 0, 0, 0, 1, 0, [])), (142, (.iadd, 143, false, false, 0, 0, 0, 0, 0, 0, [])), (143, (.iaload, 144, false, false, 0, 0, 0, 0, 0, 0, [])), (144, (.i2l, 145, false, false, 0, 0, 0, 0, 0, 0, [])), (145, (.lsub, 146, false, false, 0, 0, 0, 0, 0, 0, [])), (146, (.lstore_n 2, 147, false, false, 2, 3, 0, 0, 0, 0, [])), (147, (.iinc 6 1, 150, false, false, 6, 0, 0, 0, 1, 0, [])), (150, (.goto (-118), 153, false, true, 32, 0, 0, 0, 0, 0, [])), (153, (.iinc 4 1, 156, false, false, 4, 0, 0, 0, 1, 0, [])), (156, (.goto (-151), 159, false, true, 5, 0, 0, 0, 0, 0, [])), (159, (.lconst 0, 160, false, false, 0, 0, 0, 0, 0, 0, [])), (160, (.lload_n 2, 161, false, false, 2, 0, 0, 0, 0, 0, [])), (161, (.invokestatic 17, 164, false, false, 0, 2, 2, 7, 0, 0, [])), (164, (.invokestatic 345, 167, false, false, 150, 1, 1, 0, 0, 0, [])), (167, (.ireturn, 168, false, false, 0, 0, 0, 0, 0, 0, []))])], 0, [])
set_option maxRecDepth 100000 in
theorem v_X12_owedTo : VE MYT dflT E_X12_owedTo := ⟨⟨⟨⟨⟨dX12_owedTo_0, rfl⟩, rfl⟩, ⟨⟨dX12_owedTo_1, rfl⟩, ⟨rfl, rfl⟩⟩, ⟨⟨dX12_owedTo_2, rfl⟩, rfl⟩, ⟨⟨dX12_owedTo_3, rfl⟩, rfl⟩, ⟨⟨dX12_owedTo_5, rfl⟩, rfl⟩, ⟨⟨dX12_owedTo_7, rfl⟩, rfl⟩, ⟨⟨dX12_owedTo_8, rfl⟩, rfl⟩, ⟨⟨dX12_owedTo_10, rfl⟩, rfl⟩, ⟨⟨dX12_owedTo_11, rfl⟩, trivial⟩, ⟨⟨dX12_owedTo_12, rfl⟩, Or.inr ⟨by decide, ⟨_, my_141, sX12_299⟩, fun q => absurd q (by decide)⟩⟩, ⟨⟨dX12_owedTo_15, rfl⟩, rfl⟩, ⟨⟨dX12_owedTo_18, rfl⟩, rfl⟩, ⟨⟨dX12_owedTo_20, rfl⟩, rfl⟩, ⟨⟨dX12_owedTo_21, rfl⟩, trivial⟩, ⟨⟨dX12_owedTo_22, rfl⟩, rfl⟩, ⟨⟨dX12_owedTo_24, rfl⟩, Or.inl ⟨rfl, _, my_117, sX12_275⟩⟩, ⟨⟨dX12_owedTo_27, rfl⟩, rfl⟩, ⟨⟨dX12_owedTo_29, rfl⟩, rfl⟩, ⟨⟨dX12_owedTo_30, rfl⟩, rfl⟩, ⟨⟨dX12_owedTo_32, rfl⟩, rfl⟩, ⟨⟨dX12_owedTo_34, rfl⟩, rfl⟩, ⟨⟨dX12_owedTo_36, rfl⟩, rfl⟩, ⟨⟨dX12_owedTo_39, rfl⟩, rfl⟩, ⟨⟨dX12_owedTo_40, rfl⟩, rfl⟩, trivial⟩,
  ⟨⟨⟨dX12_owedTo_42, rfl⟩, rfl⟩, ⟨⟨dX12_owedTo_44, rfl⟩, Or.inr ⟨by decide, ⟨_, my_31, sX12_79⟩, fun q => absurd q (by decide)⟩⟩, ⟨⟨dX12_owedTo_47, rfl⟩, rfl⟩, ⟨⟨dX12_owedTo_48, rfl⟩, rfl⟩, ⟨⟨dX12_owedTo_51, rfl⟩, rfl⟩, ⟨⟨dX12_owedTo_54, rfl⟩, rfl⟩, ⟨⟨dX12_owedTo_55, rfl⟩, Or.inl ⟨by decide, _, _, fX12_27⟩⟩, ⟨⟨dX12_owedTo_58, rfl⟩, rfl⟩, ⟨⟨dX12_owedTo_60, rfl⟩, trivial⟩, ⟨⟨dX12_owedTo_61, rfl⟩, rfl⟩, ⟨⟨dX12_owedTo_62, rfl⟩, rfl⟩, ⟨⟨dX12_owedTo_65, rfl⟩, rfl⟩, ⟨⟨dX12_owedTo_66, rfl⟩, rfl⟩, ⟨⟨dX12_owedTo_67, rfl⟩, Or.inl ⟨by decide, _, _, fX12_27⟩⟩, ⟨⟨dX12_owedTo_70, rfl⟩, rfl⟩, ⟨⟨dX12_owedTo_72, rfl⟩, rfl⟩, ⟨⟨dX12_owedTo_73, rfl⟩, trivial⟩, ⟨⟨dX12_owedTo_74, rfl⟩, trivial⟩, ⟨⟨dX12_owedTo_75, rfl⟩, trivial⟩, ⟨⟨dX12_owedTo_76, rfl⟩, rfl⟩, ⟨⟨dX12_owedTo_77, rfl⟩, rfl⟩, ⟨⟨dX12_owedTo_79, rfl⟩, rfl⟩, ⟨⟨dX12_owedTo_80, rfl⟩, Or.inl ⟨by decide, _, _, fX12_27⟩⟩, ⟨⟨dX12_owedTo_83, rfl⟩, rfl⟩, trivial⟩,
  ⟨⟨⟨dX12_owedTo_85, rfl⟩, rfl⟩, ⟨⟨dX12_owedTo_86, rfl⟩, trivial⟩, ⟨⟨dX12_owedTo_87, rfl⟩, trivial⟩, ⟨⟨dX12_owedTo_88, rfl⟩, rfl⟩, ⟨⟨dX12_owedTo_91, rfl⟩, rfl⟩, ⟨⟨dX12_owedTo_92, rfl⟩, rfl⟩, ⟨⟨dX12_owedTo_95, rfl⟩, rfl⟩, ⟨⟨dX12_owedTo_96, rfl⟩, Or.inr ⟨by decide, ⟨_, my_31, sX12_79⟩, fun q => absurd q (by decide)⟩⟩, ⟨⟨dX12_owedTo_99, rfl⟩, trivial⟩, ⟨⟨dX12_owedTo_100, rfl⟩, trivial⟩, ⟨⟨dX12_owedTo_101, rfl⟩, trivial⟩, ⟨⟨dX12_owedTo_102, rfl⟩, ⟨rfl, rfl⟩⟩, ⟨⟨dX12_owedTo_103, rfl⟩, rfl⟩, ⟨⟨dX12_owedTo_104, rfl⟩, rfl⟩, ⟨⟨dX12_owedTo_106, rfl⟩, rfl⟩, ⟨⟨dX12_owedTo_107, rfl⟩, Or.inr ⟨by decide, ⟨_, my_238, sX12_317⟩, fun q => absurd q (by decide)⟩⟩, ⟨⟨dX12_owedTo_110, rfl⟩, rfl⟩, ⟨⟨dX12_owedTo_111, rfl⟩, Or.inl ⟨by decide, _, _, fX12_27⟩⟩, ⟨⟨dX12_owedTo_114, rfl⟩, rfl⟩, ⟨⟨dX12_owedTo_116, rfl⟩, trivial⟩, ⟨⟨dX12_owedTo_117, rfl⟩, rfl⟩, ⟨⟨dX12_owedTo_118, rfl⟩, rfl⟩, ⟨⟨dX12_owedTo_121, rfl⟩, rfl⟩, ⟨⟨dX12_owedTo_122, rfl⟩, rfl⟩, trivial⟩,
  ⟨⟨⟨dX12_owedTo_124, rfl⟩, rfl⟩, ⟨⟨dX12_owedTo_125, rfl⟩, trivial⟩, ⟨⟨dX12_owedTo_126, rfl⟩, rfl⟩, ⟨⟨dX12_owedTo_128, rfl⟩, Or.inr ⟨by decide, ⟨_, my_239, sX12_320⟩, fun q => absurd q (by decide)⟩⟩, ⟨⟨dX12_owedTo_131, rfl⟩, rfl⟩, ⟨⟨dX12_owedTo_134, rfl⟩, rfl⟩, ⟨⟨dX12_owedTo_135, rfl⟩, rfl⟩, ⟨⟨dX12_owedTo_136, rfl⟩, Or.inl ⟨by decide, _, _, fX12_27⟩⟩, ⟨⟨dX12_owedTo_139, rfl⟩, rfl⟩, ⟨⟨dX12_owedTo_141, rfl⟩, rfl⟩, ⟨⟨dX12_owedTo_142, rfl⟩, trivial⟩, ⟨⟨dX12_owedTo_143, rfl⟩, trivial⟩, ⟨⟨dX12_owedTo_144, rfl⟩, trivial⟩, ⟨⟨dX12_owedTo_145, rfl⟩, trivial⟩, ⟨⟨dX12_owedTo_146, rfl⟩, ⟨rfl, rfl⟩⟩, ⟨⟨dX12_owedTo_147, rfl⟩, ⟨rfl, rfl⟩⟩, ⟨⟨dX12_owedTo_150, rfl⟩, rfl⟩, ⟨⟨dX12_owedTo_153, rfl⟩, ⟨rfl, rfl⟩⟩, ⟨⟨dX12_owedTo_156, rfl⟩, rfl⟩, ⟨⟨dX12_owedTo_159, rfl⟩, rfl⟩, ⟨⟨dX12_owedTo_160, rfl⟩, rfl⟩, ⟨⟨dX12_owedTo_161, rfl⟩, Or.inr (Or.inr (Or.inr (Or.inr (Or.inr (Or.inr (Or.inl ⟨rfl, sX12_17⟩))))))⟩, ⟨⟨dX12_owedTo_164, rfl⟩, Or.inl ⟨rfl, _, my_150, sX12_345⟩⟩, ⟨⟨dX12_owedTo_167, rfl⟩, Or.inl ⟨rfl, rfl⟩⟩, trivial⟩, trivial⟩, by decide, Or.inl ⟨rfl, by decide, rfl⟩⟩
set_option maxRecDepth 100000 in
theorem g_X12_owedTo_0 (S : sT) (call : cT) (n : Nat) (a0 : Nat) (x1 : Int32) (h : pH) : bd S call dflT E_X12_owedTo (n + 1) 0 [some (.ref a0), some (.int x1), none, none, none, none, none] [] h = (bd S call dflT E_X12_owedTo n 5 [some (.ref a0), some (.int x1), some (.long 0), none, some (.int 0), none, none] [] h) := rfl
set_option maxRecDepth 100000 in
theorem g_X12_owedTo_5 (S : sT) (call : cT) (n : Nat) (a0 : Nat) (x1 : Int32) (j2 : Int64) (x4 : Int32) (o5 : Option Value) (o6 : Option Value) (h : pH) : bd S call dflT E_X12_owedTo (n + 1) 5 [some (.ref a0), some (.int x1), some (.long j2), none, some (.int x4), o5, o6] [] h = (rC h (.ref a0) 15 (cI (call 141 [.ref a0, .int (12 + x1)] h) (fun y2 h1 => (if y2 ≤ x4 then cI (call 150 [.long (if j2 < (0 : Int64) then (0 : Int64) else j2)] h1) (fun y4 h3 => some (.inl (some (.int y4)), h3)) else cI (call 117 [.int (12 + x1), .int x4] h1) (fun y6 h5 => bd S call dflT E_X12_owedTo n 32 [some (.ref a0), some (.int x1), some (.long j2), none, some (.int x4), some (.int y6), some (.int 0)] [] h5))))) := rfl
set_option maxRecDepth 100000 in
theorem g_X12_owedTo_32 (S : sT) (call : cT) (n : Nat) (a0 : Nat) (x1 : Int32) (j2 : Int64) (x4 : Int32) (x5 : Int32) (x6 : Int32) (h : pH) : bd S call dflT E_X12_owedTo (n + 1) 32 [some (.ref a0), some (.int x1), some (.long j2), none, some (.int x4), some (.int x5), some (.int x6)] [] h = ((if 48 ≤ x6 then bd S call dflT E_X12_owedTo n 5 [some (.ref a0), some (.int x1), some (.long j2), none, some (.int (x4 + 1)), some (.int x5), some (.int x6)] [] h else rC h (.ref a0) 15 (cI (call 31 [.ref a0, .int x6, .int 10] h) (fun y2 h1 => (if y2 = x1 then gV h1 (.ref a0) 15 1 (fun w3 => aI h1 w3 0 x5 (fun y4 => (if y4 = 3 then gV h1 (.ref a0) 15 1 (fun w5 => aI h1 w5 0 (x5 + 1) (fun y6 => gV h1 (.ref a0) 15 1 (fun w7 => aI h1 w7 0 (x5 + 2) (fun y8 => (if y8 = 0 then rC h1 (.ref a0) 15 (cI (call 31 [.ref a0, .int x6, .int 5] h1) (fun y12 h11 => bd S call dflT E_X12_owedTo n 103 [some (.ref a0), some (.int x1), some (.long (j2 + (y6.toInt64 * y12.toInt64))), none, some (.int x4), some (.int x5), some (.int x6)] [] h11)) else rC h1 (.ref a0) 15 (cI (call 31 [.ref a0, .int x6, .int 4] h1) (fun y10 h9 => bd S call dflT E_X12_owedTo n 103 [some (.ref a0), some (.int x1), some (.long (j2 + (y6.toInt64 * y10.toInt64))), none, some (.int x4), some (.int x5), some (.int x6)] [] h9))))))) else bd S call dflT E_X12_owedTo n 103 [some (.ref a0), some (.int x1), some (.long j2), none, some (.int x4), some (.int x5), some (.int x6)] [] h1))) else bd S call dflT E_X12_owedTo n 32 [some (.ref a0), some (.int x1), some (.long j2), none, some (.int x4), some (.int x5), some (.int (x6 + 1))] [] h1))))) := rfl
set_option maxRecDepth 100000 in
theorem g_X12_owedTo_103 (S : sT) (call : cT) (n : Nat) (a0 : Nat) (x1 : Int32) (j2 : Int64) (x4 : Int32) (x5 : Int32) (x6 : Int32) (h : pH) : bd S call dflT E_X12_owedTo (n + 1) 103 [some (.ref a0), some (.int x1), some (.long j2), none, some (.int x4), some (.int x5), some (.int x6)] [] h = (rC h (.ref a0) 15 (cU (call 238 [.ref a0, .int x6, .int x1] h) (fun h1 => gV h1 (.ref a0) 15 1 (fun w2 => aI h1 w2 0 x5 (fun y3 => (if y3 = 4 then rC h1 (.ref a0) 15 (cI (call 239 [.ref a0, .int (12 + x1), .int x4] h1) (fun y5 h4 => (if y5 = 0 then bd S call dflT E_X12_owedTo n 32 [some (.ref a0), some (.int x1), some (.long j2), none, some (.int x4), some (.int x5), some (.int (x6 + 1))] [] h4 else gV h4 (.ref a0) 15 1 (fun w6 => aI h4 w6 0 (x5 + 1) (fun y7 => bd S call dflT E_X12_owedTo n 32 [some (.ref a0), some (.int x1), some (.long (j2 - y7.toInt64)), none, some (.int x4), some (.int x5), some (.int (x6 + 1))] [] h4))))) else bd S call dflT E_X12_owedTo n 32 [some (.ref a0), some (.int x1), some (.long j2), none, some (.int x4), some (.int x5), some (.int (x6 + 1))] [] h1)))))) := rfl
theorem dX12_goesOut_0 : decode cX12_goesOut 0 = .ok (.aload_n 0, 1) := by decide +kernel
theorem dX12_goesOut_1 : decode cX12_goesOut 1 = .ok (.iload_n 1, 1) := by decide +kernel
theorem dX12_goesOut_2 : decode cX12_goesOut 2 = .ok (.invokevirtual 398, 3) := by decide +kernel
theorem dX12_goesOut_5 : decode cX12_goesOut 5 = .ok (.i2l, 1) := by decide +kernel
theorem dX12_goesOut_6 : decode cX12_goesOut 6 = .ok (.aload_n 0, 1) := by decide +kernel
theorem dX12_goesOut_7 : decode cX12_goesOut 7 = .ok (.iload_n 1, 1) := by decide +kernel
theorem dX12_goesOut_8 : decode cX12_goesOut 8 = .ok (.iconst 2, 1) := by decide +kernel
theorem dX12_goesOut_9 : decode cX12_goesOut 9 = .ok (.invokevirtual 293, 3) := by decide +kernel
theorem dX12_goesOut_12 : decode cX12_goesOut 12 = .ok (.i2l, 1) := by decide +kernel
theorem dX12_goesOut_13 : decode cX12_goesOut 13 = .ok (.lsub, 1) := by decide +kernel
theorem dX12_goesOut_14 : decode cX12_goesOut 14 = .ok (.aload_n 0, 1) := by decide +kernel
theorem dX12_goesOut_15 : decode cX12_goesOut 15 = .ok (.iload_n 1, 1) := by decide +kernel
theorem dX12_goesOut_16 : decode cX12_goesOut 16 = .ok (.iconst 3, 1) := by decide +kernel
theorem dX12_goesOut_17 : decode cX12_goesOut 17 = .ok (.invokevirtual 293, 3) := by decide +kernel
theorem dX12_goesOut_20 : decode cX12_goesOut 20 = .ok (.i2l, 1) := by decide +kernel
theorem dX12_goesOut_21 : decode cX12_goesOut 21 = .ok (.lsub, 1) := by decide +kernel
theorem dX12_goesOut_22 : decode cX12_goesOut 22 = .ok (.lstore_n 2, 1) := by decide +kernel
theorem dX12_goesOut_23 : decode cX12_goesOut 23 = .ok (.lconst 0, 1) := by decide +kernel
theorem dX12_goesOut_24 : decode cX12_goesOut 24 = .ok (.lload_n 2, 1) := by decide +kernel
theorem dX12_goesOut_25 : decode cX12_goesOut 25 = .ok (.invokestatic 17, 3) := by decide +kernel
theorem dX12_goesOut_28 : decode cX12_goesOut 28 = .ok (.invokestatic 345, 3) := by decide +kernel
theorem dX12_goesOut_31 : decode cX12_goesOut 31 = .ok (.istore 4, 2) := by decide +kernel
theorem dX12_goesOut_33 : decode cX12_goesOut 33 = .ok (.aload_n 0, 1) := by decide +kernel
theorem dX12_goesOut_34 : decode cX12_goesOut 34 = .ok (.iload 4, 2) := by decide +kernel
theorem dX12_goesOut_36 : decode cX12_goesOut 36 = .ok (.ineg, 1) := by decide +kernel
theorem dX12_goesOut_37 : decode cX12_goesOut 37 = .ok (.i2l, 1) := by decide +kernel
theorem dX12_goesOut_38 : decode cX12_goesOut 38 = .ok (.invokevirtual 355, 3) := by decide +kernel
theorem dX12_goesOut_41 : decode cX12_goesOut 41 = .ok (.aload_n 0, 1) := by decide +kernel
theorem dX12_goesOut_42 : decode cX12_goesOut 42 = .ok (.iload_n 1, 1) := by decide +kernel
theorem dX12_goesOut_43 : decode cX12_goesOut 43 = .ok (.bipush 7, 2) := by decide +kernel
theorem dX12_goesOut_45 : decode cX12_goesOut 45 = .ok (.iload 4, 2) := by decide +kernel
theorem dX12_goesOut_47 : decode cX12_goesOut 47 = .ok (.i2l, 1) := by decide +kernel
theorem dX12_goesOut_48 : decode cX12_goesOut 48 = .ok (.invokevirtual 373, 3) := by decide +kernel
theorem dX12_goesOut_51 : decode cX12_goesOut 51 = .ok (.aload_n 0, 1) := by decide +kernel
theorem dX12_goesOut_52 : decode cX12_goesOut 52 = .ok (.iload_n 1, 1) := by decide +kernel
theorem dX12_goesOut_53 : decode cX12_goesOut 53 = .ok (.iconst 2, 1) := by decide +kernel
theorem dX12_goesOut_54 : decode cX12_goesOut 54 = .ok (.lconst 0, 1) := by decide +kernel
theorem dX12_goesOut_55 : decode cX12_goesOut 55 = .ok (.invokevirtual 373, 3) := by decide +kernel
theorem dX12_goesOut_58 : decode cX12_goesOut 58 = .ok (.aload_n 0, 1) := by decide +kernel
theorem dX12_goesOut_59 : decode cX12_goesOut 59 = .ok (.iload_n 1, 1) := by decide +kernel
theorem dX12_goesOut_60 : decode cX12_goesOut 60 = .ok (.iconst 3, 1) := by decide +kernel
theorem dX12_goesOut_61 : decode cX12_goesOut 61 = .ok (.lconst 0, 1) := by decide +kernel
theorem dX12_goesOut_62 : decode cX12_goesOut 62 = .ok (.invokevirtual 373, 3) := by decide +kernel
theorem dX12_goesOut_65 : decode cX12_goesOut 65 = .ok (.aload_n 0, 1) := by decide +kernel
theorem dX12_goesOut_66 : decode cX12_goesOut 66 = .ok (.iload_n 1, 1) := by decide +kernel
theorem dX12_goesOut_67 : decode cX12_goesOut 67 = .ok (.invokevirtual 392, 3) := by decide +kernel
theorem dX12_goesOut_70 : decode cX12_goesOut 70 = .ok (.istore 5, 2) := by decide +kernel
theorem dX12_goesOut_72 : decode cX12_goesOut 72 = .ok (.return_, 1) := by decide +kernel
noncomputable def E_X12_goesOut : mE := (mX12_goesOut, [(34, [(0, (.aload_n 0, 1, false, false, 0, 0, 0, 0, 0, 0, [])), (1, (.iload_n 1, 2, false, false, 1, 0, 0, 0, 0, 0, [])), (2, (.invokevirtual 398, 5, false, false, 253, 1, 1, 15, 0, 0, [])), (5, (.i2l, 6, false, false, 0, 0, 0, 0, 0, 0, [])), (6, (.aload_n 0, 7, false, false, 0, 0, 0, 0, 0, 0, [])), (7, (.iload_n 1, 8, false, false, 1, 0, 0, 0, 0, 0, [])), (8, (.iconst 2, 9, false, false, 0, 0, 0, 0, 2, 0, [])), (9, (.invokevirtual 293, 12, false, false, 165, 2, 1, 15, 0, 0, [])), (12, (.i2l, 13, false, false, 0, 0, 0, 0, 0, 0, [])), (13, (.lsub, 14, false, false, 0, 0, 0, 0, 0, 0, [])), (14, (.aload_n 0, 15, false, false, 0, 0, 0, 0, 0, 0, [])), (15, (.iload_n 1, 16, false, false, 1, 0, 0, 0, 0, 0, [])), (16, (.iconst 3, 17, false, false, 0, 0, 0, 0, 3, 0, [])), (17, (.invokevirtual 293, 20, false, false, 165, 2, 1, 15, 0, 0, [])), (20, (.i2l, 21, false, false, 0, 0, 0, 0, 0, 0, [])), (21, (.lsub, 22, false, false, 0, 0, 0, 0, 0, 0, [])), (22, (.lstore_n 2, 23, false, false, 2, 3, 0, 0, 0, 0, [])), (23, (.lconst 0, 24, false, false, 0, 0, 0, 0, 0, 0, [])), (24, (.lload_n 2, 25, false, false, 2, 0, 0, 0, 0, 0, [])), (25, (.invokestatic 17, 28, false, false, 0, 2, 2, 7, 0, 0, [])), (28, (.invokestatic 345, 31, false, false, 150, 1, 1, 0, 0, 0, [])), (31, (.istore 4, 33, false, false, 4, 0, 0, 0, 0, 0, [])), (33, (.aload_n 0, 34, false, false, 0, 0, 0, 0, 0, 0, [])), (34, (.iload 4, 36, false, false, 4, 0, 0, 0, 0, 0, []))]),
  (72, [(36, (.ineg, 37, false, false, 0, 0, 0, 0, 0, 0, [])), (37, (.i2l, 38, false, false, 0, 0, 0, 0, 0, 0, [])), (38, (.invokevirtual 355, 41, false, false, 235, 1, 0, 15, 0, 0, [])), (41, (.aload_n 0, 42, false, false, 0, 0, 0, 0, 0, 0, [])), (42, (.iload_n 1, 43, false, false, 1, 0, 0, 0, 0, 0, [])), (43, (.bipush 7, 45, false, false, 0, 0, 0, 0, 7, 0, [])), (45, (.iload 4, 47, false, false, 4, 0, 0, 0, 0, 0, [])), (47, (.i2l, 48, false, false, 0, 0, 0, 0, 0, 0, [])), (48, (.invokevirtual 373, 51, false, false, 151, 3, 0, 15, 0, 0, [])), (51, (.aload_n 0, 52, false, false, 0, 0, 0, 0, 0, 0, [])), (52, (.iload_n 1, 53, false, false, 1, 0, 0, 0, 0, 0, [])), (53, (.iconst 2, 54, false, false, 0, 0, 0, 0, 2, 0, [])), (54, (.lconst 0, 55, false, false, 0, 0, 0, 0, 0, 0, [])), (55, (.invokevirtual 373, 58, false, false, 151, 3, 0, 15, 0, 0, [])), (58, (.aload_n 0, 59, false, false, 0, 0, 0, 0, 0, 0, [])), (59, (.iload_n 1, 60, false, false, 1, 0, 0, 0, 0, 0, [])), (60, (.iconst 3, 61, false, false, 0, 0, 0, 0, 3, 0, [])), (61, (.lconst 0, 62, false, false, 0, 0, 0, 0, 0, 0, [])), (62, (.invokevirtual 373, 65, false, false, 151, 3, 0, 15, 0, 0, [])), (65, (.aload_n 0, 66, false, false, 0, 0, 0, 0, 0, 0, [])), (66, (.iload_n 1, 67, false, false, 1, 0, 0, 0, 0, 0, [])), (67, (.invokevirtual 392, 70, false, false, 179, 1, 1, 15, 0, 0, [])), (70, (.istore 5, 72, false, false, 5, 0, 0, 0, 0, 0, [])), (72, (.return_, 73, false, false, 0, 0, 0, 0, 0, 0, []))])], 0, [])
set_option maxRecDepth 100000 in
theorem v_X12_goesOut : VE MYT dflT E_X12_goesOut := ⟨⟨⟨⟨⟨dX12_goesOut_0, rfl⟩, rfl⟩, ⟨⟨dX12_goesOut_1, rfl⟩, rfl⟩, ⟨⟨dX12_goesOut_2, rfl⟩, Or.inr ⟨by decide, ⟨_, my_253, sX12_398⟩, fun q => absurd q (by decide)⟩⟩, ⟨⟨dX12_goesOut_5, rfl⟩, trivial⟩, ⟨⟨dX12_goesOut_6, rfl⟩, rfl⟩, ⟨⟨dX12_goesOut_7, rfl⟩, rfl⟩, ⟨⟨dX12_goesOut_8, rfl⟩, rfl⟩, ⟨⟨dX12_goesOut_9, rfl⟩, Or.inr ⟨by decide, ⟨_, my_165, sX12_293⟩, fun q => absurd q (by decide)⟩⟩, ⟨⟨dX12_goesOut_12, rfl⟩, trivial⟩, ⟨⟨dX12_goesOut_13, rfl⟩, trivial⟩, ⟨⟨dX12_goesOut_14, rfl⟩, rfl⟩, ⟨⟨dX12_goesOut_15, rfl⟩, rfl⟩, ⟨⟨dX12_goesOut_16, rfl⟩, rfl⟩, ⟨⟨dX12_goesOut_17, rfl⟩, Or.inr ⟨by decide, ⟨_, my_165, sX12_293⟩, fun q => absurd q (by decide)⟩⟩, ⟨⟨dX12_goesOut_20, rfl⟩, trivial⟩, ⟨⟨dX12_goesOut_21, rfl⟩, trivial⟩, ⟨⟨dX12_goesOut_22, rfl⟩, ⟨rfl, rfl⟩⟩, ⟨⟨dX12_goesOut_23, rfl⟩, rfl⟩, ⟨⟨dX12_goesOut_24, rfl⟩, rfl⟩, ⟨⟨dX12_goesOut_25, rfl⟩, Or.inr (Or.inr (Or.inr (Or.inr (Or.inr (Or.inr (Or.inl ⟨rfl, sX12_17⟩))))))⟩, ⟨⟨dX12_goesOut_28, rfl⟩, Or.inl ⟨rfl, _, my_150, sX12_345⟩⟩, ⟨⟨dX12_goesOut_31, rfl⟩, rfl⟩, ⟨⟨dX12_goesOut_33, rfl⟩, rfl⟩, ⟨⟨dX12_goesOut_34, rfl⟩, rfl⟩, trivial⟩,
  ⟨⟨⟨dX12_goesOut_36, rfl⟩, trivial⟩, ⟨⟨dX12_goesOut_37, rfl⟩, trivial⟩, ⟨⟨dX12_goesOut_38, rfl⟩, Or.inr ⟨by decide, ⟨_, my_235, sX12_355⟩, fun q => absurd q (by decide)⟩⟩, ⟨⟨dX12_goesOut_41, rfl⟩, rfl⟩, ⟨⟨dX12_goesOut_42, rfl⟩, rfl⟩, ⟨⟨dX12_goesOut_43, rfl⟩, rfl⟩, ⟨⟨dX12_goesOut_45, rfl⟩, rfl⟩, ⟨⟨dX12_goesOut_47, rfl⟩, trivial⟩, ⟨⟨dX12_goesOut_48, rfl⟩, Or.inr ⟨by decide, ⟨_, my_151, sX12_373⟩, fun q => absurd q (by decide)⟩⟩, ⟨⟨dX12_goesOut_51, rfl⟩, rfl⟩, ⟨⟨dX12_goesOut_52, rfl⟩, rfl⟩, ⟨⟨dX12_goesOut_53, rfl⟩, rfl⟩, ⟨⟨dX12_goesOut_54, rfl⟩, rfl⟩, ⟨⟨dX12_goesOut_55, rfl⟩, Or.inr ⟨by decide, ⟨_, my_151, sX12_373⟩, fun q => absurd q (by decide)⟩⟩, ⟨⟨dX12_goesOut_58, rfl⟩, rfl⟩, ⟨⟨dX12_goesOut_59, rfl⟩, rfl⟩, ⟨⟨dX12_goesOut_60, rfl⟩, rfl⟩, ⟨⟨dX12_goesOut_61, rfl⟩, rfl⟩, ⟨⟨dX12_goesOut_62, rfl⟩, Or.inr ⟨by decide, ⟨_, my_151, sX12_373⟩, fun q => absurd q (by decide)⟩⟩, ⟨⟨dX12_goesOut_65, rfl⟩, rfl⟩, ⟨⟨dX12_goesOut_66, rfl⟩, rfl⟩, ⟨⟨dX12_goesOut_67, rfl⟩, Or.inr ⟨by decide, ⟨_, my_179, sX12_392⟩, fun q => absurd q (by decide)⟩⟩, ⟨⟨dX12_goesOut_70, rfl⟩, rfl⟩, ⟨⟨dX12_goesOut_72, rfl⟩, rfl⟩, trivial⟩, trivial⟩, by decide, Or.inl ⟨rfl, by decide, rfl⟩⟩
set_option maxRecDepth 100000 in
theorem g_X12_goesOut_0 (S : sT) (call : cT) (n : Nat) (a0 : Nat) (x1 : Int32) (h : pH) : bd S call dflT E_X12_goesOut (n + 1) 0 [some (.ref a0), some (.int x1), none, none, none, none] [] h = (rC h (.ref a0) 15 (cI (call 253 [.ref a0, .int x1] h) (fun y2 h1 => rC h1 (.ref a0) 15 (cI (call 165 [.ref a0, .int x1, .int 2] h1) (fun y4 h3 => rC h3 (.ref a0) 15 (cI (call 165 [.ref a0, .int x1, .int 3] h3) (fun y6 h5 => cI (call 150 [.long (if ((y2.toInt64 - y4.toInt64) - y6.toInt64) < (0 : Int64) then (0 : Int64) else ((y2.toInt64 - y4.toInt64) - y6.toInt64))] h5) (fun y8 h7 => rC h7 (.ref a0) 15 (cU (call 235 [.ref a0, .long (-y8).toInt64] h7) (fun h9 => rC h9 (.ref a0) 15 (cU (call 151 [.ref a0, .int x1, .int 7, .long y8.toInt64] h9) (fun h10 => rC h10 (.ref a0) 15 (cU (call 151 [.ref a0, .int x1, .int 2, .long 0] h10) (fun h11 => rC h11 (.ref a0) 15 (cU (call 151 [.ref a0, .int x1, .int 3, .long 0] h11) (fun h12 => rC h12 (.ref a0) 15 (cI (call 179 [.ref a0, .int x1] h12) (fun y14 h13 => some (.inl none, h13))))))))))))))))))) := rfl
theorem dX12_winter_0 : decode cX12_winter 0 = .ok (.aload_n 0, 1) := by decide +kernel
theorem dX12_winter_1 : decode cX12_winter 1 = .ok (.invokevirtual 425, 3) := by decide +kernel
theorem dX12_winter_4 : decode cX12_winter 4 = .ok (.iconst 0, 1) := by decide +kernel
theorem dX12_winter_5 : decode cX12_winter 5 = .ok (.istore_n 1, 1) := by decide +kernel
theorem dX12_winter_6 : decode cX12_winter 6 = .ok (.iload_n 1, 1) := by decide +kernel
theorem dX12_winter_7 : decode cX12_winter 7 = .ok (.aload_n 0, 1) := by decide +kernel
theorem dX12_winter_8 : decode cX12_winter 8 = .ok (.getfield 27, 3) := by decide +kernel
theorem dX12_winter_11 : decode cX12_winter 11 = .ok (.sipush 1683, 3) := by decide +kernel
theorem dX12_winter_14 : decode cX12_winter 14 = .ok (.iaload, 1) := by decide +kernel
theorem dX12_winter_15 : decode cX12_winter 15 = .ok (.if_icmp .ge 32, 3) := by decide +kernel
theorem dX12_winter_18 : decode cX12_winter 18 = .ok (.aload_n 0, 1) := by decide +kernel
theorem dX12_winter_19 : decode cX12_winter 19 = .ok (.iload_n 1, 1) := by decide +kernel
theorem dX12_winter_20 : decode cX12_winter 20 = .ok (.iconst 0, 1) := by decide +kernel
theorem dX12_winter_21 : decode cX12_winter 21 = .ok (.invokevirtual 293, 3) := by decide +kernel
theorem dX12_winter_24 : decode cX12_winter 24 = .ok (.iconst 4, 1) := by decide +kernel
theorem dX12_winter_25 : decode cX12_winter 25 = .ok (.if_icmp .ne 16, 3) := by decide +kernel
theorem dX12_winter_28 : decode cX12_winter 28 = .ok (.aload_n 0, 1) := by decide +kernel
theorem dX12_winter_29 : decode cX12_winter 29 = .ok (.iload_n 1, 1) := by decide +kernel
theorem dX12_winter_30 : decode cX12_winter 30 = .ok (.invokevirtual 386, 3) := by decide +kernel
theorem dX12_winter_33 : decode cX12_winter 33 = .ok (.ifCond .le 8, 3) := by decide +kernel
theorem dX12_winter_36 : decode cX12_winter 36 = .ok (.aload_n 0, 1) := by decide +kernel
theorem dX12_winter_37 : decode cX12_winter 37 = .ok (.iload_n 1, 1) := by decide +kernel
theorem dX12_winter_38 : decode cX12_winter 38 = .ok (.invokevirtual 428, 3) := by decide +kernel
theorem dX12_winter_41 : decode cX12_winter 41 = .ok (.iinc 1 1, 3) := by decide +kernel
theorem dX12_winter_44 : decode cX12_winter 44 = .ok (.goto (-38), 3) := by decide +kernel
theorem dX12_winter_47 : decode cX12_winter 47 = .ok (.iconst 0, 1) := by decide +kernel
theorem dX12_winter_48 : decode cX12_winter 48 = .ok (.istore_n 1, 1) := by decide +kernel
theorem dX12_winter_49 : decode cX12_winter 49 = .ok (.iload_n 1, 1) := by decide +kernel
theorem dX12_winter_50 : decode cX12_winter 50 = .ok (.aload_n 0, 1) := by decide +kernel
theorem dX12_winter_51 : decode cX12_winter 51 = .ok (.getfield 27, 3) := by decide +kernel
theorem dX12_winter_54 : decode cX12_winter 54 = .ok (.sipush 1948, 3) := by decide +kernel
theorem dX12_winter_57 : decode cX12_winter 57 = .ok (.iaload, 1) := by decide +kernel
theorem dX12_winter_58 : decode cX12_winter 58 = .ok (.if_icmp .ge 20, 3) := by decide +kernel
theorem dX12_winter_61 : decode cX12_winter 61 = .ok (.aload_n 0, 1) := by decide +kernel
theorem dX12_winter_62 : decode cX12_winter 62 = .ok (.sipush 1949, 3) := by decide +kernel
theorem dX12_winter_65 : decode cX12_winter 65 = .ok (.iconst 4, 1) := by decide +kernel
theorem dX12_winter_66 : decode cX12_winter 66 = .ok (.iload_n 1, 1) := by decide +kernel
theorem dX12_winter_67 : decode cX12_winter 67 = .ok (.imul, 1) := by decide +kernel
theorem dX12_winter_68 : decode cX12_winter 68 = .ok (.iadd, 1) := by decide +kernel
theorem dX12_winter_69 : decode cX12_winter 69 = .ok (.invokevirtual 431, 3) := by decide +kernel
theorem dX12_winter_72 : decode cX12_winter 72 = .ok (.iinc 1 1, 3) := by decide +kernel
theorem dX12_winter_75 : decode cX12_winter 75 = .ok (.goto (-26), 3) := by decide +kernel
theorem dX12_winter_78 : decode cX12_winter 78 = .ok (.aload_n 0, 1) := by decide +kernel
theorem dX12_winter_79 : decode cX12_winter 79 = .ok (.invokevirtual 339, 3) := by decide +kernel
theorem dX12_winter_82 : decode cX12_winter 82 = .ok (.istore_n 1, 1) := by decide +kernel
theorem dX12_winter_83 : decode cX12_winter 83 = .ok (.aload_n 0, 1) := by decide +kernel
theorem dX12_winter_84 : decode cX12_winter 84 = .ok (.iload_n 1, 1) := by decide +kernel
theorem dX12_winter_85 : decode cX12_winter 85 = .ok (.ineg, 1) := by decide +kernel
theorem dX12_winter_86 : decode cX12_winter 86 = .ok (.i2l, 1) := by decide +kernel
theorem dX12_winter_87 : decode cX12_winter 87 = .ok (.invokevirtual 355, 3) := by decide +kernel
theorem dX12_winter_90 : decode cX12_winter 90 = .ok (.aload_n 0, 1) := by decide +kernel
theorem dX12_winter_91 : decode cX12_winter 91 = .ok (.getfield 27, 3) := by decide +kernel
theorem dX12_winter_94 : decode cX12_winter 94 = .ok (.iconst 4, 1) := by decide +kernel
theorem dX12_winter_95 : decode cX12_winter 95 = .ok (.aload_n 0, 1) := by decide +kernel
theorem dX12_winter_96 : decode cX12_winter 96 = .ok (.getfield 27, 3) := by decide +kernel
theorem dX12_winter_99 : decode cX12_winter 99 = .ok (.iconst 4, 1) := by decide +kernel
theorem dX12_winter_100 : decode cX12_winter 100 = .ok (.iaload, 1) := by decide +kernel
theorem dX12_winter_101 : decode cX12_winter 101 = .ok (.i2l, 1) := by decide +kernel
theorem dX12_winter_102 : decode cX12_winter 102 = .ok (.iload_n 1, 1) := by decide +kernel
theorem dX12_winter_103 : decode cX12_winter 103 = .ok (.i2l, 1) := by decide +kernel
theorem dX12_winter_104 : decode cX12_winter 104 = .ok (.ladd, 1) := by decide +kernel
theorem dX12_winter_105 : decode cX12_winter 105 = .ok (.invokestatic 345, 3) := by decide +kernel
theorem dX12_winter_108 : decode cX12_winter 108 = .ok (.iastore, 1) := by decide +kernel
theorem dX12_winter_109 : decode cX12_winter 109 = .ok (.iconst 0, 1) := by decide +kernel
theorem dX12_winter_110 : decode cX12_winter 110 = .ok (.istore_n 2, 1) := by decide +kernel
theorem dX12_winter_111 : decode cX12_winter 111 = .ok (.iload_n 2, 1) := by decide +kernel
theorem dX12_winter_112 : decode cX12_winter 112 = .ok (.aload_n 0, 1) := by decide +kernel
theorem dX12_winter_113 : decode cX12_winter 113 = .ok (.getfield 27, 3) := by decide +kernel
theorem dX12_winter_116 : decode cX12_winter 116 = .ok (.sipush 1683, 3) := by decide +kernel
theorem dX12_winter_119 : decode cX12_winter 119 = .ok (.iaload, 1) := by decide +kernel
theorem dX12_winter_120 : decode cX12_winter 120 = .ok (.if_icmp .ge 69, 3) := by decide +kernel
theorem dX12_winter_123 : decode cX12_winter 123 = .ok (.aload_n 0, 1) := by decide +kernel
theorem dX12_winter_124 : decode cX12_winter 124 = .ok (.iload_n 2, 1) := by decide +kernel
theorem dX12_winter_125 : decode cX12_winter 125 = .ok (.invokevirtual 389, 3) := by decide +kernel
theorem dX12_winter_128 : decode cX12_winter 128 = .ok (.ifCond .eq 55, 3) := by decide +kernel
theorem dX12_winter_131 : decode cX12_winter 131 = .ok (.aload_n 0, 1) := by decide +kernel
theorem dX12_winter_132 : decode cX12_winter 132 = .ok (.iload_n 2, 1) := by decide +kernel
theorem dX12_winter_133 : decode cX12_winter 133 = .ok (.invokevirtual 386, 3) := by decide +kernel
theorem dX12_winter_136 : decode cX12_winter 136 = .ok (.ifCond .ne 6, 3) := by decide +kernel
theorem dX12_winter_139 : decode cX12_winter 139 = .ok (.goto 44, 3) := by decide +kernel
theorem dX12_winter_142 : decode cX12_winter 142 = .ok (.aload_n 0, 1) := by decide +kernel
theorem dX12_winter_143 : decode cX12_winter 143 = .ok (.iload_n 2, 1) := by decide +kernel
theorem dX12_winter_144 : decode cX12_winter 144 = .ok (.iconst 0, 1) := by decide +kernel
theorem dX12_winter_145 : decode cX12_winter 145 = .ok (.invokevirtual 293, 3) := by decide +kernel
theorem dX12_winter_148 : decode cX12_winter 148 = .ok (.ifCond .ne 19, 3) := by decide +kernel
theorem dX12_winter_151 : decode cX12_winter 151 = .ok (.aload_n 0, 1) := by decide +kernel
theorem dX12_winter_152 : decode cX12_winter 152 = .ok (.iload_n 2, 1) := by decide +kernel
theorem dX12_winter_153 : decode cX12_winter 153 = .ok (.iconst 4, 1) := by decide +kernel
theorem dX12_winter_154 : decode cX12_winter 154 = .ok (.invokevirtual 293, 3) := by decide +kernel
theorem dX12_winter_157 : decode cX12_winter 157 = .ok (.aload_n 0, 1) := by decide +kernel
theorem dX12_winter_158 : decode cX12_winter 158 = .ok (.invokevirtual 89, 3) := by decide +kernel
theorem dX12_winter_161 : decode cX12_winter 161 = .ok (.if_icmp .gt 22, 3) := by decide +kernel
theorem dX12_winter_164 : decode cX12_winter 164 = .ok (.goto 14, 3) := by decide +kernel
theorem dX12_winter_167 : decode cX12_winter 167 = .ok (.aload_n 0, 1) := by decide +kernel
theorem dX12_winter_168 : decode cX12_winter 168 = .ok (.iload_n 2, 1) := by decide +kernel
theorem dX12_winter_169 : decode cX12_winter 169 = .ok (.bipush 8, 2) := by decide +kernel
theorem dX12_winter_171 : decode cX12_winter 171 = .ok (.invokevirtual 293, 3) := by decide +kernel
theorem dX12_winter_174 : decode cX12_winter 174 = .ok (.iconst 1, 1) := by decide +kernel
theorem dX12_winter_175 : decode cX12_winter 175 = .ok (.if_icmp .ne 8, 3) := by decide +kernel
theorem dX12_winter_178 : decode cX12_winter 178 = .ok (.aload_n 0, 1) := by decide +kernel
theorem dX12_winter_179 : decode cX12_winter 179 = .ok (.iload_n 2, 1) := by decide +kernel
theorem dX12_winter_180 : decode cX12_winter 180 = .ok (.invokevirtual 434, 3) := by decide +kernel
theorem dX12_winter_183 : decode cX12_winter 183 = .ok (.iinc 2 1, 3) := by decide +kernel
theorem dX12_winter_186 : decode cX12_winter 186 = .ok (.goto (-75), 3) := by decide +kernel
theorem dX12_winter_189 : decode cX12_winter 189 = .ok (.return_, 1) := by decide +kernel
noncomputable def E_X12_winter : mE := (mX12_winter, [(41, [(0, (.aload_n 0, 1, false, false, 0, 0, 0, 0, 0, 0, [])), (1, (.invokevirtual 425, 4, false, false, 246, 0, 0, 15, 0, 0, [])), (4, (.iconst 0, 5, false, false, 0, 0, 0, 0, 0, 0, [])), (5, (.istore_n 1, 6, true, false, 1, 0, 0, 0, 0, 0, [])), (6, (.iload_n 1, 7, false, false, 1, 0, 0, 0, 0, 0, [])), (7, (.aload_n 0, 8, false, false, 0, 0, 0, 0, 0, 0, [])), (8, (.getfield 27, 11, false, false, 15, 1, 1, 0, 0, 0, [])), (11, (.sipush 1683, 14, false, false, 0, 0, 0, 0, 1683, 0, [])), (14, (.iaload, 15, false, false, 0, 0, 0, 0, 0, 0, [])), (15, (.if_icmp .ge 32, 18, false, false, 47, 0, 0, 0, 0, 0, [])), (18, (.aload_n 0, 19, false, false, 0, 0, 0, 0, 0, 0, [])), (19, (.iload_n 1, 20, false, false, 1, 0, 0, 0, 0, 0, [])), (20, (.iconst 0, 21, false, false, 0, 0, 0, 0, 0, 0, [])), (21, (.invokevirtual 293, 24, false, false, 165, 2, 1, 15, 0, 0, [])), (24, (.iconst 4, 25, false, false, 0, 0, 0, 0, 4, 0, [])), (25, (.if_icmp .ne 16, 28, false, false, 41, 0, 0, 0, 0, 0, [])), (28, (.aload_n 0, 29, false, false, 0, 0, 0, 0, 0, 0, [])), (29, (.iload_n 1, 30, false, false, 1, 0, 0, 0, 0, 0, [])), (30, (.invokevirtual 386, 33, false, false, 172, 1, 1, 15, 0, 0, [])), (33, (.ifCond .le 8, 36, false, false, 41, 0, 0, 0, 0, 0, [])), (36, (.aload_n 0, 37, false, false, 0, 0, 0, 0, 0, 0, [])), (37, (.iload_n 1, 38, false, false, 1, 0, 0, 0, 0, 0, [])), (38, (.invokevirtual 428, 41, false, false, 250, 1, 0, 15, 0, 0, [])), (41, (.iinc 1 1, 44, false, false, 1, 0, 0, 0, 1, 0, []))]),
  (85, [(44, (.goto (-38), 47, false, true, 6, 0, 0, 0, 0, 0, [])), (47, (.iconst 0, 48, false, false, 0, 0, 0, 0, 0, 0, [])), (48, (.istore_n 1, 49, true, false, 1, 0, 0, 0, 0, 0, [])), (49, (.iload_n 1, 50, false, false, 1, 0, 0, 0, 0, 0, [])), (50, (.aload_n 0, 51, false, false, 0, 0, 0, 0, 0, 0, [])), (51, (.getfield 27, 54, false, false, 15, 1, 1, 0, 0, 0, [])), (54, (.sipush 1948, 57, false, false, 0, 0, 0, 0, 1948, 0, [])), (57, (.iaload, 58, false, false, 0, 0, 0, 0, 0, 0, [])), (58, (.if_icmp .ge 20, 61, false, false, 78, 0, 0, 0, 0, 0, [])), (61, (.aload_n 0, 62, false, false, 0, 0, 0, 0, 0, 0, [])), (62, (.sipush 1949, 65, false, false, 0, 0, 0, 0, 1949, 0, [])), (65, (.iconst 4, 66, false, false, 0, 0, 0, 0, 4, 0, [])), (66, (.iload_n 1, 67, false, false, 1, 0, 0, 0, 0, 0, [])), (67, (.imul, 68, false, false, 0, 0, 0, 0, 0, 0, [])), (68, (.iadd, 69, false, false, 0, 0, 0, 0, 0, 0, [])), (69, (.invokevirtual 431, 72, false, false, 251, 1, 0, 15, 0, 0, [])), (72, (.iinc 1 1, 75, false, false, 1, 0, 0, 0, 1, 0, [])), (75, (.goto (-26), 78, false, true, 49, 0, 0, 0, 0, 0, [])), (78, (.aload_n 0, 79, false, false, 0, 0, 0, 0, 0, 0, [])), (79, (.invokevirtual 339, 82, false, false, 252, 0, 1, 15, 0, 0, [])), (82, (.istore_n 1, 83, false, false, 1, 0, 0, 0, 0, 0, [])), (83, (.aload_n 0, 84, false, false, 0, 0, 0, 0, 0, 0, [])), (84, (.iload_n 1, 85, false, false, 1, 0, 0, 0, 0, 0, [])), (85, (.ineg, 86, false, false, 0, 0, 0, 0, 0, 0, []))]),
  (123, [(86, (.i2l, 87, false, false, 0, 0, 0, 0, 0, 0, [])), (87, (.invokevirtual 355, 90, false, false, 235, 1, 0, 15, 0, 0, [])), (90, (.aload_n 0, 91, false, false, 0, 0, 0, 0, 0, 0, [])), (91, (.getfield 27, 94, false, false, 15, 1, 1, 0, 0, 0, [])), (94, (.iconst 4, 95, false, false, 0, 0, 0, 0, 4, 0, [])), (95, (.aload_n 0, 96, false, false, 0, 0, 0, 0, 0, 0, [])), (96, (.getfield 27, 99, false, false, 15, 1, 1, 0, 0, 0, [])), (99, (.iconst 4, 100, false, false, 0, 0, 0, 0, 4, 0, [])), (100, (.iaload, 101, false, false, 0, 0, 0, 0, 0, 0, [])), (101, (.i2l, 102, false, false, 0, 0, 0, 0, 0, 0, [])), (102, (.iload_n 1, 103, false, false, 1, 0, 0, 0, 0, 0, [])), (103, (.i2l, 104, false, false, 0, 0, 0, 0, 0, 0, [])), (104, (.ladd, 105, false, false, 0, 0, 0, 0, 0, 0, [])), (105, (.invokestatic 345, 108, false, false, 150, 1, 1, 0, 0, 0, [])), (108, (.iastore, 109, false, false, 0, 0, 0, 0, 0, 0, [])), (109, (.iconst 0, 110, false, false, 0, 0, 0, 0, 0, 0, [])), (110, (.istore_n 2, 111, true, false, 2, 0, 0, 0, 0, 0, [])), (111, (.iload_n 2, 112, false, false, 2, 0, 0, 0, 0, 0, [])), (112, (.aload_n 0, 113, false, false, 0, 0, 0, 0, 0, 0, [])), (113, (.getfield 27, 116, false, false, 15, 1, 1, 0, 0, 0, [])), (116, (.sipush 1683, 119, false, false, 0, 0, 0, 0, 1683, 0, [])), (119, (.iaload, 120, false, false, 0, 0, 0, 0, 0, 0, [])), (120, (.if_icmp .ge 69, 123, false, false, 189, 0, 0, 0, 0, 0, [])), (123, (.aload_n 0, 124, false, false, 0, 0, 0, 0, 0, 0, []))]),
  (169, [(124, (.iload_n 2, 125, false, false, 2, 0, 0, 0, 0, 0, [])), (125, (.invokevirtual 389, 128, false, false, 178, 1, 1, 15, 0, 0, [])), (128, (.ifCond .eq 55, 131, false, false, 183, 0, 0, 0, 0, 0, [])), (131, (.aload_n 0, 132, false, false, 0, 0, 0, 0, 0, 0, [])), (132, (.iload_n 2, 133, false, false, 2, 0, 0, 0, 0, 0, [])), (133, (.invokevirtual 386, 136, false, false, 172, 1, 1, 15, 0, 0, [])), (136, (.ifCond .ne 6, 139, false, false, 142, 0, 0, 0, 0, 0, [])), (139, (.goto 44, 142, false, false, 183, 0, 0, 0, 0, 0, [])), (142, (.aload_n 0, 143, false, false, 0, 0, 0, 0, 0, 0, [])), (143, (.iload_n 2, 144, false, false, 2, 0, 0, 0, 0, 0, [])), (144, (.iconst 0, 145, false, false, 0, 0, 0, 0, 0, 0, [])), (145, (.invokevirtual 293, 148, false, false, 165, 2, 1, 15, 0, 0, [])), (148, (.ifCond .ne 19, 151, false, false, 167, 0, 0, 0, 0, 0, [])), (151, (.aload_n 0, 152, false, false, 0, 0, 0, 0, 0, 0, [])), (152, (.iload_n 2, 153, false, false, 2, 0, 0, 0, 0, 0, [])), (153, (.iconst 4, 154, false, false, 0, 0, 0, 0, 4, 0, [])), (154, (.invokevirtual 293, 157, false, false, 165, 2, 1, 15, 0, 0, [])), (157, (.aload_n 0, 158, false, false, 0, 0, 0, 0, 0, 0, [])), (158, (.invokevirtual 89, 161, false, false, 48, 0, 1, 15, 0, 0, [])), (161, (.if_icmp .gt 22, 164, false, false, 183, 0, 0, 0, 0, 0, [])), (164, (.goto 14, 167, false, false, 178, 0, 0, 0, 0, 0, [])), (167, (.aload_n 0, 168, false, false, 0, 0, 0, 0, 0, 0, [])), (168, (.iload_n 2, 169, false, false, 2, 0, 0, 0, 0, 0, [])), (169, (.bipush 8, 171, false, false, 0, 0, 0, 0, 8, 0, []))]),
  (189, [(171, (.invokevirtual 293, 174, false, false, 165, 2, 1, 15, 0, 0, [])), (174, (.iconst 1, 175, false, false, 0, 0, 0, 0, 1, 0, [])), (175, (.if_icmp .ne 8, 178, false, false, 183, 0, 0, 0, 0, 0, [])), (178, (.aload_n 0, 179, false, false, 0, 0, 0, 0, 0, 0, [])), (179, (.iload_n 2, 180, false, false, 2, 0, 0, 0, 0, 0, [])), (180, (.invokevirtual 434, 183, false, false, 254, 1, 0, 15, 0, 0, [])), (183, (.iinc 2 1, 186, false, false, 2, 0, 0, 0, 1, 0, [])), (186, (.goto (-75), 189, false, true, 111, 0, 0, 0, 0, 0, [])), (189, (.return_, 190, false, false, 0, 0, 0, 0, 0, 0, []))])], 0, [])
set_option maxRecDepth 100000 in
theorem v_X12_winter : VE MYT dflT E_X12_winter := ⟨⟨⟨⟨⟨dX12_winter_0, rfl⟩, rfl⟩, ⟨⟨dX12_winter_1, rfl⟩, Or.inr ⟨by decide, ⟨_, my_246, sX12_425⟩, fun q => absurd q (by decide)⟩⟩, ⟨⟨dX12_winter_4, rfl⟩, rfl⟩, ⟨⟨dX12_winter_5, rfl⟩, rfl⟩, ⟨⟨dX12_winter_6, rfl⟩, rfl⟩, ⟨⟨dX12_winter_7, rfl⟩, rfl⟩, ⟨⟨dX12_winter_8, rfl⟩, Or.inl ⟨by decide, _, _, fX12_27⟩⟩, ⟨⟨dX12_winter_11, rfl⟩, rfl⟩, ⟨⟨dX12_winter_14, rfl⟩, trivial⟩, ⟨⟨dX12_winter_15, rfl⟩, rfl⟩, ⟨⟨dX12_winter_18, rfl⟩, rfl⟩, ⟨⟨dX12_winter_19, rfl⟩, rfl⟩, ⟨⟨dX12_winter_20, rfl⟩, rfl⟩, ⟨⟨dX12_winter_21, rfl⟩, Or.inr ⟨by decide, ⟨_, my_165, sX12_293⟩, fun q => absurd q (by decide)⟩⟩, ⟨⟨dX12_winter_24, rfl⟩, rfl⟩, ⟨⟨dX12_winter_25, rfl⟩, rfl⟩, ⟨⟨dX12_winter_28, rfl⟩, rfl⟩, ⟨⟨dX12_winter_29, rfl⟩, rfl⟩, ⟨⟨dX12_winter_30, rfl⟩, Or.inr ⟨by decide, ⟨_, my_172, sX12_386⟩, fun q => absurd q (by decide)⟩⟩, ⟨⟨dX12_winter_33, rfl⟩, rfl⟩, ⟨⟨dX12_winter_36, rfl⟩, rfl⟩, ⟨⟨dX12_winter_37, rfl⟩, rfl⟩, ⟨⟨dX12_winter_38, rfl⟩, Or.inr ⟨by decide, ⟨_, my_250, sX12_428⟩, fun q => absurd q (by decide)⟩⟩, ⟨⟨dX12_winter_41, rfl⟩, ⟨rfl, rfl⟩⟩, trivial⟩,
  ⟨⟨⟨dX12_winter_44, rfl⟩, rfl⟩, ⟨⟨dX12_winter_47, rfl⟩, rfl⟩, ⟨⟨dX12_winter_48, rfl⟩, rfl⟩, ⟨⟨dX12_winter_49, rfl⟩, rfl⟩, ⟨⟨dX12_winter_50, rfl⟩, rfl⟩, ⟨⟨dX12_winter_51, rfl⟩, Or.inl ⟨by decide, _, _, fX12_27⟩⟩, ⟨⟨dX12_winter_54, rfl⟩, rfl⟩, ⟨⟨dX12_winter_57, rfl⟩, trivial⟩, ⟨⟨dX12_winter_58, rfl⟩, rfl⟩, ⟨⟨dX12_winter_61, rfl⟩, rfl⟩, ⟨⟨dX12_winter_62, rfl⟩, rfl⟩, ⟨⟨dX12_winter_65, rfl⟩, rfl⟩, ⟨⟨dX12_winter_66, rfl⟩, rfl⟩, ⟨⟨dX12_winter_67, rfl⟩, trivial⟩, ⟨⟨dX12_winter_68, rfl⟩, trivial⟩, ⟨⟨dX12_winter_69, rfl⟩, Or.inr ⟨by decide, ⟨_, my_251, sX12_431⟩, fun q => absurd q (by decide)⟩⟩, ⟨⟨dX12_winter_72, rfl⟩, ⟨rfl, rfl⟩⟩, ⟨⟨dX12_winter_75, rfl⟩, rfl⟩, ⟨⟨dX12_winter_78, rfl⟩, rfl⟩, ⟨⟨dX12_winter_79, rfl⟩, Or.inr ⟨by decide, ⟨_, my_252, sX12_339⟩, fun q => absurd q (by decide)⟩⟩, ⟨⟨dX12_winter_82, rfl⟩, rfl⟩, ⟨⟨dX12_winter_83, rfl⟩, rfl⟩, ⟨⟨dX12_winter_84, rfl⟩, rfl⟩, ⟨⟨dX12_winter_85, rfl⟩, trivial⟩, trivial⟩,
  ⟨⟨⟨dX12_winter_86, rfl⟩, trivial⟩, ⟨⟨dX12_winter_87, rfl⟩, Or.inr ⟨by decide, ⟨_, my_235, sX12_355⟩, fun q => absurd q (by decide)⟩⟩, ⟨⟨dX12_winter_90, rfl⟩, rfl⟩, ⟨⟨dX12_winter_91, rfl⟩, Or.inl ⟨by decide, _, _, fX12_27⟩⟩, ⟨⟨dX12_winter_94, rfl⟩, rfl⟩, ⟨⟨dX12_winter_95, rfl⟩, rfl⟩, ⟨⟨dX12_winter_96, rfl⟩, Or.inl ⟨by decide, _, _, fX12_27⟩⟩, ⟨⟨dX12_winter_99, rfl⟩, rfl⟩, ⟨⟨dX12_winter_100, rfl⟩, trivial⟩, ⟨⟨dX12_winter_101, rfl⟩, trivial⟩, ⟨⟨dX12_winter_102, rfl⟩, rfl⟩, ⟨⟨dX12_winter_103, rfl⟩, trivial⟩, ⟨⟨dX12_winter_104, rfl⟩, trivial⟩, ⟨⟨dX12_winter_105, rfl⟩, Or.inl ⟨rfl, _, my_150, sX12_345⟩⟩, ⟨⟨dX12_winter_108, rfl⟩, trivial⟩, ⟨⟨dX12_winter_109, rfl⟩, rfl⟩, ⟨⟨dX12_winter_110, rfl⟩, rfl⟩, ⟨⟨dX12_winter_111, rfl⟩, rfl⟩, ⟨⟨dX12_winter_112, rfl⟩, rfl⟩, ⟨⟨dX12_winter_113, rfl⟩, Or.inl ⟨by decide, _, _, fX12_27⟩⟩, ⟨⟨dX12_winter_116, rfl⟩, rfl⟩, ⟨⟨dX12_winter_119, rfl⟩, trivial⟩, ⟨⟨dX12_winter_120, rfl⟩, rfl⟩, ⟨⟨dX12_winter_123, rfl⟩, rfl⟩, trivial⟩,
  ⟨⟨⟨dX12_winter_124, rfl⟩, rfl⟩, ⟨⟨dX12_winter_125, rfl⟩, Or.inr ⟨by decide, ⟨_, my_178, sX12_389⟩, fun q => absurd q (by decide)⟩⟩, ⟨⟨dX12_winter_128, rfl⟩, rfl⟩, ⟨⟨dX12_winter_131, rfl⟩, rfl⟩, ⟨⟨dX12_winter_132, rfl⟩, rfl⟩, ⟨⟨dX12_winter_133, rfl⟩, Or.inr ⟨by decide, ⟨_, my_172, sX12_386⟩, fun q => absurd q (by decide)⟩⟩, ⟨⟨dX12_winter_136, rfl⟩, rfl⟩, ⟨⟨dX12_winter_139, rfl⟩, rfl⟩, ⟨⟨dX12_winter_142, rfl⟩, rfl⟩, ⟨⟨dX12_winter_143, rfl⟩, rfl⟩, ⟨⟨dX12_winter_144, rfl⟩, rfl⟩, ⟨⟨dX12_winter_145, rfl⟩, Or.inr ⟨by decide, ⟨_, my_165, sX12_293⟩, fun q => absurd q (by decide)⟩⟩, ⟨⟨dX12_winter_148, rfl⟩, rfl⟩, ⟨⟨dX12_winter_151, rfl⟩, rfl⟩, ⟨⟨dX12_winter_152, rfl⟩, rfl⟩, ⟨⟨dX12_winter_153, rfl⟩, rfl⟩, ⟨⟨dX12_winter_154, rfl⟩, Or.inr ⟨by decide, ⟨_, my_165, sX12_293⟩, fun q => absurd q (by decide)⟩⟩, ⟨⟨dX12_winter_157, rfl⟩, rfl⟩, ⟨⟨dX12_winter_158, rfl⟩, Or.inr ⟨by decide, ⟨_, my_48, sX12_89⟩, fun q => absurd q (by decide)⟩⟩, ⟨⟨dX12_winter_161, rfl⟩, rfl⟩, ⟨⟨dX12_winter_164, rfl⟩, rfl⟩, ⟨⟨dX12_winter_167, rfl⟩, rfl⟩, ⟨⟨dX12_winter_168, rfl⟩, rfl⟩, ⟨⟨dX12_winter_169, rfl⟩, rfl⟩, trivial⟩,
  ⟨⟨⟨dX12_winter_171, rfl⟩, Or.inr ⟨by decide, ⟨_, my_165, sX12_293⟩, fun q => absurd q (by decide)⟩⟩, ⟨⟨dX12_winter_174, rfl⟩, rfl⟩, ⟨⟨dX12_winter_175, rfl⟩, rfl⟩, ⟨⟨dX12_winter_178, rfl⟩, rfl⟩, ⟨⟨dX12_winter_179, rfl⟩, rfl⟩, ⟨⟨dX12_winter_180, rfl⟩, Or.inr ⟨by decide, ⟨_, my_254, sX12_434⟩, fun q => absurd q (by decide)⟩⟩, ⟨⟨dX12_winter_183, rfl⟩, ⟨rfl, rfl⟩⟩, ⟨⟨dX12_winter_186, rfl⟩, rfl⟩, ⟨⟨dX12_winter_189, rfl⟩, rfl⟩, trivial⟩, trivial⟩, by decide, Or.inl ⟨rfl, by decide, rfl⟩⟩
set_option maxRecDepth 100000 in
theorem g_X12_winter_0 (S : sT) (call : cT) (n : Nat) (a0 : Nat) (h : pH) : bd S call dflT E_X12_winter (n + 1) 0 [some (.ref a0), none, none] [] h = (rC h (.ref a0) 15 (cU (call 246 [.ref a0] h) (fun h1 => bd S call dflT E_X12_winter n 6 [some (.ref a0), some (.int 0), none] [] h1))) := rfl
set_option maxRecDepth 100000 in
theorem g_X12_winter_6 (S : sT) (call : cT) (n : Nat) (a0 : Nat) (x1 : Int32) (o2 : Option Value) (h : pH) : bd S call dflT E_X12_winter (n + 1) 6 [some (.ref a0), some (.int x1), o2] [] h = (gV h (.ref a0) 15 1 (fun w1 => aI h w1 0 1683 (fun y2 => (if y2 ≤ x1 then bd S call dflT E_X12_winter n 49 [some (.ref a0), some (.int 0), o2] [] h else rC h (.ref a0) 15 (cI (call 165 [.ref a0, .int x1, .int 0] h) (fun y4 h3 => (if y4 = 4 then rC h3 (.ref a0) 15 (cI (call 172 [.ref a0, .int x1] h3) (fun y6 h5 => (if y6 ≤ 0 then bd S call dflT E_X12_winter n 6 [some (.ref a0), some (.int (x1 + 1)), o2] [] h5 else rC h5 (.ref a0) 15 (cU (call 250 [.ref a0, .int x1] h5) (fun h7 => bd S call dflT E_X12_winter n 6 [some (.ref a0), some (.int (x1 + 1)), o2] [] h7))))) else bd S call dflT E_X12_winter n 6 [some (.ref a0), some (.int (x1 + 1)), o2] [] h3))))))) := rfl
set_option maxRecDepth 100000 in
theorem g_X12_winter_49 (S : sT) (call : cT) (n : Nat) (a0 : Nat) (x1 : Int32) (o2 : Option Value) (h : pH) : bd S call dflT E_X12_winter (n + 1) 49 [some (.ref a0), some (.int x1), o2] [] h = (gV h (.ref a0) 15 1 (fun w1 => aI h w1 0 1948 (fun y2 => (if y2 ≤ x1 then rC h (.ref a0) 15 (cI (call 252 [.ref a0] h) (fun y4 h3 => rC h3 (.ref a0) 15 (cU (call 235 [.ref a0, .long (-y4).toInt64] h3) (fun h5 => gV h5 (.ref a0) 15 1 (fun w6 => gV h5 (.ref a0) 15 1 (fun w7 => aI h5 w7 0 4 (fun y8 => cI (call 150 [.long (y8.toInt64 + y4.toInt64)] h5) (fun y10 h9 => sI h9 w6 0 4 y10 (fun h11 => bd S call dflT E_X12_winter n 111 [some (.ref a0), some (.int y4), some (.int 0)] [] h11))))))))) else rC h (.ref a0) 15 (cU (call 251 [.ref a0, .int (1949 + (4 * x1))] h) (fun h12 => bd S call dflT E_X12_winter n 49 [some (.ref a0), some (.int (x1 + 1)), o2] [] h12)))))) := rfl
set_option maxRecDepth 100000 in
theorem g_X12_winter_111 (S : sT) (call : cT) (n : Nat) (a0 : Nat) (x1 : Int32) (x2 : Int32) (h : pH) : bd S call dflT E_X12_winter (n + 1) 111 [some (.ref a0), some (.int x1), some (.int x2)] [] h = (gV h (.ref a0) 15 1 (fun w1 => aI h w1 0 1683 (fun y2 => (if y2 ≤ x2 then some (.inl none, h) else rC h (.ref a0) 15 (cI (call 178 [.ref a0, .int x2] h) (fun y4 h3 => (if y4 = 0 then bd S call dflT E_X12_winter n 111 [some (.ref a0), some (.int x1), some (.int (x2 + 1))] [] h3 else rC h3 (.ref a0) 15 (cI (call 172 [.ref a0, .int x2] h3) (fun y6 h5 => (if y6 = 0 then bd S call dflT E_X12_winter n 111 [some (.ref a0), some (.int x1), some (.int (x2 + 1))] [] h5 else rC h5 (.ref a0) 15 (cI (call 165 [.ref a0, .int x2, .int 0] h5) (fun y8 h7 => (if y8 = 0 then rC h7 (.ref a0) 15 (cI (call 165 [.ref a0, .int x2, .int 4] h7) (fun y13 h12 => rC h12 (.ref a0) 15 (cI (call 48 [.ref a0] h12) (fun y15 h14 => (if y15 < y13 then bd S call dflT E_X12_winter n 111 [some (.ref a0), some (.int x1), some (.int (x2 + 1))] [] h14 else rC h14 (.ref a0) 15 (cU (call 254 [.ref a0, .int x2] h14) (fun h16 => bd S call dflT E_X12_winter n 111 [some (.ref a0), some (.int x1), some (.int (x2 + 1))] [] h16))))))) else rC h7 (.ref a0) 15 (cI (call 165 [.ref a0, .int x2, .int 8] h7) (fun y10 h9 => (if y10 = 1 then rC h9 (.ref a0) 15 (cU (call 254 [.ref a0, .int x2] h9) (fun h11 => bd S call dflT E_X12_winter n 111 [some (.ref a0), some (.int x1), some (.int (x2 + 1))] [] h11)) else bd S call dflT E_X12_winter n 111 [some (.ref a0), some (.int x1), some (.int (x2 + 1))] [] h9)))))))))))))))) := rfl
theorem dX12_seasons_0 : decode cX12_seasons 0 = .ok (.aload_n 0, 1) := by decide +kernel
theorem dX12_seasons_1 : decode cX12_seasons 1 = .ok (.iconst 0, 1) := by decide +kernel
theorem dX12_seasons_2 : decode cX12_seasons 2 = .ok (.putfield 3, 3) := by decide +kernel
theorem dX12_seasons_5 : decode cX12_seasons 5 = .ok (.aload_n 0, 1) := by decide +kernel
theorem dX12_seasons_6 : decode cX12_seasons 6 = .ok (.iload_n 1, 1) := by decide +kernel
theorem dX12_seasons_7 : decode cX12_seasons 7 = .ok (.iconst 0, 1) := by decide +kernel
theorem dX12_seasons_8 : decode cX12_seasons 8 = .ok (.bipush 40, 2) := by decide +kernel
theorem dX12_seasons_10 : decode cX12_seasons 10 = .ok (.invokestatic 63, 3) := by decide +kernel
theorem dX12_seasons_13 : decode cX12_seasons 13 = .ok (.ifCond .ne 7, 3) := by decide +kernel
theorem dX12_seasons_16 : decode cX12_seasons 16 = .ok (.iconst 1, 1) := by decide +kernel
theorem dX12_seasons_17 : decode cX12_seasons 17 = .ok (.goto 4, 3) := by decide +kernel
theorem dX12_seasons_20 : decode cX12_seasons 20 = .ok (.iconst 0, 1) := by decide +kernel
theorem dX12_seasons_21 : decode cX12_seasons 21 = .ok (.iconst 1, 1) := by decide +kernel
theorem dX12_seasons_22 : decode cX12_seasons 22 = .ok (.invokevirtual 75, 3) := by decide +kernel
theorem dX12_seasons_25 : decode cX12_seasons 25 = .ok (.ifCond .eq 5, 3) := by decide +kernel
theorem dX12_seasons_28 : decode cX12_seasons 28 = .ok (.iconst 0, 1) := by decide +kernel
theorem dX12_seasons_29 : decode cX12_seasons 29 = .ok (.ireturn, 1) := by decide +kernel
theorem dX12_seasons_30 : decode cX12_seasons 30 = .ok (.iconst 0, 1) := by decide +kernel
theorem dX12_seasons_31 : decode cX12_seasons 31 = .ok (.istore_n 2, 1) := by decide +kernel
theorem dX12_seasons_32 : decode cX12_seasons 32 = .ok (.iload_n 2, 1) := by decide +kernel
theorem dX12_seasons_33 : decode cX12_seasons 33 = .ok (.iload_n 1, 1) := by decide +kernel
theorem dX12_seasons_34 : decode cX12_seasons 34 = .ok (.if_icmp .ge 87, 3) := by decide +kernel
theorem dX12_seasons_37 : decode cX12_seasons 37 = .ok (.aload_n 0, 1) := by decide +kernel
theorem dX12_seasons_38 : decode cX12_seasons 38 = .ok (.invokevirtual 89, 3) := by decide +kernel
theorem dX12_seasons_41 : decode cX12_seasons 41 = .ok (.sipush 400, 3) := by decide +kernel
theorem dX12_seasons_44 : decode cX12_seasons 44 = .ok (.if_icmp .ge 77, 3) := by decide +kernel
theorem dX12_seasons_47 : decode cX12_seasons 47 = .ok (.aload_n 0, 1) := by decide +kernel
theorem dX12_seasons_48 : decode cX12_seasons 48 = .ok (.invokevirtual 89, 3) := by decide +kernel
theorem dX12_seasons_51 : decode cX12_seasons 51 = .ok (.iconst 4, 1) := by decide +kernel
theorem dX12_seasons_52 : decode cX12_seasons 52 = .ok (.irem, 1) := by decide +kernel
theorem dX12_seasons_53 : decode cX12_seasons 53 = .ok (.tableswitch 48 0 2 #[27, 34, 41], 27) := by decide +kernel
theorem dX12_seasons_80 : decode cX12_seasons 80 = .ok (.aload_n 0, 1) := by decide +kernel
theorem dX12_seasons_81 : decode cX12_seasons 81 = .ok (.invokevirtual 437, 3) := by decide +kernel
theorem dX12_seasons_84 : decode cX12_seasons 84 = .ok (.goto 21, 3) := by decide +kernel
theorem dX12_seasons_87 : decode cX12_seasons 87 = .ok (.aload_n 0, 1) := by decide +kernel
theorem dX12_seasons_88 : decode cX12_seasons 88 = .ok (.invokevirtual 440, 3) := by decide +kernel
theorem dX12_seasons_91 : decode cX12_seasons 91 = .ok (.goto 14, 3) := by decide +kernel
theorem dX12_seasons_94 : decode cX12_seasons 94 = .ok (.aload_n 0, 1) := by decide +kernel
theorem dX12_seasons_95 : decode cX12_seasons 95 = .ok (.invokevirtual 443, 3) := by decide +kernel
theorem dX12_seasons_98 : decode cX12_seasons 98 = .ok (.goto 7, 3) := by decide +kernel
theorem dX12_seasons_101 : decode cX12_seasons 101 = .ok (.aload_n 0, 1) := by decide +kernel
theorem dX12_seasons_102 : decode cX12_seasons 102 = .ok (.invokevirtual 446, 3) := by decide +kernel
theorem dX12_seasons_105 : decode cX12_seasons 105 = .ok (.aload_n 0, 1) := by decide +kernel
theorem dX12_seasons_106 : decode cX12_seasons 106 = .ok (.getfield 27, 3) := by decide +kernel
theorem dX12_seasons_109 : decode cX12_seasons 109 = .ok (.iconst 0, 1) := by decide +kernel
theorem dX12_seasons_110 : decode cX12_seasons 110 = .ok (.dup2, 1) := by decide +kernel
theorem dX12_seasons_111 : decode cX12_seasons 111 = .ok (.iaload, 1) := by decide +kernel
theorem dX12_seasons_112 : decode cX12_seasons 112 = .ok (.iconst 1, 1) := by decide +kernel
theorem dX12_seasons_113 : decode cX12_seasons 113 = .ok (.iadd, 1) := by decide +kernel
theorem dX12_seasons_114 : decode cX12_seasons 114 = .ok (.iastore, 1) := by decide +kernel
theorem dX12_seasons_115 : decode cX12_seasons 115 = .ok (.iinc 2 1, 3) := by decide +kernel
theorem dX12_seasons_118 : decode cX12_seasons 118 = .ok (.goto (-86), 3) := by decide +kernel
theorem dX12_seasons_121 : decode cX12_seasons 121 = .ok (.aload_n 0, 1) := by decide +kernel
theorem dX12_seasons_122 : decode cX12_seasons 122 = .ok (.invokevirtual 89, 3) := by decide +kernel
theorem dX12_seasons_125 : decode cX12_seasons 125 = .ok (.ireturn, 1) := by decide +kernel
noncomputable def E_X12_seasons : mE := (mX12_seasons, [(38, [(0, (.aload_n 0, 1, false, false, 0, 0, 0, 0, 0, 0, [])), (1, (.iconst 0, 2, false, false, 0, 0, 0, 0, 0, 0, [])), (2, (.putfield 3, 5, false, false, 15, 0, 0, 0, 0, 0, [])), (5, (.aload_n 0, 6, false, false, 0, 0, 0, 0, 0, 0, [])), (6, (.iload_n 1, 7, false, false, 1, 0, 0, 0, 0, 0, [])), (7, (.iconst 0, 8, false, false, 0, 0, 0, 0, 0, 0, [])), (8, (.bipush 40, 10, false, false, 0, 0, 0, 0, 40, 0, [])), (10, (.invokestatic 63, 13, false, false, 28, 3, 1, 0, 0, 0, [])), (13, (.ifCond .ne 7, 16, false, false, 20, 0, 0, 0, 0, 0, [])), (16, (.iconst 1, 17, false, false, 0, 0, 0, 0, 1, 0, [])), (17, (.goto 4, 20, false, false, 21, 0, 0, 0, 0, 0, [])), (20, (.iconst 0, 21, false, false, 0, 0, 0, 0, 0, 0, [])), (21, (.iconst 1, 22, false, false, 0, 0, 0, 0, 1, 0, [])), (22, (.invokevirtual 75, 25, false, false, 30, 2, 1, 15, 0, 0, [])), (25, (.ifCond .eq 5, 28, false, false, 30, 0, 0, 0, 0, 0, [])), (28, (.iconst 0, 29, false, false, 0, 0, 0, 0, 0, 0, [])), (29, (.ireturn, 30, false, false, 0, 0, 0, 0, 0, 0, [])), (30, (.iconst 0, 31, false, false, 0, 0, 0, 0, 0, 0, [])), (31, (.istore_n 2, 32, true, false, 2, 0, 0, 0, 0, 0, [])), (32, (.iload_n 2, 33, false, false, 2, 0, 0, 0, 0, 0, [])), (33, (.iload_n 1, 34, false, false, 1, 0, 0, 0, 0, 0, [])), (34, (.if_icmp .ge 87, 37, false, false, 121, 0, 0, 0, 0, 0, [])), (37, (.aload_n 0, 38, false, false, 0, 0, 0, 0, 0, 0, [])), (38, (.invokevirtual 89, 41, false, false, 48, 0, 1, 15, 0, 0, []))]),
  (112, [(41, (.sipush 400, 44, false, false, 0, 0, 0, 0, 400, 0, [])), (44, (.if_icmp .ge 77, 47, false, false, 121, 0, 0, 0, 0, 0, [])), (47, (.aload_n 0, 48, false, false, 0, 0, 0, 0, 0, 0, [])), (48, (.invokevirtual 89, 51, false, false, 48, 0, 1, 15, 0, 0, [])), (51, (.iconst 4, 52, false, false, 0, 0, 0, 0, 4, 0, [])), (52, (.irem, 53, false, false, 0, 0, 0, 0, 0, 0, [])), (53, (.tableswitch 48 0 2 #[27, 34, 41], 0, false, false, 101, 0, 0, 0, 0, 0, [(0, 80), (1, 87), (2, 94)])), (80, (.aload_n 0, 81, false, false, 0, 0, 0, 0, 0, 0, [])), (81, (.invokevirtual 437, 84, false, false, 234, 0, 0, 15, 0, 0, [])), (84, (.goto 21, 87, false, false, 105, 0, 0, 0, 0, 0, [])), (87, (.aload_n 0, 88, false, false, 0, 0, 0, 0, 0, 0, [])), (88, (.invokevirtual 440, 91, false, false, 237, 0, 0, 15, 0, 0, [])), (91, (.goto 14, 94, false, false, 105, 0, 0, 0, 0, 0, [])), (94, (.aload_n 0, 95, false, false, 0, 0, 0, 0, 0, 0, [])), (95, (.invokevirtual 443, 98, false, false, 243, 0, 0, 15, 0, 0, [])), (98, (.goto 7, 101, false, false, 105, 0, 0, 0, 0, 0, [])), (101, (.aload_n 0, 102, false, false, 0, 0, 0, 0, 0, 0, [])), (102, (.invokevirtual 446, 105, false, false, 255, 0, 0, 15, 0, 0, [])), (105, (.aload_n 0, 106, false, false, 0, 0, 0, 0, 0, 0, [])), (106, (.getfield 27, 109, false, false, 15, 1, 1, 0, 0, 0, [])), (109, (.iconst 0, 110, false, false, 0, 0, 0, 0, 0, 0, [])), (110, (.dup2, 111, false, false, 0, 0, 0, 0, 0, 0, [])), (111, (.iaload, 112, false, false, 0, 0, 0, 0, 0, 0, [])), (112, (.iconst 1, 113, false, false, 0, 0, 0, 0, 1, 0, []))]),
  (125, [(113, (.iadd, 114, false, false, 0, 0, 0, 0, 0, 0, [])), (114, (.iastore, 115, false, false, 0, 0, 0, 0, 0, 0, [])), (115, (.iinc 2 1, 118, false, false, 2, 0, 0, 0, 1, 0, [])), (118, (.goto (-86), 121, false, true, 32, 0, 0, 0, 0, 0, [])), (121, (.aload_n 0, 122, false, false, 0, 0, 0, 0, 0, 0, [])), (122, (.invokevirtual 89, 125, false, false, 48, 0, 1, 15, 0, 0, [])), (125, (.ireturn, 126, false, false, 0, 0, 0, 0, 0, 0, []))])], 0, [])
set_option maxRecDepth 100000 in
theorem v_X12_seasons : VE MYT dflT E_X12_seasons := ⟨⟨⟨⟨⟨dX12_seasons_0, rfl⟩, rfl⟩, ⟨⟨dX12_seasons_1, rfl⟩, rfl⟩, ⟨⟨dX12_seasons_2, rfl⟩, Or.inl ⟨rfl, fX12_3⟩⟩, ⟨⟨dX12_seasons_5, rfl⟩, rfl⟩, ⟨⟨dX12_seasons_6, rfl⟩, rfl⟩, ⟨⟨dX12_seasons_7, rfl⟩, rfl⟩, ⟨⟨dX12_seasons_8, rfl⟩, rfl⟩, ⟨⟨dX12_seasons_10, rfl⟩, Or.inl ⟨rfl, _, my_28, sX12_63⟩⟩, ⟨⟨dX12_seasons_13, rfl⟩, rfl⟩, ⟨⟨dX12_seasons_16, rfl⟩, rfl⟩, ⟨⟨dX12_seasons_17, rfl⟩, rfl⟩, ⟨⟨dX12_seasons_20, rfl⟩, rfl⟩, ⟨⟨dX12_seasons_21, rfl⟩, rfl⟩, ⟨⟨dX12_seasons_22, rfl⟩, Or.inr ⟨by decide, ⟨_, my_30, sX12_75⟩, fun q => absurd q (by decide)⟩⟩, ⟨⟨dX12_seasons_25, rfl⟩, rfl⟩, ⟨⟨dX12_seasons_28, rfl⟩, rfl⟩, ⟨⟨dX12_seasons_29, rfl⟩, Or.inl ⟨rfl, rfl⟩⟩, ⟨⟨dX12_seasons_30, rfl⟩, rfl⟩, ⟨⟨dX12_seasons_31, rfl⟩, rfl⟩, ⟨⟨dX12_seasons_32, rfl⟩, rfl⟩, ⟨⟨dX12_seasons_33, rfl⟩, rfl⟩, ⟨⟨dX12_seasons_34, rfl⟩, rfl⟩, ⟨⟨dX12_seasons_37, rfl⟩, rfl⟩, ⟨⟨dX12_seasons_38, rfl⟩, Or.inr ⟨by decide, ⟨_, my_48, sX12_89⟩, fun q => absurd q (by decide)⟩⟩, trivial⟩,
  ⟨⟨⟨dX12_seasons_41, rfl⟩, rfl⟩, ⟨⟨dX12_seasons_44, rfl⟩, rfl⟩, ⟨⟨dX12_seasons_47, rfl⟩, rfl⟩, ⟨⟨dX12_seasons_48, rfl⟩, Or.inr ⟨by decide, ⟨_, my_48, sX12_89⟩, fun q => absurd q (by decide)⟩⟩, ⟨⟨dX12_seasons_51, rfl⟩, rfl⟩, ⟨⟨dX12_seasons_52, rfl⟩, trivial⟩, ⟨⟨_, dX12_seasons_53⟩, ⟨rfl, rfl, rfl, rfl, rfl, rfl, rfl, rfl, trivial⟩⟩, ⟨⟨dX12_seasons_80, rfl⟩, rfl⟩, ⟨⟨dX12_seasons_81, rfl⟩, Or.inr ⟨by decide, ⟨_, my_234, sX12_437⟩, fun q => absurd q (by decide)⟩⟩, ⟨⟨dX12_seasons_84, rfl⟩, rfl⟩, ⟨⟨dX12_seasons_87, rfl⟩, rfl⟩, ⟨⟨dX12_seasons_88, rfl⟩, Or.inr ⟨by decide, ⟨_, my_237, sX12_440⟩, fun q => absurd q (by decide)⟩⟩, ⟨⟨dX12_seasons_91, rfl⟩, rfl⟩, ⟨⟨dX12_seasons_94, rfl⟩, rfl⟩, ⟨⟨dX12_seasons_95, rfl⟩, Or.inr ⟨by decide, ⟨_, my_243, sX12_443⟩, fun q => absurd q (by decide)⟩⟩, ⟨⟨dX12_seasons_98, rfl⟩, rfl⟩, ⟨⟨dX12_seasons_101, rfl⟩, rfl⟩, ⟨⟨dX12_seasons_102, rfl⟩, Or.inr ⟨by decide, ⟨_, my_255, sX12_446⟩, fun q => absurd q (by decide)⟩⟩, ⟨⟨dX12_seasons_105, rfl⟩, rfl⟩, ⟨⟨dX12_seasons_106, rfl⟩, Or.inl ⟨by decide, _, _, fX12_27⟩⟩, ⟨⟨dX12_seasons_109, rfl⟩, rfl⟩, ⟨⟨dX12_seasons_110, rfl⟩, trivial⟩, ⟨⟨dX12_seasons_111, rfl⟩, trivial⟩, ⟨⟨dX12_seasons_112, rfl⟩, rfl⟩, trivial⟩,
  ⟨⟨⟨dX12_seasons_113, rfl⟩, trivial⟩, ⟨⟨dX12_seasons_114, rfl⟩, trivial⟩, ⟨⟨dX12_seasons_115, rfl⟩, ⟨rfl, rfl⟩⟩, ⟨⟨dX12_seasons_118, rfl⟩, rfl⟩, ⟨⟨dX12_seasons_121, rfl⟩, rfl⟩, ⟨⟨dX12_seasons_122, rfl⟩, Or.inr ⟨by decide, ⟨_, my_48, sX12_89⟩, fun q => absurd q (by decide)⟩⟩, ⟨⟨dX12_seasons_125, rfl⟩, Or.inl ⟨rfl, rfl⟩⟩, trivial⟩, trivial⟩, by decide, Or.inl ⟨rfl, by decide, rfl⟩⟩
set_option maxRecDepth 100000 in
theorem g_X12_seasons_0 (S : sT) (call : cT) (n : Nat) (a0 : Nat) (x1 : Int32) (h : pH) : bd S call dflT E_X12_seasons (n + 1) 0 [some (.ref a0), some (.int x1), none] [] h = (pF h (.ref a0) 15 0 (.int 0) (fun h1 => cI (call 28 [.int x1, .int 0, .int 40] h1) (fun y3 h2 => (if y3 = 0 then rC h2 (.ref a0) 15 (cI (call 30 [.ref a0, .int 1, .int 1] h2) (fun y7 h6 => (if y7 = 0 then bd S call dflT E_X12_seasons n 32 [some (.ref a0), some (.int x1), some (.int 0)] [] h6 else some (.inl (some (.int 0)), h6)))) else rC h2 (.ref a0) 15 (cI (call 30 [.ref a0, .int 0, .int 1] h2) (fun y5 h4 => (if y5 = 0 then bd S call dflT E_X12_seasons n 32 [some (.ref a0), some (.int x1), some (.int 0)] [] h4 else some (.inl (some (.int 0)), h4)))))))) := rfl
set_option maxRecDepth 100000 in
theorem g_X12_seasons_32 (S : sT) (call : cT) (n : Nat) (a0 : Nat) (x1 : Int32) (x2 : Int32) (h : pH) : bd S call dflT E_X12_seasons (n + 1) 32 [some (.ref a0), some (.int x1), some (.int x2)] [] h = ((if x1 ≤ x2 then rC h (.ref a0) 15 (cI (call 48 [.ref a0] h) (fun y2 h1 => some (.inl (some (.int y2)), h1))) else rC h (.ref a0) 15 (cI (call 48 [.ref a0] h) (fun y4 h3 => (if 400 ≤ y4 then rC h3 (.ref a0) 15 (cI (call 48 [.ref a0] h3) (fun y6 h5 => some (.inl (some (.int y6)), h5))) else rC h3 (.ref a0) 15 (cI (call 48 [.ref a0] h3) (fun y8 h7 => dv 4 ((if (y8 - y8 / 4 * 4) = 0 then bd S call dflT E_X12_seasons n 80 [some (.ref a0), some (.int x1), some (.int x2)] [] h7 else (if (y8 - y8 / 4 * 4) = 1 then bd S call dflT E_X12_seasons n 87 [some (.ref a0), some (.int x1), some (.int x2)] [] h7 else (if (y8 - y8 / 4 * 4) = 2 then bd S call dflT E_X12_seasons n 94 [some (.ref a0), some (.int x1), some (.int x2)] [] h7 else bd S call dflT E_X12_seasons n 101 [some (.ref a0), some (.int x1), some (.int x2)] [] h7))))))))))) := rfl
set_option maxRecDepth 100000 in
theorem g_X12_seasons_80 (S : sT) (call : cT) (n : Nat) (a0 : Nat) (x1 : Int32) (x2 : Int32) (h : pH) : bd S call dflT E_X12_seasons (n + 1) 80 [some (.ref a0), some (.int x1), some (.int x2)] [] h = (rC h (.ref a0) 15 (cU (call 234 [.ref a0] h) (fun h1 => gV h1 (.ref a0) 15 1 (fun w2 => nl w2 (aI h1 w2 0 0 (fun y3 => sI h1 w2 0 0 (y3 + 1) (fun h4 => bd S call dflT E_X12_seasons n 32 [some (.ref a0), some (.int x1), some (.int (x2 + 1))] [] h4))))))) := rfl
set_option maxRecDepth 100000 in
theorem g_X12_seasons_87 (S : sT) (call : cT) (n : Nat) (a0 : Nat) (x1 : Int32) (x2 : Int32) (h : pH) : bd S call dflT E_X12_seasons (n + 1) 87 [some (.ref a0), some (.int x1), some (.int x2)] [] h = (rC h (.ref a0) 15 (cU (call 237 [.ref a0] h) (fun h1 => gV h1 (.ref a0) 15 1 (fun w2 => nl w2 (aI h1 w2 0 0 (fun y3 => sI h1 w2 0 0 (y3 + 1) (fun h4 => bd S call dflT E_X12_seasons n 32 [some (.ref a0), some (.int x1), some (.int (x2 + 1))] [] h4))))))) := rfl
set_option maxRecDepth 100000 in
theorem g_X12_seasons_94 (S : sT) (call : cT) (n : Nat) (a0 : Nat) (x1 : Int32) (x2 : Int32) (h : pH) : bd S call dflT E_X12_seasons (n + 1) 94 [some (.ref a0), some (.int x1), some (.int x2)] [] h = (rC h (.ref a0) 15 (cU (call 243 [.ref a0] h) (fun h1 => gV h1 (.ref a0) 15 1 (fun w2 => nl w2 (aI h1 w2 0 0 (fun y3 => sI h1 w2 0 0 (y3 + 1) (fun h4 => bd S call dflT E_X12_seasons n 32 [some (.ref a0), some (.int x1), some (.int (x2 + 1))] [] h4))))))) := rfl
set_option maxRecDepth 100000 in
theorem g_X12_seasons_101 (S : sT) (call : cT) (n : Nat) (a0 : Nat) (x1 : Int32) (x2 : Int32) (h : pH) : bd S call dflT E_X12_seasons (n + 1) 101 [some (.ref a0), some (.int x1), some (.int x2)] [] h = (rC h (.ref a0) 15 (cU (call 255 [.ref a0] h) (fun h1 => gV h1 (.ref a0) 15 1 (fun w2 => nl w2 (aI h1 w2 0 0 (fun y3 => sI h1 w2 0 0 (y3 + 1) (fun h4 => bd S call dflT E_X12_seasons n 32 [some (.ref a0), some (.int x1), some (.int (x2 + 1))] [] h4))))))) := rfl
theorem dX12_worthOf_0 : decode cX12_worthOf 0 = .ok (.bipush 20, 2) := by decide +kernel
theorem dX12_worthOf_2 : decode cX12_worthOf 2 = .ok (.aload_n 0, 1) := by decide +kernel
theorem dX12_worthOf_3 : decode cX12_worthOf 3 = .ok (.iload_n 1, 1) := by decide +kernel
theorem dX12_worthOf_4 : decode cX12_worthOf 4 = .ok (.iconst 0, 1) := by decide +kernel
theorem dX12_worthOf_5 : decode cX12_worthOf 5 = .ok (.invokevirtual 79, 3) := by decide +kernel
theorem dX12_worthOf_8 : decode cX12_worthOf 8 = .ok (.imul, 1) := by decide +kernel
theorem dX12_worthOf_9 : decode cX12_worthOf 9 = .ok (.bipush 100, 2) := by decide +kernel
theorem dX12_worthOf_11 : decode cX12_worthOf 11 = .ok (.iadd, 1) := by decide +kernel
theorem dX12_worthOf_12 : decode cX12_worthOf 12 = .ok (.iconst 5, 1) := by decide +kernel
theorem dX12_worthOf_13 : decode cX12_worthOf 13 = .ok (.aload_n 0, 1) := by decide +kernel
theorem dX12_worthOf_14 : decode cX12_worthOf 14 = .ok (.iload_n 1, 1) := by decide +kernel
theorem dX12_worthOf_15 : decode cX12_worthOf 15 = .ok (.iconst 2, 1) := by decide +kernel
theorem dX12_worthOf_16 : decode cX12_worthOf 16 = .ok (.invokevirtual 79, 3) := by decide +kernel
theorem dX12_worthOf_19 : decode cX12_worthOf 19 = .ok (.imul, 1) := by decide +kernel
theorem dX12_worthOf_20 : decode cX12_worthOf 20 = .ok (.isub, 1) := by decide +kernel
theorem dX12_worthOf_21 : decode cX12_worthOf 21 = .ok (.aload_n 0, 1) := by decide +kernel
theorem dX12_worthOf_22 : decode cX12_worthOf 22 = .ok (.iload_n 1, 1) := by decide +kernel
theorem dX12_worthOf_23 : decode cX12_worthOf 23 = .ok (.iconst 4, 1) := by decide +kernel
theorem dX12_worthOf_24 : decode cX12_worthOf 24 = .ok (.invokevirtual 79, 3) := by decide +kernel
theorem dX12_worthOf_27 : decode cX12_worthOf 27 = .ok (.ifCond .le 7, 3) := by decide +kernel
theorem dX12_worthOf_30 : decode cX12_worthOf 30 = .ok (.iconst 0, 1) := by decide +kernel
theorem dX12_worthOf_31 : decode cX12_worthOf 31 = .ok (.goto 12, 3) := by decide +kernel
theorem dX12_worthOf_34 : decode cX12_worthOf 34 = .ok (.bipush 10, 2) := by decide +kernel
theorem dX12_worthOf_36 : decode cX12_worthOf 36 = .ok (.aload_n 0, 1) := by decide +kernel
theorem dX12_worthOf_37 : decode cX12_worthOf 37 = .ok (.iload_n 1, 1) := by decide +kernel
theorem dX12_worthOf_38 : decode cX12_worthOf 38 = .ok (.iconst 1, 1) := by decide +kernel
theorem dX12_worthOf_39 : decode cX12_worthOf 39 = .ok (.invokevirtual 79, 3) := by decide +kernel
theorem dX12_worthOf_42 : decode cX12_worthOf 42 = .ok (.imul, 1) := by decide +kernel
theorem dX12_worthOf_43 : decode cX12_worthOf 43 = .ok (.isub, 1) := by decide +kernel
theorem dX12_worthOf_44 : decode cX12_worthOf 44 = .ok (.bipush 30, 2) := by decide +kernel
theorem dX12_worthOf_46 : decode cX12_worthOf 46 = .ok (.aload_n 0, 1) := by decide +kernel
theorem dX12_worthOf_47 : decode cX12_worthOf 47 = .ok (.iload_n 1, 1) := by decide +kernel
theorem dX12_worthOf_48 : decode cX12_worthOf 48 = .ok (.bipush 8, 2) := by decide +kernel
theorem dX12_worthOf_50 : decode cX12_worthOf 50 = .ok (.invokevirtual 79, 3) := by decide +kernel
theorem dX12_worthOf_53 : decode cX12_worthOf 53 = .ok (.imul, 1) := by decide +kernel
theorem dX12_worthOf_54 : decode cX12_worthOf 54 = .ok (.isub, 1) := by decide +kernel
theorem dX12_worthOf_55 : decode cX12_worthOf 55 = .ok (.istore_n 2, 1) := by decide +kernel
theorem dX12_worthOf_56 : decode cX12_worthOf 56 = .ok (.bipush 10, 2) := by decide +kernel
theorem dX12_worthOf_58 : decode cX12_worthOf 58 = .ok (.iload_n 2, 1) := by decide +kernel
theorem dX12_worthOf_59 : decode cX12_worthOf 59 = .ok (.invokestatic 100, 3) := by decide +kernel
theorem dX12_worthOf_62 : decode cX12_worthOf 62 = .ok (.aload_n 0, 1) := by decide +kernel
theorem dX12_worthOf_63 : decode cX12_worthOf 63 = .ok (.iload_n 1, 1) := by decide +kernel
theorem dX12_worthOf_64 : decode cX12_worthOf 64 = .ok (.bipush 7, 2) := by decide +kernel
theorem dX12_worthOf_66 : decode cX12_worthOf 66 = .ok (.invokevirtual 79, 3) := by decide +kernel
theorem dX12_worthOf_69 : decode cX12_worthOf 69 = .ok (.aload_n 0, 1) := by decide +kernel
theorem dX12_worthOf_70 : decode cX12_worthOf 70 = .ok (.iload_n 1, 1) := by decide +kernel
theorem dX12_worthOf_71 : decode cX12_worthOf 71 = .ok (.bipush 7, 2) := by decide +kernel
theorem dX12_worthOf_73 : decode cX12_worthOf 73 = .ok (.invokevirtual 79, 3) := by decide +kernel
theorem dX12_worthOf_76 : decode cX12_worthOf 76 = .ok (.imul, 1) := by decide +kernel
theorem dX12_worthOf_77 : decode cX12_worthOf 77 = .ok (.iadd, 1) := by decide +kernel
theorem dX12_worthOf_78 : decode cX12_worthOf 78 = .ok (.ireturn, 1) := by decide +kernel
noncomputable def E_X12_worthOf : mE := (mX12_worthOf, [(36, [(0, (.bipush 20, 2, false, false, 0, 0, 0, 0, 20, 0, [])), (2, (.aload_n 0, 3, false, false, 0, 0, 0, 0, 0, 0, [])), (3, (.iload_n 1, 4, false, false, 1, 0, 0, 0, 0, 0, [])), (4, (.iconst 0, 5, false, false, 0, 0, 0, 0, 0, 0, [])), (5, (.invokevirtual 79, 8, false, false, 31, 2, 1, 15, 0, 0, [])), (8, (.imul, 9, false, false, 0, 0, 0, 0, 0, 0, [])), (9, (.bipush 100, 11, false, false, 0, 0, 0, 0, 100, 0, [])), (11, (.iadd, 12, false, false, 0, 0, 0, 0, 0, 0, [])), (12, (.iconst 5, 13, false, false, 0, 0, 0, 0, 5, 0, [])), (13, (.aload_n 0, 14, false, false, 0, 0, 0, 0, 0, 0, [])), (14, (.iload_n 1, 15, false, false, 1, 0, 0, 0, 0, 0, [])), (15, (.iconst 2, 16, false, false, 0, 0, 0, 0, 2, 0, [])), (16, (.invokevirtual 79, 19, false, false, 31, 2, 1, 15, 0, 0, [])), (19, (.imul, 20, false, false, 0, 0, 0, 0, 0, 0, [])), (20, (.isub, 21, false, false, 0, 0, 0, 0, 0, 0, [])), (21, (.aload_n 0, 22, false, false, 0, 0, 0, 0, 0, 0, [])), (22, (.iload_n 1, 23, false, false, 1, 0, 0, 0, 0, 0, [])), (23, (.iconst 4, 24, false, false, 0, 0, 0, 0, 4, 0, [])), (24, (.invokevirtual 79, 27, false, false, 31, 2, 1, 15, 0, 0, [])), (27, (.ifCond .le 7, 30, false, false, 34, 0, 0, 0, 0, 0, [])), (30, (.iconst 0, 31, false, false, 0, 0, 0, 0, 0, 0, [])), (31, (.goto 12, 34, false, true, 43, 0, 0, 0, 0, 0, [])), (34, (.bipush 10, 36, false, false, 0, 0, 0, 0, 10, 0, [])), (36, (.aload_n 0, 37, false, false, 0, 0, 0, 0, 0, 0, []))]),
  (73, [(37, (.iload_n 1, 38, false, false, 1, 0, 0, 0, 0, 0, [])), (38, (.iconst 1, 39, false, false, 0, 0, 0, 0, 1, 0, [])), (39, (.invokevirtual 79, 42, false, false, 31, 2, 1, 15, 0, 0, [])), (42, (.imul, 43, true, false, 0, 0, 0, 0, 0, 0, [])), (43, (.isub, 44, false, false, 0, 0, 0, 0, 0, 0, [])), (44, (.bipush 30, 46, false, false, 0, 0, 0, 0, 30, 0, [])), (46, (.aload_n 0, 47, false, false, 0, 0, 0, 0, 0, 0, [])), (47, (.iload_n 1, 48, false, false, 1, 0, 0, 0, 0, 0, [])), (48, (.bipush 8, 50, false, false, 0, 0, 0, 0, 8, 0, [])), (50, (.invokevirtual 79, 53, false, false, 31, 2, 1, 15, 0, 0, [])), (53, (.imul, 54, false, false, 0, 0, 0, 0, 0, 0, [])), (54, (.isub, 55, false, false, 0, 0, 0, 0, 0, 0, [])), (55, (.istore_n 2, 56, false, false, 2, 0, 0, 0, 0, 0, [])), (56, (.bipush 10, 58, false, false, 0, 0, 0, 0, 10, 0, [])), (58, (.iload_n 2, 59, false, false, 2, 0, 0, 0, 0, 0, [])), (59, (.invokestatic 100, 62, false, false, 0, 2, 1, 5, 0, 0, [])), (62, (.aload_n 0, 63, false, false, 0, 0, 0, 0, 0, 0, [])), (63, (.iload_n 1, 64, false, false, 1, 0, 0, 0, 0, 0, [])), (64, (.bipush 7, 66, false, false, 0, 0, 0, 0, 7, 0, [])), (66, (.invokevirtual 79, 69, false, false, 31, 2, 1, 15, 0, 0, [])), (69, (.aload_n 0, 70, false, false, 0, 0, 0, 0, 0, 0, [])), (70, (.iload_n 1, 71, false, false, 1, 0, 0, 0, 0, 0, [])), (71, (.bipush 7, 73, false, false, 0, 0, 0, 0, 7, 0, [])), (73, (.invokevirtual 79, 76, false, false, 31, 2, 1, 15, 0, 0, []))]),
  (78, [(76, (.imul, 77, false, false, 0, 0, 0, 0, 0, 0, [])), (77, (.iadd, 78, false, false, 0, 0, 0, 0, 0, 0, [])), (78, (.ireturn, 79, false, false, 0, 0, 0, 0, 0, 0, []))])], 0, [])
set_option maxRecDepth 100000 in
theorem v_X12_worthOf : VE MYT dflT E_X12_worthOf := ⟨⟨⟨⟨⟨dX12_worthOf_0, rfl⟩, rfl⟩, ⟨⟨dX12_worthOf_2, rfl⟩, rfl⟩, ⟨⟨dX12_worthOf_3, rfl⟩, rfl⟩, ⟨⟨dX12_worthOf_4, rfl⟩, rfl⟩, ⟨⟨dX12_worthOf_5, rfl⟩, Or.inr ⟨by decide, ⟨_, my_31, sX12_79⟩, fun q => absurd q (by decide)⟩⟩, ⟨⟨dX12_worthOf_8, rfl⟩, trivial⟩, ⟨⟨dX12_worthOf_9, rfl⟩, rfl⟩, ⟨⟨dX12_worthOf_11, rfl⟩, trivial⟩, ⟨⟨dX12_worthOf_12, rfl⟩, rfl⟩, ⟨⟨dX12_worthOf_13, rfl⟩, rfl⟩, ⟨⟨dX12_worthOf_14, rfl⟩, rfl⟩, ⟨⟨dX12_worthOf_15, rfl⟩, rfl⟩, ⟨⟨dX12_worthOf_16, rfl⟩, Or.inr ⟨by decide, ⟨_, my_31, sX12_79⟩, fun q => absurd q (by decide)⟩⟩, ⟨⟨dX12_worthOf_19, rfl⟩, trivial⟩, ⟨⟨dX12_worthOf_20, rfl⟩, trivial⟩, ⟨⟨dX12_worthOf_21, rfl⟩, rfl⟩, ⟨⟨dX12_worthOf_22, rfl⟩, rfl⟩, ⟨⟨dX12_worthOf_23, rfl⟩, rfl⟩, ⟨⟨dX12_worthOf_24, rfl⟩, Or.inr ⟨by decide, ⟨_, my_31, sX12_79⟩, fun q => absurd q (by decide)⟩⟩, ⟨⟨dX12_worthOf_27, rfl⟩, rfl⟩, ⟨⟨dX12_worthOf_30, rfl⟩, rfl⟩, ⟨⟨dX12_worthOf_31, rfl⟩, rfl⟩, ⟨⟨dX12_worthOf_34, rfl⟩, rfl⟩, ⟨⟨dX12_worthOf_36, rfl⟩, rfl⟩, trivial⟩,
  ⟨⟨⟨dX12_worthOf_37, rfl⟩, rfl⟩, ⟨⟨dX12_worthOf_38, rfl⟩, rfl⟩, ⟨⟨dX12_worthOf_39, rfl⟩, Or.inr ⟨by decide, ⟨_, my_31, sX12_79⟩, fun q => absurd q (by decide)⟩⟩, ⟨⟨dX12_worthOf_42, rfl⟩, trivial⟩, ⟨⟨dX12_worthOf_43, rfl⟩, trivial⟩, ⟨⟨dX12_worthOf_44, rfl⟩, rfl⟩, ⟨⟨dX12_worthOf_46, rfl⟩, rfl⟩, ⟨⟨dX12_worthOf_47, rfl⟩, rfl⟩, ⟨⟨dX12_worthOf_48, rfl⟩, rfl⟩, ⟨⟨dX12_worthOf_50, rfl⟩, Or.inr ⟨by decide, ⟨_, my_31, sX12_79⟩, fun q => absurd q (by decide)⟩⟩, ⟨⟨dX12_worthOf_53, rfl⟩, trivial⟩, ⟨⟨dX12_worthOf_54, rfl⟩, trivial⟩, ⟨⟨dX12_worthOf_55, rfl⟩, rfl⟩, ⟨⟨dX12_worthOf_56, rfl⟩, rfl⟩, ⟨⟨dX12_worthOf_58, rfl⟩, rfl⟩, ⟨⟨dX12_worthOf_59, rfl⟩, Or.inr (Or.inr (Or.inr (Or.inr (Or.inl ⟨rfl, sX12_100⟩))))⟩, ⟨⟨dX12_worthOf_62, rfl⟩, rfl⟩, ⟨⟨dX12_worthOf_63, rfl⟩, rfl⟩, ⟨⟨dX12_worthOf_64, rfl⟩, rfl⟩, ⟨⟨dX12_worthOf_66, rfl⟩, Or.inr ⟨by decide, ⟨_, my_31, sX12_79⟩, fun q => absurd q (by decide)⟩⟩, ⟨⟨dX12_worthOf_69, rfl⟩, rfl⟩, ⟨⟨dX12_worthOf_70, rfl⟩, rfl⟩, ⟨⟨dX12_worthOf_71, rfl⟩, rfl⟩, ⟨⟨dX12_worthOf_73, rfl⟩, Or.inr ⟨by decide, ⟨_, my_31, sX12_79⟩, fun q => absurd q (by decide)⟩⟩, trivial⟩,
  ⟨⟨⟨dX12_worthOf_76, rfl⟩, trivial⟩, ⟨⟨dX12_worthOf_77, rfl⟩, trivial⟩, ⟨⟨dX12_worthOf_78, rfl⟩, Or.inl ⟨rfl, rfl⟩⟩, trivial⟩, trivial⟩, by decide, Or.inl ⟨rfl, by decide, rfl⟩⟩
set_option maxRecDepth 100000 in
theorem g_X12_worthOf_0 (S : sT) (call : cT) (n : Nat) (a0 : Nat) (x1 : Int32) (h : pH) : bd S call dflT E_X12_worthOf (n + 1) 0 [some (.ref a0), some (.int x1), none] [] h = (rC h (.ref a0) 15 (cI (call 31 [.ref a0, .int x1, .int 0] h) (fun y2 h1 => rC h1 (.ref a0) 15 (cI (call 31 [.ref a0, .int x1, .int 2] h1) (fun y4 h3 => rC h3 (.ref a0) 15 (cI (call 31 [.ref a0, .int x1, .int 4] h3) (fun y6 h5 => (if y6 ≤ 0 then rC h5 (.ref a0) 15 (cI (call 31 [.ref a0, .int x1, .int 1] h5) (fun y8 h7 => bd S call dflT E_X12_worthOf n 43 [some (.ref a0), some (.int x1), none] [.int (10 * y8), .int (((20 * y2) + 100) - (5 * y4))] h7)) else bd S call dflT E_X12_worthOf n 43 [some (.ref a0), some (.int x1), none] [.int 0, .int (((20 * y2) + 100) - (5 * y4))] h5)))))))) := rfl
set_option maxRecDepth 100000 in
theorem g_X12_worthOf_43 (S : sT) (call : cT) (n : Nat) (a0 : Nat) (x1 : Int32) (o2 : Option Value) (y0 : Int32) (y1 : Int32) (h : pH) : bd S call dflT E_X12_worthOf (n + 1) 43 [some (.ref a0), some (.int x1), o2] [.int y1, .int y0] h = (rC h (.ref a0) 15 (cI (call 31 [.ref a0, .int x1, .int 8] h) (fun y2 h1 => rC h1 (.ref a0) 15 (cI (call 31 [.ref a0, .int x1, .int 7] h1) (fun y4 h3 => rC h3 (.ref a0) 15 (cI (call 31 [.ref a0, .int x1, .int 7] h3) (fun y6 h5 => some (.inl (some (.int ((if (10 : Int32) < ((y0 - y1) - (30 * y2)) then ((y0 - y1) - (30 * y2)) else (10 : Int32)) + (y4 * y6)))), h5)))))))) := rfl
theorem dX12_look_0 : decode cX12_look 0 = .ok (.aload_n 0, 1) := by decide +kernel
theorem dX12_look_1 : decode cX12_look 1 = .ok (.iconst 0, 1) := by decide +kernel
theorem dX12_look_2 : decode cX12_look 2 = .ok (.putfield 3, 3) := by decide +kernel
theorem dX12_look_5 : decode cX12_look 5 = .ok (.aload_n 0, 1) := by decide +kernel
theorem dX12_look_6 : decode cX12_look 6 = .ok (.iload_n 1, 1) := by decide +kernel
theorem dX12_look_7 : decode cX12_look 7 = .ok (.invokestatic 71, 3) := by decide +kernel
theorem dX12_look_10 : decode cX12_look 10 = .ok (.iconst 1, 1) := by decide +kernel
theorem dX12_look_11 : decode cX12_look 11 = .ok (.invokevirtual 75, 3) := by decide +kernel
theorem dX12_look_14 : decode cX12_look 14 = .ok (.ifCond .ne 26, 3) := by decide +kernel
theorem dX12_look_17 : decode cX12_look 17 = .ok (.aload_n 0, 1) := by decide +kernel
theorem dX12_look_18 : decode cX12_look 18 = .ok (.iload_n 2, 1) := by decide +kernel
theorem dX12_look_19 : decode cX12_look 19 = .ok (.iconst 0, 1) := by decide +kernel
theorem dX12_look_20 : decode cX12_look 20 = .ok (.bipush 12, 2) := by decide +kernel
theorem dX12_look_22 : decode cX12_look 22 = .ok (.invokestatic 63, 3) := by decide +kernel
theorem dX12_look_25 : decode cX12_look 25 = .ok (.ifCond .ne 7, 3) := by decide +kernel
theorem dX12_look_28 : decode cX12_look 28 = .ok (.iconst 1, 1) := by decide +kernel
theorem dX12_look_29 : decode cX12_look 29 = .ok (.goto 4, 3) := by decide +kernel
theorem dX12_look_32 : decode cX12_look 32 = .ok (.iconst 0, 1) := by decide +kernel
theorem dX12_look_33 : decode cX12_look 33 = .ok (.iconst 2, 1) := by decide +kernel
theorem dX12_look_34 : decode cX12_look 34 = .ok (.invokevirtual 75, 3) := by decide +kernel
theorem dX12_look_37 : decode cX12_look 37 = .ok (.ifCond .eq 5, 3) := by decide +kernel
theorem dX12_look_40 : decode cX12_look 40 = .ok (.iconst 0, 1) := by decide +kernel
theorem dX12_look_41 : decode cX12_look 41 = .ok (.ireturn, 1) := by decide +kernel
theorem dX12_look_42 : decode cX12_look 42 = .ok (.iload_n 2, 1) := by decide +kernel
theorem dX12_look_43 : decode cX12_look 43 = .ok (.bipush 12, 2) := by decide +kernel
theorem dX12_look_45 : decode cX12_look 45 = .ok (.if_icmp .ne 11, 3) := by decide +kernel
theorem dX12_look_48 : decode cX12_look 48 = .ok (.aload_n 0, 1) := by decide +kernel
theorem dX12_look_49 : decode cX12_look 49 = .ok (.iload_n 1, 1) := by decide +kernel
theorem dX12_look_50 : decode cX12_look 50 = .ok (.invokevirtual 102, 3) := by decide +kernel
theorem dX12_look_53 : decode cX12_look 53 = .ok (.goto 9, 3) := by decide +kernel
theorem dX12_look_56 : decode cX12_look 56 = .ok (.aload_n 0, 1) := by decide +kernel
theorem dX12_look_57 : decode cX12_look 57 = .ok (.iload_n 1, 1) := by decide +kernel
theorem dX12_look_58 : decode cX12_look 58 = .ok (.iload_n 2, 1) := by decide +kernel
theorem dX12_look_59 : decode cX12_look 59 = .ok (.invokevirtual 79, 3) := by decide +kernel
theorem dX12_look_62 : decode cX12_look 62 = .ok (.ireturn, 1) := by decide +kernel
noncomputable def E_X12_look : mE := (mX12_look, [(42, [(0, (.aload_n 0, 1, false, false, 0, 0, 0, 0, 0, 0, [])), (1, (.iconst 0, 2, false, false, 0, 0, 0, 0, 0, 0, [])), (2, (.putfield 3, 5, false, false, 15, 0, 0, 0, 0, 0, [])), (5, (.aload_n 0, 6, false, false, 0, 0, 0, 0, 0, 0, [])), (6, (.iload_n 1, 7, false, false, 1, 0, 0, 0, 0, 0, [])), (7, (.invokestatic 71, 10, false, false, 29, 1, 1, 0, 0, 0, [])), (10, (.iconst 1, 11, false, false, 0, 0, 0, 0, 1, 0, [])), (11, (.invokevirtual 75, 14, false, false, 30, 2, 1, 15, 0, 0, [])), (14, (.ifCond .ne 26, 17, false, false, 40, 0, 0, 0, 0, 0, [])), (17, (.aload_n 0, 18, false, false, 0, 0, 0, 0, 0, 0, [])), (18, (.iload_n 2, 19, false, false, 2, 0, 0, 0, 0, 0, [])), (19, (.iconst 0, 20, false, false, 0, 0, 0, 0, 0, 0, [])), (20, (.bipush 12, 22, false, false, 0, 0, 0, 0, 12, 0, [])), (22, (.invokestatic 63, 25, false, false, 28, 3, 1, 0, 0, 0, [])), (25, (.ifCond .ne 7, 28, false, false, 32, 0, 0, 0, 0, 0, [])), (28, (.iconst 1, 29, false, false, 0, 0, 0, 0, 1, 0, [])), (29, (.goto 4, 32, false, true, 33, 0, 0, 0, 0, 0, [])), (32, (.iconst 0, 33, true, false, 0, 0, 0, 0, 0, 0, [])), (33, (.iconst 2, 34, false, false, 0, 0, 0, 0, 2, 0, [])), (34, (.invokevirtual 75, 37, false, false, 30, 2, 1, 15, 0, 0, [])), (37, (.ifCond .eq 5, 40, false, false, 42, 0, 0, 0, 0, 0, [])), (40, (.iconst 0, 41, false, false, 0, 0, 0, 0, 0, 0, [])), (41, (.ireturn, 42, false, false, 0, 0, 0, 0, 0, 0, [])), (42, (.iload_n 2, 43, false, false, 2, 0, 0, 0, 0, 0, []))]),
  (62, [(43, (.bipush 12, 45, false, false, 0, 0, 0, 0, 12, 0, [])), (45, (.if_icmp .ne 11, 48, false, false, 56, 0, 0, 0, 0, 0, [])), (48, (.aload_n 0, 49, false, false, 0, 0, 0, 0, 0, 0, [])), (49, (.iload_n 1, 50, false, false, 1, 0, 0, 0, 0, 0, [])), (50, (.invokevirtual 102, 53, false, false, 262, 1, 1, 15, 0, 0, [])), (53, (.goto 9, 56, false, false, 62, 0, 0, 0, 0, 0, [])), (56, (.aload_n 0, 57, false, false, 0, 0, 0, 0, 0, 0, [])), (57, (.iload_n 1, 58, false, false, 1, 0, 0, 0, 0, 0, [])), (58, (.iload_n 2, 59, false, false, 2, 0, 0, 0, 0, 0, [])), (59, (.invokevirtual 79, 62, false, false, 31, 2, 1, 15, 0, 0, [])), (62, (.ireturn, 63, false, false, 0, 0, 0, 0, 0, 0, []))])], 0, [])
set_option maxRecDepth 100000 in
theorem v_X12_look : VE MYT dflT E_X12_look := ⟨⟨⟨⟨⟨dX12_look_0, rfl⟩, rfl⟩, ⟨⟨dX12_look_1, rfl⟩, rfl⟩, ⟨⟨dX12_look_2, rfl⟩, Or.inl ⟨rfl, fX12_3⟩⟩, ⟨⟨dX12_look_5, rfl⟩, rfl⟩, ⟨⟨dX12_look_6, rfl⟩, rfl⟩, ⟨⟨dX12_look_7, rfl⟩, Or.inl ⟨rfl, _, my_29, sX12_71⟩⟩, ⟨⟨dX12_look_10, rfl⟩, rfl⟩, ⟨⟨dX12_look_11, rfl⟩, Or.inr ⟨by decide, ⟨_, my_30, sX12_75⟩, fun q => absurd q (by decide)⟩⟩, ⟨⟨dX12_look_14, rfl⟩, rfl⟩, ⟨⟨dX12_look_17, rfl⟩, rfl⟩, ⟨⟨dX12_look_18, rfl⟩, rfl⟩, ⟨⟨dX12_look_19, rfl⟩, rfl⟩, ⟨⟨dX12_look_20, rfl⟩, rfl⟩, ⟨⟨dX12_look_22, rfl⟩, Or.inl ⟨rfl, _, my_28, sX12_63⟩⟩, ⟨⟨dX12_look_25, rfl⟩, rfl⟩, ⟨⟨dX12_look_28, rfl⟩, rfl⟩, ⟨⟨dX12_look_29, rfl⟩, rfl⟩, ⟨⟨dX12_look_32, rfl⟩, rfl⟩, ⟨⟨dX12_look_33, rfl⟩, rfl⟩, ⟨⟨dX12_look_34, rfl⟩, Or.inr ⟨by decide, ⟨_, my_30, sX12_75⟩, fun q => absurd q (by decide)⟩⟩, ⟨⟨dX12_look_37, rfl⟩, rfl⟩, ⟨⟨dX12_look_40, rfl⟩, rfl⟩, ⟨⟨dX12_look_41, rfl⟩, Or.inl ⟨rfl, rfl⟩⟩, ⟨⟨dX12_look_42, rfl⟩, rfl⟩, trivial⟩,
  ⟨⟨⟨dX12_look_43, rfl⟩, rfl⟩, ⟨⟨dX12_look_45, rfl⟩, rfl⟩, ⟨⟨dX12_look_48, rfl⟩, rfl⟩, ⟨⟨dX12_look_49, rfl⟩, rfl⟩, ⟨⟨dX12_look_50, rfl⟩, Or.inr ⟨by decide, ⟨_, my_262, sX12_102⟩, fun q => absurd q (by decide)⟩⟩, ⟨⟨dX12_look_53, rfl⟩, rfl⟩, ⟨⟨dX12_look_56, rfl⟩, rfl⟩, ⟨⟨dX12_look_57, rfl⟩, rfl⟩, ⟨⟨dX12_look_58, rfl⟩, rfl⟩, ⟨⟨dX12_look_59, rfl⟩, Or.inr ⟨by decide, ⟨_, my_31, sX12_79⟩, fun q => absurd q (by decide)⟩⟩, ⟨⟨dX12_look_62, rfl⟩, Or.inl ⟨rfl, rfl⟩⟩, trivial⟩, trivial⟩, by decide, Or.inl ⟨rfl, by decide, rfl⟩⟩
set_option maxRecDepth 100000 in
theorem g_X12_look_0 (S : sT) (call : cT) (n : Nat) (a0 : Nat) (x1 : Int32) (x2 : Int32) (h : pH) : bd S call dflT E_X12_look (n + 1) 0 [some (.ref a0), some (.int x1), some (.int x2)] [] h = (pF h (.ref a0) 15 0 (.int 0) (fun h1 => cI (call 29 [.int x1] h1) (fun y3 h2 => rC h2 (.ref a0) 15 (cI (call 30 [.ref a0, .int y3, .int 1] h2) (fun y5 h4 => (if y5 = 0 then cI (call 28 [.int x2, .int 0, .int 12] h4) (fun y7 h6 => (if y7 = 0 then bd S call dflT E_X12_look n 33 [some (.ref a0), some (.int x1), some (.int x2)] [.int 1, .ref a0] h6 else bd S call dflT E_X12_look n 33 [some (.ref a0), some (.int x1), some (.int x2)] [.int 0, .ref a0] h6)) else some (.inl (some (.int 0)), h4))))))) := rfl
set_option maxRecDepth 100000 in
theorem g_X12_look_33 (S : sT) (call : cT) (n : Nat) (a0 : Nat) (x1 : Int32) (x2 : Int32) (u0 : Value) (y1 : Int32) (h : pH) : bd S call dflT E_X12_look (n + 1) 33 [some (.ref a0), some (.int x1), some (.int x2)] [.int y1, u0] h = (rC h u0 15 (cI (call 30 [u0, .int y1, .int 2] h) (fun y2 h1 => (if y2 = 0 then (if x2 = 12 then rC h1 (.ref a0) 15 (cI (call 262 [.ref a0, .int x1] h1) (fun y6 h5 => some (.inl (some (.int y6)), h5))) else rC h1 (.ref a0) 15 (cI (call 31 [.ref a0, .int x1, .int x2] h1) (fun y4 h3 => some (.inl (some (.int y4)), h3)))) else some (.inl (some (.int 0)), h1))))) := rfl
theorem dX12_led_0 : decode cX12_led 0 = .ok (.aload_n 0, 1) := by decide +kernel
theorem dX12_led_1 : decode cX12_led 1 = .ok (.iconst 0, 1) := by decide +kernel
theorem dX12_led_2 : decode cX12_led 2 = .ok (.putfield 3, 3) := by decide +kernel
theorem dX12_led_5 : decode cX12_led 5 = .ok (.aload_n 0, 1) := by decide +kernel
theorem dX12_led_6 : decode cX12_led 6 = .ok (.aload_n 0, 1) := by decide +kernel
theorem dX12_led_7 : decode cX12_led 7 = .ok (.iload_n 1, 1) := by decide +kernel
theorem dX12_led_8 : decode cX12_led 8 = .ok (.invokevirtual 383, 3) := by decide +kernel
theorem dX12_led_11 : decode cX12_led 11 = .ok (.iconst 1, 1) := by decide +kernel
theorem dX12_led_12 : decode cX12_led 12 = .ok (.invokevirtual 75, 3) := by decide +kernel
theorem dX12_led_15 : decode cX12_led 15 = .ok (.ifCond .eq 5, 3) := by decide +kernel
theorem dX12_led_18 : decode cX12_led 18 = .ok (.iconst 0, 1) := by decide +kernel
theorem dX12_led_19 : decode cX12_led 19 = .ok (.ireturn, 1) := by decide +kernel
theorem dX12_led_20 : decode cX12_led 20 = .ok (.iload_n 2, 1) := by decide +kernel
theorem dX12_led_21 : decode cX12_led 21 = .ok (.tableswitch 145 0 10 #[59, 66, 72, 79, 86, 93, 100, 114, 121, 129, 137], 59) := by decide +kernel
theorem dX12_led_80 : decode cX12_led 80 = .ok (.aload_n 0, 1) := by decide +kernel
theorem dX12_led_81 : decode cX12_led 81 = .ok (.iload_n 1, 1) := by decide +kernel
theorem dX12_led_82 : decode cX12_led 82 = .ok (.iconst 0, 1) := by decide +kernel
theorem dX12_led_83 : decode cX12_led 83 = .ok (.invokevirtual 293, 3) := by decide +kernel
theorem dX12_led_86 : decode cX12_led 86 = .ok (.ireturn, 1) := by decide +kernel
theorem dX12_led_87 : decode cX12_led 87 = .ok (.aload_n 0, 1) := by decide +kernel
theorem dX12_led_88 : decode cX12_led 88 = .ok (.iload_n 1, 1) := by decide +kernel
theorem dX12_led_89 : decode cX12_led 89 = .ok (.invokevirtual 386, 3) := by decide +kernel
theorem dX12_led_92 : decode cX12_led 92 = .ok (.ireturn, 1) := by decide +kernel
theorem dX12_led_93 : decode cX12_led 93 = .ok (.aload_n 0, 1) := by decide +kernel
theorem dX12_led_94 : decode cX12_led 94 = .ok (.iload_n 1, 1) := by decide +kernel
theorem dX12_led_95 : decode cX12_led 95 = .ok (.iconst 1, 1) := by decide +kernel
theorem dX12_led_96 : decode cX12_led 96 = .ok (.invokevirtual 293, 3) := by decide +kernel
theorem dX12_led_99 : decode cX12_led 99 = .ok (.ireturn, 1) := by decide +kernel
theorem dX12_led_100 : decode cX12_led 100 = .ok (.aload_n 0, 1) := by decide +kernel
theorem dX12_led_101 : decode cX12_led 101 = .ok (.iload_n 1, 1) := by decide +kernel
theorem dX12_led_102 : decode cX12_led 102 = .ok (.iconst 2, 1) := by decide +kernel
theorem dX12_led_103 : decode cX12_led 103 = .ok (.invokevirtual 293, 3) := by decide +kernel
theorem dX12_led_106 : decode cX12_led 106 = .ok (.ireturn, 1) := by decide +kernel
theorem dX12_led_107 : decode cX12_led 107 = .ok (.aload_n 0, 1) := by decide +kernel
theorem dX12_led_108 : decode cX12_led 108 = .ok (.iload_n 1, 1) := by decide +kernel
theorem dX12_led_109 : decode cX12_led 109 = .ok (.iconst 3, 1) := by decide +kernel
theorem dX12_led_110 : decode cX12_led 110 = .ok (.invokevirtual 293, 3) := by decide +kernel
theorem dX12_led_113 : decode cX12_led 113 = .ok (.ireturn, 1) := by decide +kernel
theorem dX12_led_114 : decode cX12_led 114 = .ok (.aload_n 0, 1) := by decide +kernel
theorem dX12_led_115 : decode cX12_led 115 = .ok (.iload_n 1, 1) := by decide +kernel
theorem dX12_led_116 : decode cX12_led 116 = .ok (.iconst 4, 1) := by decide +kernel
theorem dX12_led_117 : decode cX12_led 117 = .ok (.invokevirtual 293, 3) := by decide +kernel
theorem dX12_led_120 : decode cX12_led 120 = .ok (.ireturn, 1) := by decide +kernel
theorem dX12_led_121 : decode cX12_led 121 = .ok (.aload_n 0, 1) := by decide +kernel
theorem dX12_led_122 : decode cX12_led 122 = .ok (.iload_n 1, 1) := by decide +kernel
theorem dX12_led_123 : decode cX12_led 123 = .ok (.invokevirtual 386, 3) := by decide +kernel
theorem dX12_led_126 : decode cX12_led 126 = .ok (.ifCond .ne 7, 3) := by decide +kernel
theorem dX12_led_129 : decode cX12_led 129 = .ok (.iconst 1, 1) := by decide +kernel
theorem dX12_led_130 : decode cX12_led 130 = .ok (.goto 4, 3) := by decide +kernel
theorem dX12_led_133 : decode cX12_led 133 = .ok (.iconst 0, 1) := by decide +kernel
theorem dX12_led_134 : decode cX12_led 134 = .ok (.ireturn, 1) := by decide +kernel
theorem dX12_led_135 : decode cX12_led 135 = .ok (.aload_n 0, 1) := by decide +kernel
theorem dX12_led_136 : decode cX12_led 136 = .ok (.iload_n 1, 1) := by decide +kernel
theorem dX12_led_137 : decode cX12_led 137 = .ok (.iconst 5, 1) := by decide +kernel
theorem dX12_led_138 : decode cX12_led 138 = .ok (.invokevirtual 293, 3) := by decide +kernel
theorem dX12_led_141 : decode cX12_led 141 = .ok (.ireturn, 1) := by decide +kernel
theorem dX12_led_142 : decode cX12_led 142 = .ok (.aload_n 0, 1) := by decide +kernel
theorem dX12_led_143 : decode cX12_led 143 = .ok (.iload_n 1, 1) := by decide +kernel
theorem dX12_led_144 : decode cX12_led 144 = .ok (.bipush 6, 2) := by decide +kernel
theorem dX12_led_146 : decode cX12_led 146 = .ok (.invokevirtual 293, 3) := by decide +kernel
theorem dX12_led_149 : decode cX12_led 149 = .ok (.ireturn, 1) := by decide +kernel
theorem dX12_led_150 : decode cX12_led 150 = .ok (.aload_n 0, 1) := by decide +kernel
theorem dX12_led_151 : decode cX12_led 151 = .ok (.iload_n 1, 1) := by decide +kernel
theorem dX12_led_152 : decode cX12_led 152 = .ok (.bipush 7, 2) := by decide +kernel
theorem dX12_led_154 : decode cX12_led 154 = .ok (.invokevirtual 293, 3) := by decide +kernel
theorem dX12_led_157 : decode cX12_led 157 = .ok (.ireturn, 1) := by decide +kernel
theorem dX12_led_158 : decode cX12_led 158 = .ok (.aload_n 0, 1) := by decide +kernel
theorem dX12_led_159 : decode cX12_led 159 = .ok (.iload_n 1, 1) := by decide +kernel
theorem dX12_led_160 : decode cX12_led 160 = .ok (.bipush 8, 2) := by decide +kernel
theorem dX12_led_162 : decode cX12_led 162 = .ok (.invokevirtual 293, 3) := by decide +kernel
theorem dX12_led_165 : decode cX12_led 165 = .ok (.ireturn, 1) := by decide +kernel
theorem dX12_led_166 : decode cX12_led 166 = .ok (.aload_n 0, 1) := by decide +kernel
theorem dX12_led_167 : decode cX12_led 167 = .ok (.iconst 2, 1) := by decide +kernel
theorem dX12_led_168 : decode cX12_led 168 = .ok (.putfield 3, 3) := by decide +kernel
theorem dX12_led_171 : decode cX12_led 171 = .ok (.iconst 0, 1) := by decide +kernel
theorem dX12_led_172 : decode cX12_led 172 = .ok (.ireturn, 1) := by decide +kernel
noncomputable def E_X12_led : mE := (mX12_led, [(93, [(0, (.aload_n 0, 1, false, false, 0, 0, 0, 0, 0, 0, [])), (1, (.iconst 0, 2, false, false, 0, 0, 0, 0, 0, 0, [])), (2, (.putfield 3, 5, false, false, 15, 0, 0, 0, 0, 0, [])), (5, (.aload_n 0, 6, false, false, 0, 0, 0, 0, 0, 0, [])), (6, (.aload_n 0, 7, false, false, 0, 0, 0, 0, 0, 0, [])), (7, (.iload_n 1, 8, false, false, 1, 0, 0, 0, 0, 0, [])), (8, (.invokevirtual 383, 11, false, false, 171, 1, 1, 15, 0, 0, [])), (11, (.iconst 1, 12, false, false, 0, 0, 0, 0, 1, 0, [])), (12, (.invokevirtual 75, 15, false, false, 30, 2, 1, 15, 0, 0, [])), (15, (.ifCond .eq 5, 18, false, false, 20, 0, 0, 0, 0, 0, [])), (18, (.iconst 0, 19, false, false, 0, 0, 0, 0, 0, 0, [])), (19, (.ireturn, 20, false, false, 0, 0, 0, 0, 0, 0, [])), (20, (.iload_n 2, 21, false, false, 2, 0, 0, 0, 0, 0, [])), (21, (.tableswitch 145 0 10 #[59, 66, 72, 79, 86, 93, 100, 114, 121, 129, 137], 0, false, false, 166, 0, 0, 0, 0, 0, [(0, 80), (1, 87), (2, 93), (3, 100), (4, 107), (5, 114), (6, 121), (7, 135), (8, 142), (9, 150), (10, 158)])), (80, (.aload_n 0, 81, false, false, 0, 0, 0, 0, 0, 0, [])), (81, (.iload_n 1, 82, false, false, 1, 0, 0, 0, 0, 0, [])), (82, (.iconst 0, 83, false, false, 0, 0, 0, 0, 0, 0, [])), (83, (.invokevirtual 293, 86, false, false, 165, 2, 1, 15, 0, 0, [])), (86, (.ireturn, 87, false, false, 0, 0, 0, 0, 0, 0, [])), (87, (.aload_n 0, 88, false, false, 0, 0, 0, 0, 0, 0, [])), (88, (.iload_n 1, 89, false, false, 1, 0, 0, 0, 0, 0, [])), (89, (.invokevirtual 386, 92, false, false, 172, 1, 1, 15, 0, 0, [])), (92, (.ireturn, 93, false, false, 0, 0, 0, 0, 0, 0, [])), (93, (.aload_n 0, 94, false, false, 0, 0, 0, 0, 0, 0, []))]),
  (129, [(94, (.iload_n 1, 95, false, false, 1, 0, 0, 0, 0, 0, [])), (95, (.iconst 1, 96, false, false, 0, 0, 0, 0, 1, 0, [])), (96, (.invokevirtual 293, 99, false, false, 165, 2, 1, 15, 0, 0, [])), (99, (.ireturn, 100, false, false, 0, 0, 0, 0, 0, 0, [])), (100, (.aload_n 0, 101, false, false, 0, 0, 0, 0, 0, 0, [])), (101, (.iload_n 1, 102, false, false, 1, 0, 0, 0, 0, 0, [])), (102, (.iconst 2, 103, false, false, 0, 0, 0, 0, 2, 0, [])), (103, (.invokevirtual 293, 106, false, false, 165, 2, 1, 15, 0, 0, [])), (106, (.ireturn, 107, false, false, 0, 0, 0, 0, 0, 0, [])), (107, (.aload_n 0, 108, false, false, 0, 0, 0, 0, 0, 0, [])), (108, (.iload_n 1, 109, false, false, 1, 0, 0, 0, 0, 0, [])), (109, (.iconst 3, 110, false, false, 0, 0, 0, 0, 3, 0, [])), (110, (.invokevirtual 293, 113, false, false, 165, 2, 1, 15, 0, 0, [])), (113, (.ireturn, 114, false, false, 0, 0, 0, 0, 0, 0, [])), (114, (.aload_n 0, 115, false, false, 0, 0, 0, 0, 0, 0, [])), (115, (.iload_n 1, 116, false, false, 1, 0, 0, 0, 0, 0, [])), (116, (.iconst 4, 117, false, false, 0, 0, 0, 0, 4, 0, [])), (117, (.invokevirtual 293, 120, false, false, 165, 2, 1, 15, 0, 0, [])), (120, (.ireturn, 121, false, false, 0, 0, 0, 0, 0, 0, [])), (121, (.aload_n 0, 122, false, false, 0, 0, 0, 0, 0, 0, [])), (122, (.iload_n 1, 123, false, false, 1, 0, 0, 0, 0, 0, [])), (123, (.invokevirtual 386, 126, false, false, 172, 1, 1, 15, 0, 0, [])), (126, (.ifCond .ne 7, 129, false, false, 133, 0, 0, 0, 0, 0, [])), (129, (.iconst 1, 130, false, false, 0, 0, 0, 0, 1, 0, []))]),
  (166, [(130, (.goto 4, 133, false, false, 134, 0, 0, 0, 0, 0, [])), (133, (.iconst 0, 134, false, false, 0, 0, 0, 0, 0, 0, [])), (134, (.ireturn, 135, false, false, 0, 0, 0, 0, 0, 0, [])), (135, (.aload_n 0, 136, false, false, 0, 0, 0, 0, 0, 0, [])), (136, (.iload_n 1, 137, false, false, 1, 0, 0, 0, 0, 0, [])), (137, (.iconst 5, 138, false, false, 0, 0, 0, 0, 5, 0, [])), (138, (.invokevirtual 293, 141, false, false, 165, 2, 1, 15, 0, 0, [])), (141, (.ireturn, 142, false, false, 0, 0, 0, 0, 0, 0, [])), (142, (.aload_n 0, 143, false, false, 0, 0, 0, 0, 0, 0, [])), (143, (.iload_n 1, 144, false, false, 1, 0, 0, 0, 0, 0, [])), (144, (.bipush 6, 146, false, false, 0, 0, 0, 0, 6, 0, [])), (146, (.invokevirtual 293, 149, false, false, 165, 2, 1, 15, 0, 0, [])), (149, (.ireturn, 150, false, false, 0, 0, 0, 0, 0, 0, [])), (150, (.aload_n 0, 151, false, false, 0, 0, 0, 0, 0, 0, [])), (151, (.iload_n 1, 152, false, false, 1, 0, 0, 0, 0, 0, [])), (152, (.bipush 7, 154, false, false, 0, 0, 0, 0, 7, 0, [])), (154, (.invokevirtual 293, 157, false, false, 165, 2, 1, 15, 0, 0, [])), (157, (.ireturn, 158, false, false, 0, 0, 0, 0, 0, 0, [])), (158, (.aload_n 0, 159, false, false, 0, 0, 0, 0, 0, 0, [])), (159, (.iload_n 1, 160, false, false, 1, 0, 0, 0, 0, 0, [])), (160, (.bipush 8, 162, false, false, 0, 0, 0, 0, 8, 0, [])), (162, (.invokevirtual 293, 165, false, false, 165, 2, 1, 15, 0, 0, [])), (165, (.ireturn, 166, false, false, 0, 0, 0, 0, 0, 0, [])), (166, (.aload_n 0, 167, false, false, 0, 0, 0, 0, 0, 0, []))]),
  (172, [(167, (.iconst 2, 168, false, false, 0, 0, 0, 0, 2, 0, [])), (168, (.putfield 3, 171, false, false, 15, 0, 0, 0, 0, 0, [])), (171, (.iconst 0, 172, false, false, 0, 0, 0, 0, 0, 0, [])), (172, (.ireturn, 173, false, false, 0, 0, 0, 0, 0, 0, []))])], 0, [])
set_option maxRecDepth 100000 in
theorem v_X12_led : VE MYT dflT E_X12_led := ⟨⟨⟨⟨⟨dX12_led_0, rfl⟩, rfl⟩, ⟨⟨dX12_led_1, rfl⟩, rfl⟩, ⟨⟨dX12_led_2, rfl⟩, Or.inl ⟨rfl, fX12_3⟩⟩, ⟨⟨dX12_led_5, rfl⟩, rfl⟩, ⟨⟨dX12_led_6, rfl⟩, rfl⟩, ⟨⟨dX12_led_7, rfl⟩, rfl⟩, ⟨⟨dX12_led_8, rfl⟩, Or.inr ⟨by decide, ⟨_, my_171, sX12_383⟩, fun q => absurd q (by decide)⟩⟩, ⟨⟨dX12_led_11, rfl⟩, rfl⟩, ⟨⟨dX12_led_12, rfl⟩, Or.inr ⟨by decide, ⟨_, my_30, sX12_75⟩, fun q => absurd q (by decide)⟩⟩, ⟨⟨dX12_led_15, rfl⟩, rfl⟩, ⟨⟨dX12_led_18, rfl⟩, rfl⟩, ⟨⟨dX12_led_19, rfl⟩, Or.inl ⟨rfl, rfl⟩⟩, ⟨⟨dX12_led_20, rfl⟩, rfl⟩, ⟨⟨_, dX12_led_21⟩, ⟨rfl, rfl, rfl, rfl, rfl, rfl, rfl, rfl, rfl, rfl, rfl, rfl, rfl, rfl, rfl, rfl, rfl, rfl, rfl, rfl, rfl, rfl, rfl, rfl, trivial⟩⟩, ⟨⟨dX12_led_80, rfl⟩, rfl⟩, ⟨⟨dX12_led_81, rfl⟩, rfl⟩, ⟨⟨dX12_led_82, rfl⟩, rfl⟩, ⟨⟨dX12_led_83, rfl⟩, Or.inr ⟨by decide, ⟨_, my_165, sX12_293⟩, fun q => absurd q (by decide)⟩⟩, ⟨⟨dX12_led_86, rfl⟩, Or.inl ⟨rfl, rfl⟩⟩, ⟨⟨dX12_led_87, rfl⟩, rfl⟩, ⟨⟨dX12_led_88, rfl⟩, rfl⟩, ⟨⟨dX12_led_89, rfl⟩, Or.inr ⟨by decide, ⟨_, my_172, sX12_386⟩, fun q => absurd q (by decide)⟩⟩, ⟨⟨dX12_led_92, rfl⟩, Or.inl ⟨rfl, rfl⟩⟩, ⟨⟨dX12_led_93, rfl⟩, rfl⟩, trivial⟩,
  ⟨⟨⟨dX12_led_94, rfl⟩, rfl⟩, ⟨⟨dX12_led_95, rfl⟩, rfl⟩, ⟨⟨dX12_led_96, rfl⟩, Or.inr ⟨by decide, ⟨_, my_165, sX12_293⟩, fun q => absurd q (by decide)⟩⟩, ⟨⟨dX12_led_99, rfl⟩, Or.inl ⟨rfl, rfl⟩⟩, ⟨⟨dX12_led_100, rfl⟩, rfl⟩, ⟨⟨dX12_led_101, rfl⟩, rfl⟩, ⟨⟨dX12_led_102, rfl⟩, rfl⟩, ⟨⟨dX12_led_103, rfl⟩, Or.inr ⟨by decide, ⟨_, my_165, sX12_293⟩, fun q => absurd q (by decide)⟩⟩, ⟨⟨dX12_led_106, rfl⟩, Or.inl ⟨rfl, rfl⟩⟩, ⟨⟨dX12_led_107, rfl⟩, rfl⟩, ⟨⟨dX12_led_108, rfl⟩, rfl⟩, ⟨⟨dX12_led_109, rfl⟩, rfl⟩, ⟨⟨dX12_led_110, rfl⟩, Or.inr ⟨by decide, ⟨_, my_165, sX12_293⟩, fun q => absurd q (by decide)⟩⟩, ⟨⟨dX12_led_113, rfl⟩, Or.inl ⟨rfl, rfl⟩⟩, ⟨⟨dX12_led_114, rfl⟩, rfl⟩, ⟨⟨dX12_led_115, rfl⟩, rfl⟩, ⟨⟨dX12_led_116, rfl⟩, rfl⟩, ⟨⟨dX12_led_117, rfl⟩, Or.inr ⟨by decide, ⟨_, my_165, sX12_293⟩, fun q => absurd q (by decide)⟩⟩, ⟨⟨dX12_led_120, rfl⟩, Or.inl ⟨rfl, rfl⟩⟩, ⟨⟨dX12_led_121, rfl⟩, rfl⟩, ⟨⟨dX12_led_122, rfl⟩, rfl⟩, ⟨⟨dX12_led_123, rfl⟩, Or.inr ⟨by decide, ⟨_, my_172, sX12_386⟩, fun q => absurd q (by decide)⟩⟩, ⟨⟨dX12_led_126, rfl⟩, rfl⟩, ⟨⟨dX12_led_129, rfl⟩, rfl⟩, trivial⟩,
  ⟨⟨⟨dX12_led_130, rfl⟩, rfl⟩, ⟨⟨dX12_led_133, rfl⟩, rfl⟩, ⟨⟨dX12_led_134, rfl⟩, Or.inl ⟨rfl, rfl⟩⟩, ⟨⟨dX12_led_135, rfl⟩, rfl⟩, ⟨⟨dX12_led_136, rfl⟩, rfl⟩, ⟨⟨dX12_led_137, rfl⟩, rfl⟩, ⟨⟨dX12_led_138, rfl⟩, Or.inr ⟨by decide, ⟨_, my_165, sX12_293⟩, fun q => absurd q (by decide)⟩⟩, ⟨⟨dX12_led_141, rfl⟩, Or.inl ⟨rfl, rfl⟩⟩, ⟨⟨dX12_led_142, rfl⟩, rfl⟩, ⟨⟨dX12_led_143, rfl⟩, rfl⟩, ⟨⟨dX12_led_144, rfl⟩, rfl⟩, ⟨⟨dX12_led_146, rfl⟩, Or.inr ⟨by decide, ⟨_, my_165, sX12_293⟩, fun q => absurd q (by decide)⟩⟩, ⟨⟨dX12_led_149, rfl⟩, Or.inl ⟨rfl, rfl⟩⟩, ⟨⟨dX12_led_150, rfl⟩, rfl⟩, ⟨⟨dX12_led_151, rfl⟩, rfl⟩, ⟨⟨dX12_led_152, rfl⟩, rfl⟩, ⟨⟨dX12_led_154, rfl⟩, Or.inr ⟨by decide, ⟨_, my_165, sX12_293⟩, fun q => absurd q (by decide)⟩⟩, ⟨⟨dX12_led_157, rfl⟩, Or.inl ⟨rfl, rfl⟩⟩, ⟨⟨dX12_led_158, rfl⟩, rfl⟩, ⟨⟨dX12_led_159, rfl⟩, rfl⟩, ⟨⟨dX12_led_160, rfl⟩, rfl⟩, ⟨⟨dX12_led_162, rfl⟩, Or.inr ⟨by decide, ⟨_, my_165, sX12_293⟩, fun q => absurd q (by decide)⟩⟩, ⟨⟨dX12_led_165, rfl⟩, Or.inl ⟨rfl, rfl⟩⟩, ⟨⟨dX12_led_166, rfl⟩, rfl⟩, trivial⟩,
  ⟨⟨⟨dX12_led_167, rfl⟩, rfl⟩, ⟨⟨dX12_led_168, rfl⟩, Or.inl ⟨rfl, fX12_3⟩⟩, ⟨⟨dX12_led_171, rfl⟩, rfl⟩, ⟨⟨dX12_led_172, rfl⟩, Or.inl ⟨rfl, rfl⟩⟩, trivial⟩, trivial⟩, by decide, Or.inl ⟨rfl, by decide, rfl⟩⟩
set_option maxRecDepth 100000 in
theorem g_X12_led_0 (S : sT) (call : cT) (n : Nat) (a0 : Nat) (x1 : Int32) (x2 : Int32) (h : pH) : bd S call dflT E_X12_led (n + 1) 0 [some (.ref a0), some (.int x1), some (.int x2)] [] h = (pF h (.ref a0) 15 0 (.int 0) (fun h1 => rC h1 (.ref a0) 15 (cI (call 171 [.ref a0, .int x1] h1) (fun y3 h2 => rC h2 (.ref a0) 15 (cI (call 30 [.ref a0, .int y3, .int 1] h2) (fun y5 h4 => (if y5 = 0 then (if x2 = 0 then bd S call dflT E_X12_led n 80 [some (.ref a0), some (.int x1), some (.int x2)] [] h4 else (if x2 = 1 then bd S call dflT E_X12_led n 87 [some (.ref a0), some (.int x1), some (.int x2)] [] h4 else (if x2 = 2 then bd S call dflT E_X12_led n 93 [some (.ref a0), some (.int x1), some (.int x2)] [] h4 else (if x2 = 3 then bd S call dflT E_X12_led n 100 [some (.ref a0), some (.int x1), some (.int x2)] [] h4 else (if x2 = 4 then bd S call dflT E_X12_led n 107 [some (.ref a0), some (.int x1), some (.int x2)] [] h4 else (if x2 = 5 then bd S call dflT E_X12_led n 114 [some (.ref a0), some (.int x1), some (.int x2)] [] h4 else (if x2 = 6 then bd S call dflT E_X12_led n 121 [some (.ref a0), some (.int x1), some (.int x2)] [] h4 else (if x2 = 7 then bd S call dflT E_X12_led n 135 [some (.ref a0), some (.int x1), some (.int x2)] [] h4 else (if x2 = 8 then bd S call dflT E_X12_led n 142 [some (.ref a0), some (.int x1), some (.int x2)] [] h4 else (if x2 = 9 then bd S call dflT E_X12_led n 150 [some (.ref a0), some (.int x1), some (.int x2)] [] h4 else (if x2 = 10 then bd S call dflT E_X12_led n 158 [some (.ref a0), some (.int x1), some (.int x2)] [] h4 else bd S call dflT E_X12_led n 166 [some (.ref a0), some (.int x1), some (.int x2)] [] h4))))))))))) else some (.inl (some (.int 0)), h4)))))))) := rfl
set_option maxRecDepth 100000 in
theorem g_X12_led_80 (S : sT) (call : cT) (n : Nat) (a0 : Nat) (x1 : Int32) (x2 : Int32) (h : pH) : bd S call dflT E_X12_led (n + 1) 80 [some (.ref a0), some (.int x1), some (.int x2)] [] h = (rC h (.ref a0) 15 (cI (call 165 [.ref a0, .int x1, .int 0] h) (fun y2 h1 => some (.inl (some (.int y2)), h1)))) := rfl
set_option maxRecDepth 100000 in
theorem g_X12_led_87 (S : sT) (call : cT) (n : Nat) (a0 : Nat) (x1 : Int32) (x2 : Int32) (h : pH) : bd S call dflT E_X12_led (n + 1) 87 [some (.ref a0), some (.int x1), some (.int x2)] [] h = (rC h (.ref a0) 15 (cI (call 172 [.ref a0, .int x1] h) (fun y2 h1 => some (.inl (some (.int y2)), h1)))) := rfl
set_option maxRecDepth 100000 in
theorem g_X12_led_93 (S : sT) (call : cT) (n : Nat) (a0 : Nat) (x1 : Int32) (x2 : Int32) (h : pH) : bd S call dflT E_X12_led (n + 1) 93 [some (.ref a0), some (.int x1), some (.int x2)] [] h = (rC h (.ref a0) 15 (cI (call 165 [.ref a0, .int x1, .int 1] h) (fun y2 h1 => some (.inl (some (.int y2)), h1)))) := rfl
set_option maxRecDepth 100000 in
theorem g_X12_led_100 (S : sT) (call : cT) (n : Nat) (a0 : Nat) (x1 : Int32) (x2 : Int32) (h : pH) : bd S call dflT E_X12_led (n + 1) 100 [some (.ref a0), some (.int x1), some (.int x2)] [] h = (rC h (.ref a0) 15 (cI (call 165 [.ref a0, .int x1, .int 2] h) (fun y2 h1 => some (.inl (some (.int y2)), h1)))) := rfl
set_option maxRecDepth 100000 in
theorem g_X12_led_107 (S : sT) (call : cT) (n : Nat) (a0 : Nat) (x1 : Int32) (x2 : Int32) (h : pH) : bd S call dflT E_X12_led (n + 1) 107 [some (.ref a0), some (.int x1), some (.int x2)] [] h = (rC h (.ref a0) 15 (cI (call 165 [.ref a0, .int x1, .int 3] h) (fun y2 h1 => some (.inl (some (.int y2)), h1)))) := rfl
set_option maxRecDepth 100000 in
theorem g_X12_led_114 (S : sT) (call : cT) (n : Nat) (a0 : Nat) (x1 : Int32) (x2 : Int32) (h : pH) : bd S call dflT E_X12_led (n + 1) 114 [some (.ref a0), some (.int x1), some (.int x2)] [] h = (rC h (.ref a0) 15 (cI (call 165 [.ref a0, .int x1, .int 4] h) (fun y2 h1 => some (.inl (some (.int y2)), h1)))) := rfl
set_option maxRecDepth 100000 in
theorem g_X12_led_121 (S : sT) (call : cT) (n : Nat) (a0 : Nat) (x1 : Int32) (x2 : Int32) (h : pH) : bd S call dflT E_X12_led (n + 1) 121 [some (.ref a0), some (.int x1), some (.int x2)] [] h = (rC h (.ref a0) 15 (cI (call 172 [.ref a0, .int x1] h) (fun y2 h1 => (if y2 = 0 then some (.inl (some (.int 1)), h1) else some (.inl (some (.int 0)), h1))))) := rfl
set_option maxRecDepth 100000 in
theorem g_X12_led_135 (S : sT) (call : cT) (n : Nat) (a0 : Nat) (x1 : Int32) (x2 : Int32) (h : pH) : bd S call dflT E_X12_led (n + 1) 135 [some (.ref a0), some (.int x1), some (.int x2)] [] h = (rC h (.ref a0) 15 (cI (call 165 [.ref a0, .int x1, .int 5] h) (fun y2 h1 => some (.inl (some (.int y2)), h1)))) := rfl
set_option maxRecDepth 100000 in
theorem g_X12_led_142 (S : sT) (call : cT) (n : Nat) (a0 : Nat) (x1 : Int32) (x2 : Int32) (h : pH) : bd S call dflT E_X12_led (n + 1) 142 [some (.ref a0), some (.int x1), some (.int x2)] [] h = (rC h (.ref a0) 15 (cI (call 165 [.ref a0, .int x1, .int 6] h) (fun y2 h1 => some (.inl (some (.int y2)), h1)))) := rfl
set_option maxRecDepth 100000 in
theorem g_X12_led_150 (S : sT) (call : cT) (n : Nat) (a0 : Nat) (x1 : Int32) (x2 : Int32) (h : pH) : bd S call dflT E_X12_led (n + 1) 150 [some (.ref a0), some (.int x1), some (.int x2)] [] h = (rC h (.ref a0) 15 (cI (call 165 [.ref a0, .int x1, .int 7] h) (fun y2 h1 => some (.inl (some (.int y2)), h1)))) := rfl
set_option maxRecDepth 100000 in
theorem g_X12_led_158 (S : sT) (call : cT) (n : Nat) (a0 : Nat) (x1 : Int32) (x2 : Int32) (h : pH) : bd S call dflT E_X12_led (n + 1) 158 [some (.ref a0), some (.int x1), some (.int x2)] [] h = (rC h (.ref a0) 15 (cI (call 165 [.ref a0, .int x1, .int 8] h) (fun y2 h1 => some (.inl (some (.int y2)), h1)))) := rfl
set_option maxRecDepth 100000 in
theorem g_X12_led_166 (S : sT) (call : cT) (n : Nat) (a0 : Nat) (x1 : Int32) (x2 : Int32) (h : pH) : bd S call dflT E_X12_led (n + 1) 166 [some (.ref a0), some (.int x1), some (.int x2)] [] h = (pF h (.ref a0) 15 0 (.int 2) (fun h1 => some (.inl (some (.int 0)), h1))) := rfl
theorem dX12_owed_0 : decode cX12_owed 0 = .ok (.aload_n 0, 1) := by decide +kernel
theorem dX12_owed_1 : decode cX12_owed 1 = .ok (.iconst 0, 1) := by decide +kernel
theorem dX12_owed_2 : decode cX12_owed 2 = .ok (.putfield 3, 3) := by decide +kernel
theorem dX12_owed_5 : decode cX12_owed 5 = .ok (.aload_n 0, 1) := by decide +kernel
theorem dX12_owed_6 : decode cX12_owed 6 = .ok (.aload_n 0, 1) := by decide +kernel
theorem dX12_owed_7 : decode cX12_owed 7 = .ok (.iload_n 1, 1) := by decide +kernel
theorem dX12_owed_8 : decode cX12_owed 8 = .ok (.invokevirtual 383, 3) := by decide +kernel
theorem dX12_owed_11 : decode cX12_owed 11 = .ok (.iconst 1, 1) := by decide +kernel
theorem dX12_owed_12 : decode cX12_owed 12 = .ok (.invokevirtual 75, 3) := by decide +kernel
theorem dX12_owed_15 : decode cX12_owed 15 = .ok (.ifCond .ne 24, 3) := by decide +kernel
theorem dX12_owed_18 : decode cX12_owed 18 = .ok (.aload_n 0, 1) := by decide +kernel
theorem dX12_owed_19 : decode cX12_owed 19 = .ok (.aload_n 0, 1) := by decide +kernel
theorem dX12_owed_20 : decode cX12_owed 20 = .ok (.iload_n 1, 1) := by decide +kernel
theorem dX12_owed_21 : decode cX12_owed 21 = .ok (.invokevirtual 389, 3) := by decide +kernel
theorem dX12_owed_24 : decode cX12_owed 24 = .ok (.ifCond .ne 7, 3) := by decide +kernel
theorem dX12_owed_27 : decode cX12_owed 27 = .ok (.iconst 1, 1) := by decide +kernel
theorem dX12_owed_28 : decode cX12_owed 28 = .ok (.goto 4, 3) := by decide +kernel
theorem dX12_owed_31 : decode cX12_owed 31 = .ok (.iconst 0, 1) := by decide +kernel
theorem dX12_owed_32 : decode cX12_owed 32 = .ok (.iconst 2, 1) := by decide +kernel
theorem dX12_owed_33 : decode cX12_owed 33 = .ok (.invokevirtual 75, 3) := by decide +kernel
theorem dX12_owed_36 : decode cX12_owed 36 = .ok (.ifCond .eq 7, 3) := by decide +kernel
theorem dX12_owed_39 : decode cX12_owed 39 = .ok (.iconst 0, 1) := by decide +kernel
theorem dX12_owed_40 : decode cX12_owed 40 = .ok (.goto 8, 3) := by decide +kernel
theorem dX12_owed_43 : decode cX12_owed 43 = .ok (.aload_n 0, 1) := by decide +kernel
theorem dX12_owed_44 : decode cX12_owed 44 = .ok (.iload_n 1, 1) := by decide +kernel
theorem dX12_owed_45 : decode cX12_owed 45 = .ok (.invokevirtual 398, 3) := by decide +kernel
theorem dX12_owed_48 : decode cX12_owed 48 = .ok (.ireturn, 1) := by decide +kernel
noncomputable def E_X12_owed : mE := (mX12_owed, [(43, [(0, (.aload_n 0, 1, false, false, 0, 0, 0, 0, 0, 0, [])), (1, (.iconst 0, 2, false, false, 0, 0, 0, 0, 0, 0, [])), (2, (.putfield 3, 5, false, false, 15, 0, 0, 0, 0, 0, [])), (5, (.aload_n 0, 6, false, false, 0, 0, 0, 0, 0, 0, [])), (6, (.aload_n 0, 7, false, false, 0, 0, 0, 0, 0, 0, [])), (7, (.iload_n 1, 8, false, false, 1, 0, 0, 0, 0, 0, [])), (8, (.invokevirtual 383, 11, false, false, 171, 1, 1, 15, 0, 0, [])), (11, (.iconst 1, 12, false, false, 0, 0, 0, 0, 1, 0, [])), (12, (.invokevirtual 75, 15, false, false, 30, 2, 1, 15, 0, 0, [])), (15, (.ifCond .ne 24, 18, false, false, 39, 0, 0, 0, 0, 0, [])), (18, (.aload_n 0, 19, false, false, 0, 0, 0, 0, 0, 0, [])), (19, (.aload_n 0, 20, false, false, 0, 0, 0, 0, 0, 0, [])), (20, (.iload_n 1, 21, false, false, 1, 0, 0, 0, 0, 0, [])), (21, (.invokevirtual 389, 24, false, false, 178, 1, 1, 15, 0, 0, [])), (24, (.ifCond .ne 7, 27, false, false, 31, 0, 0, 0, 0, 0, [])), (27, (.iconst 1, 28, false, false, 0, 0, 0, 0, 1, 0, [])), (28, (.goto 4, 31, false, false, 32, 0, 0, 0, 0, 0, [])), (31, (.iconst 0, 32, false, false, 0, 0, 0, 0, 0, 0, [])), (32, (.iconst 2, 33, false, false, 0, 0, 0, 0, 2, 0, [])), (33, (.invokevirtual 75, 36, false, false, 30, 2, 1, 15, 0, 0, [])), (36, (.ifCond .eq 7, 39, false, false, 43, 0, 0, 0, 0, 0, [])), (39, (.iconst 0, 40, false, false, 0, 0, 0, 0, 0, 0, [])), (40, (.goto 8, 43, false, false, 48, 0, 0, 0, 0, 0, [])), (43, (.aload_n 0, 44, false, false, 0, 0, 0, 0, 0, 0, []))]),
  (48, [(44, (.iload_n 1, 45, false, false, 1, 0, 0, 0, 0, 0, [])), (45, (.invokevirtual 398, 48, false, false, 253, 1, 1, 15, 0, 0, [])), (48, (.ireturn, 49, false, false, 0, 0, 0, 0, 0, 0, []))])], 0, [])
set_option maxRecDepth 100000 in
theorem v_X12_owed : VE MYT dflT E_X12_owed := ⟨⟨⟨⟨⟨dX12_owed_0, rfl⟩, rfl⟩, ⟨⟨dX12_owed_1, rfl⟩, rfl⟩, ⟨⟨dX12_owed_2, rfl⟩, Or.inl ⟨rfl, fX12_3⟩⟩, ⟨⟨dX12_owed_5, rfl⟩, rfl⟩, ⟨⟨dX12_owed_6, rfl⟩, rfl⟩, ⟨⟨dX12_owed_7, rfl⟩, rfl⟩, ⟨⟨dX12_owed_8, rfl⟩, Or.inr ⟨by decide, ⟨_, my_171, sX12_383⟩, fun q => absurd q (by decide)⟩⟩, ⟨⟨dX12_owed_11, rfl⟩, rfl⟩, ⟨⟨dX12_owed_12, rfl⟩, Or.inr ⟨by decide, ⟨_, my_30, sX12_75⟩, fun q => absurd q (by decide)⟩⟩, ⟨⟨dX12_owed_15, rfl⟩, rfl⟩, ⟨⟨dX12_owed_18, rfl⟩, rfl⟩, ⟨⟨dX12_owed_19, rfl⟩, rfl⟩, ⟨⟨dX12_owed_20, rfl⟩, rfl⟩, ⟨⟨dX12_owed_21, rfl⟩, Or.inr ⟨by decide, ⟨_, my_178, sX12_389⟩, fun q => absurd q (by decide)⟩⟩, ⟨⟨dX12_owed_24, rfl⟩, rfl⟩, ⟨⟨dX12_owed_27, rfl⟩, rfl⟩, ⟨⟨dX12_owed_28, rfl⟩, rfl⟩, ⟨⟨dX12_owed_31, rfl⟩, rfl⟩, ⟨⟨dX12_owed_32, rfl⟩, rfl⟩, ⟨⟨dX12_owed_33, rfl⟩, Or.inr ⟨by decide, ⟨_, my_30, sX12_75⟩, fun q => absurd q (by decide)⟩⟩, ⟨⟨dX12_owed_36, rfl⟩, rfl⟩, ⟨⟨dX12_owed_39, rfl⟩, rfl⟩, ⟨⟨dX12_owed_40, rfl⟩, rfl⟩, ⟨⟨dX12_owed_43, rfl⟩, rfl⟩, trivial⟩,
  ⟨⟨⟨dX12_owed_44, rfl⟩, rfl⟩, ⟨⟨dX12_owed_45, rfl⟩, Or.inr ⟨by decide, ⟨_, my_253, sX12_398⟩, fun q => absurd q (by decide)⟩⟩, ⟨⟨dX12_owed_48, rfl⟩, Or.inl ⟨rfl, rfl⟩⟩, trivial⟩, trivial⟩, by decide, Or.inl ⟨rfl, by decide, rfl⟩⟩
set_option maxRecDepth 100000 in
theorem g_X12_owed_0 (S : sT) (call : cT) (n : Nat) (a0 : Nat) (x1 : Int32) (h : pH) : bd S call dflT E_X12_owed (n + 1) 0 [some (.ref a0), some (.int x1)] [] h = (pF h (.ref a0) 15 0 (.int 0) (fun h1 => rC h1 (.ref a0) 15 (cI (call 171 [.ref a0, .int x1] h1) (fun y3 h2 => rC h2 (.ref a0) 15 (cI (call 30 [.ref a0, .int y3, .int 1] h2) (fun y5 h4 => (if y5 = 0 then rC h4 (.ref a0) 15 (cI (call 178 [.ref a0, .int x1] h4) (fun y7 h6 => (if y7 = 0 then rC h6 (.ref a0) 15 (cI (call 30 [.ref a0, .int 1, .int 2] h6) (fun y13 h12 => (if y13 = 0 then rC h12 (.ref a0) 15 (cI (call 253 [.ref a0, .int x1] h12) (fun y15 h14 => some (.inl (some (.int y15)), h14))) else some (.inl (some (.int 0)), h12)))) else rC h6 (.ref a0) 15 (cI (call 30 [.ref a0, .int 0, .int 2] h6) (fun y9 h8 => (if y9 = 0 then rC h8 (.ref a0) 15 (cI (call 253 [.ref a0, .int x1] h8) (fun y11 h10 => some (.inl (some (.int y11)), h10))) else some (.inl (some (.int 0)), h8))))))) else some (.inl (some (.int 0)), h4)))))))) := rfl
theorem dX12_rent_0 : decode cX12_rent 0 = .ok (.aload_n 0, 1) := by decide +kernel
theorem dX12_rent_1 : decode cX12_rent 1 = .ok (.iconst 0, 1) := by decide +kernel
theorem dX12_rent_2 : decode cX12_rent 2 = .ok (.putfield 3, 3) := by decide +kernel
theorem dX12_rent_5 : decode cX12_rent 5 = .ok (.aload_n 0, 1) := by decide +kernel
theorem dX12_rent_6 : decode cX12_rent 6 = .ok (.aload_n 0, 1) := by decide +kernel
theorem dX12_rent_7 : decode cX12_rent 7 = .ok (.iload_n 1, 1) := by decide +kernel
theorem dX12_rent_8 : decode cX12_rent 8 = .ok (.invokevirtual 383, 3) := by decide +kernel
theorem dX12_rent_11 : decode cX12_rent 11 = .ok (.iconst 1, 1) := by decide +kernel
theorem dX12_rent_12 : decode cX12_rent 12 = .ok (.invokevirtual 75, 3) := by decide +kernel
theorem dX12_rent_15 : decode cX12_rent 15 = .ok (.ifCond .ne 24, 3) := by decide +kernel
theorem dX12_rent_18 : decode cX12_rent 18 = .ok (.aload_n 0, 1) := by decide +kernel
theorem dX12_rent_19 : decode cX12_rent 19 = .ok (.aload_n 0, 1) := by decide +kernel
theorem dX12_rent_20 : decode cX12_rent 20 = .ok (.iload_n 1, 1) := by decide +kernel
theorem dX12_rent_21 : decode cX12_rent 21 = .ok (.invokevirtual 389, 3) := by decide +kernel
theorem dX12_rent_24 : decode cX12_rent 24 = .ok (.ifCond .ne 7, 3) := by decide +kernel
theorem dX12_rent_27 : decode cX12_rent 27 = .ok (.iconst 1, 1) := by decide +kernel
theorem dX12_rent_28 : decode cX12_rent 28 = .ok (.goto 4, 3) := by decide +kernel
theorem dX12_rent_31 : decode cX12_rent 31 = .ok (.iconst 0, 1) := by decide +kernel
theorem dX12_rent_32 : decode cX12_rent 32 = .ok (.iconst 2, 1) := by decide +kernel
theorem dX12_rent_33 : decode cX12_rent 33 = .ok (.invokevirtual 75, 3) := by decide +kernel
theorem dX12_rent_36 : decode cX12_rent 36 = .ok (.ifCond .eq 7, 3) := by decide +kernel
theorem dX12_rent_39 : decode cX12_rent 39 = .ok (.iconst 0, 1) := by decide +kernel
theorem dX12_rent_40 : decode cX12_rent 40 = .ok (.goto 8, 3) := by decide +kernel
theorem dX12_rent_43 : decode cX12_rent 43 = .ok (.aload_n 0, 1) := by decide +kernel
theorem dX12_rent_44 : decode cX12_rent 44 = .ok (.iload_n 1, 1) := by decide +kernel
theorem dX12_rent_45 : decode cX12_rent 45 = .ok (.invokevirtual 395, 3) := by decide +kernel
theorem dX12_rent_48 : decode cX12_rent 48 = .ok (.ireturn, 1) := by decide +kernel
noncomputable def E_X12_rent : mE := (mX12_rent, [(43, [(0, (.aload_n 0, 1, false, false, 0, 0, 0, 0, 0, 0, [])), (1, (.iconst 0, 2, false, false, 0, 0, 0, 0, 0, 0, [])), (2, (.putfield 3, 5, false, false, 15, 0, 0, 0, 0, 0, [])), (5, (.aload_n 0, 6, false, false, 0, 0, 0, 0, 0, 0, [])), (6, (.aload_n 0, 7, false, false, 0, 0, 0, 0, 0, 0, [])), (7, (.iload_n 1, 8, false, false, 1, 0, 0, 0, 0, 0, [])), (8, (.invokevirtual 383, 11, false, false, 171, 1, 1, 15, 0, 0, [])), (11, (.iconst 1, 12, false, false, 0, 0, 0, 0, 1, 0, [])), (12, (.invokevirtual 75, 15, false, false, 30, 2, 1, 15, 0, 0, [])), (15, (.ifCond .ne 24, 18, false, false, 39, 0, 0, 0, 0, 0, [])), (18, (.aload_n 0, 19, false, false, 0, 0, 0, 0, 0, 0, [])), (19, (.aload_n 0, 20, false, false, 0, 0, 0, 0, 0, 0, [])), (20, (.iload_n 1, 21, false, false, 1, 0, 0, 0, 0, 0, [])), (21, (.invokevirtual 389, 24, false, false, 178, 1, 1, 15, 0, 0, [])), (24, (.ifCond .ne 7, 27, false, false, 31, 0, 0, 0, 0, 0, [])), (27, (.iconst 1, 28, false, false, 0, 0, 0, 0, 1, 0, [])), (28, (.goto 4, 31, false, false, 32, 0, 0, 0, 0, 0, [])), (31, (.iconst 0, 32, false, false, 0, 0, 0, 0, 0, 0, [])), (32, (.iconst 2, 33, false, false, 0, 0, 0, 0, 2, 0, [])), (33, (.invokevirtual 75, 36, false, false, 30, 2, 1, 15, 0, 0, [])), (36, (.ifCond .eq 7, 39, false, false, 43, 0, 0, 0, 0, 0, [])), (39, (.iconst 0, 40, false, false, 0, 0, 0, 0, 0, 0, [])), (40, (.goto 8, 43, false, false, 48, 0, 0, 0, 0, 0, [])), (43, (.aload_n 0, 44, false, false, 0, 0, 0, 0, 0, 0, []))]),
  (48, [(44, (.iload_n 1, 45, false, false, 1, 0, 0, 0, 0, 0, [])), (45, (.invokevirtual 395, 48, false, false, 240, 1, 1, 15, 0, 0, [])), (48, (.ireturn, 49, false, false, 0, 0, 0, 0, 0, 0, []))])], 0, [])
set_option maxRecDepth 100000 in
theorem v_X12_rent : VE MYT dflT E_X12_rent := ⟨⟨⟨⟨⟨dX12_rent_0, rfl⟩, rfl⟩, ⟨⟨dX12_rent_1, rfl⟩, rfl⟩, ⟨⟨dX12_rent_2, rfl⟩, Or.inl ⟨rfl, fX12_3⟩⟩, ⟨⟨dX12_rent_5, rfl⟩, rfl⟩, ⟨⟨dX12_rent_6, rfl⟩, rfl⟩, ⟨⟨dX12_rent_7, rfl⟩, rfl⟩, ⟨⟨dX12_rent_8, rfl⟩, Or.inr ⟨by decide, ⟨_, my_171, sX12_383⟩, fun q => absurd q (by decide)⟩⟩, ⟨⟨dX12_rent_11, rfl⟩, rfl⟩, ⟨⟨dX12_rent_12, rfl⟩, Or.inr ⟨by decide, ⟨_, my_30, sX12_75⟩, fun q => absurd q (by decide)⟩⟩, ⟨⟨dX12_rent_15, rfl⟩, rfl⟩, ⟨⟨dX12_rent_18, rfl⟩, rfl⟩, ⟨⟨dX12_rent_19, rfl⟩, rfl⟩, ⟨⟨dX12_rent_20, rfl⟩, rfl⟩, ⟨⟨dX12_rent_21, rfl⟩, Or.inr ⟨by decide, ⟨_, my_178, sX12_389⟩, fun q => absurd q (by decide)⟩⟩, ⟨⟨dX12_rent_24, rfl⟩, rfl⟩, ⟨⟨dX12_rent_27, rfl⟩, rfl⟩, ⟨⟨dX12_rent_28, rfl⟩, rfl⟩, ⟨⟨dX12_rent_31, rfl⟩, rfl⟩, ⟨⟨dX12_rent_32, rfl⟩, rfl⟩, ⟨⟨dX12_rent_33, rfl⟩, Or.inr ⟨by decide, ⟨_, my_30, sX12_75⟩, fun q => absurd q (by decide)⟩⟩, ⟨⟨dX12_rent_36, rfl⟩, rfl⟩, ⟨⟨dX12_rent_39, rfl⟩, rfl⟩, ⟨⟨dX12_rent_40, rfl⟩, rfl⟩, ⟨⟨dX12_rent_43, rfl⟩, rfl⟩, trivial⟩,
  ⟨⟨⟨dX12_rent_44, rfl⟩, rfl⟩, ⟨⟨dX12_rent_45, rfl⟩, Or.inr ⟨by decide, ⟨_, my_240, sX12_395⟩, fun q => absurd q (by decide)⟩⟩, ⟨⟨dX12_rent_48, rfl⟩, Or.inl ⟨rfl, rfl⟩⟩, trivial⟩, trivial⟩, by decide, Or.inl ⟨rfl, by decide, rfl⟩⟩
set_option maxRecDepth 100000 in
theorem g_X12_rent_0 (S : sT) (call : cT) (n : Nat) (a0 : Nat) (x1 : Int32) (h : pH) : bd S call dflT E_X12_rent (n + 1) 0 [some (.ref a0), some (.int x1)] [] h = (pF h (.ref a0) 15 0 (.int 0) (fun h1 => rC h1 (.ref a0) 15 (cI (call 171 [.ref a0, .int x1] h1) (fun y3 h2 => rC h2 (.ref a0) 15 (cI (call 30 [.ref a0, .int y3, .int 1] h2) (fun y5 h4 => (if y5 = 0 then rC h4 (.ref a0) 15 (cI (call 178 [.ref a0, .int x1] h4) (fun y7 h6 => (if y7 = 0 then rC h6 (.ref a0) 15 (cI (call 30 [.ref a0, .int 1, .int 2] h6) (fun y13 h12 => (if y13 = 0 then rC h12 (.ref a0) 15 (cI (call 240 [.ref a0, .int x1] h12) (fun y15 h14 => some (.inl (some (.int y15)), h14))) else some (.inl (some (.int 0)), h12)))) else rC h6 (.ref a0) 15 (cI (call 30 [.ref a0, .int 0, .int 2] h6) (fun y9 h8 => (if y9 = 0 then rC h8 (.ref a0) 15 (cI (call 240 [.ref a0, .int x1] h8) (fun y11 h10 => some (.inl (some (.int y11)), h10))) else some (.inl (some (.int 0)), h8))))))) else some (.inl (some (.int 0)), h4)))))))) := rfl
theorem dX12_arrears_0 : decode cX12_arrears 0 = .ok (.aload_n 0, 1) := by decide +kernel
theorem dX12_arrears_1 : decode cX12_arrears 1 = .ok (.iconst 0, 1) := by decide +kernel
theorem dX12_arrears_2 : decode cX12_arrears 2 = .ok (.putfield 3, 3) := by decide +kernel
theorem dX12_arrears_5 : decode cX12_arrears 5 = .ok (.iload_n 1, 1) := by decide +kernel
theorem dX12_arrears_6 : decode cX12_arrears 6 = .ok (.iconst 0, 1) := by decide +kernel
theorem dX12_arrears_7 : decode cX12_arrears 7 = .ok (.aload_n 0, 1) := by decide +kernel
theorem dX12_arrears_8 : decode cX12_arrears 8 = .ok (.getfield 27, 3) := by decide +kernel
theorem dX12_arrears_11 : decode cX12_arrears 11 = .ok (.sipush 1683, 3) := by decide +kernel
theorem dX12_arrears_14 : decode cX12_arrears 14 = .ok (.iaload, 1) := by decide +kernel
theorem dX12_arrears_15 : decode cX12_arrears 15 = .ok (.iconst 1, 1) := by decide +kernel
theorem dX12_arrears_16 : decode cX12_arrears 16 = .ok (.isub, 1) := by decide +kernel
theorem dX12_arrears_17 : decode cX12_arrears 17 = .ok (.invokestatic 63, 3) := by decide +kernel
theorem dX12_arrears_20 : decode cX12_arrears 20 = .ok (.ifCond .ne 5, 3) := by decide +kernel
theorem dX12_arrears_23 : decode cX12_arrears 23 = .ok (.iconst (-1), 1) := by decide +kernel
theorem dX12_arrears_24 : decode cX12_arrears 24 = .ok (.ireturn, 1) := by decide +kernel
theorem dX12_arrears_25 : decode cX12_arrears 25 = .ok (.iconst 0, 1) := by decide +kernel
theorem dX12_arrears_26 : decode cX12_arrears 26 = .ok (.istore_n 2, 1) := by decide +kernel
theorem dX12_arrears_27 : decode cX12_arrears 27 = .ok (.iload_n 2, 1) := by decide +kernel
theorem dX12_arrears_28 : decode cX12_arrears 28 = .ok (.bipush 24, 2) := by decide +kernel
theorem dX12_arrears_30 : decode cX12_arrears 30 = .ok (.if_icmp .ge 16, 3) := by decide +kernel
theorem dX12_arrears_33 : decode cX12_arrears 33 = .ok (.aload_n 0, 1) := by decide +kernel
theorem dX12_arrears_34 : decode cX12_arrears 34 = .ok (.getfield 55, 3) := by decide +kernel
theorem dX12_arrears_37 : decode cX12_arrears 37 = .ok (.iload_n 2, 1) := by decide +kernel
theorem dX12_arrears_38 : decode cX12_arrears 38 = .ok (.iconst 0, 1) := by decide +kernel
theorem dX12_arrears_39 : decode cX12_arrears 39 = .ok (.bastore, 1) := by decide +kernel
theorem dX12_arrears_40 : decode cX12_arrears 40 = .ok (.iinc 2 1, 3) := by decide +kernel
theorem dX12_arrears_43 : decode cX12_arrears 43 = .ok (.goto (-16), 3) := by decide +kernel
theorem dX12_arrears_46 : decode cX12_arrears 46 = .ok (.iconst (-1), 1) := by decide +kernel
theorem dX12_arrears_47 : decode cX12_arrears 47 = .ok (.istore_n 2, 1) := by decide +kernel
theorem dX12_arrears_48 : decode cX12_arrears 48 = .ok (.iconst 0, 1) := by decide +kernel
theorem dX12_arrears_49 : decode cX12_arrears 49 = .ok (.istore_n 3, 1) := by decide +kernel
theorem dX12_arrears_50 : decode cX12_arrears 50 = .ok (.iload_n 3, 1) := by decide +kernel
theorem dX12_arrears_51 : decode cX12_arrears 51 = .ok (.iload_n 1, 1) := by decide +kernel
theorem dX12_arrears_52 : decode cX12_arrears 52 = .ok (.if_icmp .gt 89, 3) := by decide +kernel
theorem dX12_arrears_55 : decode cX12_arrears 55 = .ok (.iconst (-1), 1) := by decide +kernel
theorem dX12_arrears_56 : decode cX12_arrears 56 = .ok (.istore_n 2, 1) := by decide +kernel
theorem dX12_arrears_57 : decode cX12_arrears 57 = .ok (.iconst 0, 1) := by decide +kernel
theorem dX12_arrears_58 : decode cX12_arrears 58 = .ok (.istore 4, 2) := by decide +kernel
theorem dX12_arrears_60 : decode cX12_arrears 60 = .ok (.iload 4, 2) := by decide +kernel
theorem dX12_arrears_62 : decode cX12_arrears 62 = .ok (.aload_n 0, 1) := by decide +kernel
theorem dX12_arrears_63 : decode cX12_arrears 63 = .ok (.getfield 27, 3) := by decide +kernel
theorem dX12_arrears_66 : decode cX12_arrears 66 = .ok (.sipush 1683, 3) := by decide +kernel
theorem dX12_arrears_69 : decode cX12_arrears 69 = .ok (.iaload, 1) := by decide +kernel
theorem dX12_arrears_70 : decode cX12_arrears 70 = .ok (.if_icmp .ge 52, 3) := by decide +kernel
theorem dX12_arrears_73 : decode cX12_arrears 73 = .ok (.aload_n 0, 1) := by decide +kernel
theorem dX12_arrears_74 : decode cX12_arrears 74 = .ok (.getfield 55, 3) := by decide +kernel
theorem dX12_arrears_77 : decode cX12_arrears 77 = .ok (.iload 4, 2) := by decide +kernel
theorem dX12_arrears_79 : decode cX12_arrears 79 = .ok (.baload, 1) := by decide +kernel
theorem dX12_arrears_80 : decode cX12_arrears 80 = .ok (.ifCond .ne 36, 3) := by decide +kernel
theorem dX12_arrears_83 : decode cX12_arrears 83 = .ok (.aload_n 0, 1) := by decide +kernel
theorem dX12_arrears_84 : decode cX12_arrears 84 = .ok (.iload 4, 2) := by decide +kernel
theorem dX12_arrears_86 : decode cX12_arrears 86 = .ok (.iconst 2, 1) := by decide +kernel
theorem dX12_arrears_87 : decode cX12_arrears 87 = .ok (.invokevirtual 293, 3) := by decide +kernel
theorem dX12_arrears_90 : decode cX12_arrears 90 = .ok (.ifCond .le 26, 3) := by decide +kernel
theorem dX12_arrears_93 : decode cX12_arrears 93 = .ok (.iload_n 2, 1) := by decide +kernel
theorem dX12_arrears_94 : decode cX12_arrears 94 = .ok (.ifCond .lt 19, 3) := by decide +kernel
theorem dX12_arrears_97 : decode cX12_arrears 97 = .ok (.aload_n 0, 1) := by decide +kernel
theorem dX12_arrears_98 : decode cX12_arrears 98 = .ok (.iload 4, 2) := by decide +kernel
theorem dX12_arrears_100 : decode cX12_arrears 100 = .ok (.iconst 2, 1) := by decide +kernel
theorem dX12_arrears_101 : decode cX12_arrears 101 = .ok (.invokevirtual 293, 3) := by decide +kernel
theorem dX12_arrears_104 : decode cX12_arrears 104 = .ok (.aload_n 0, 1) := by decide +kernel
theorem dX12_arrears_105 : decode cX12_arrears 105 = .ok (.iload_n 2, 1) := by decide +kernel
theorem dX12_arrears_106 : decode cX12_arrears 106 = .ok (.iconst 2, 1) := by decide +kernel
theorem dX12_arrears_107 : decode cX12_arrears 107 = .ok (.invokevirtual 293, 3) := by decide +kernel
theorem dX12_arrears_110 : decode cX12_arrears 110 = .ok (.if_icmp .le 6, 3) := by decide +kernel
theorem dX12_arrears_113 : decode cX12_arrears 113 = .ok (.iload 4, 2) := by decide +kernel
theorem dX12_arrears_115 : decode cX12_arrears 115 = .ok (.istore_n 2, 1) := by decide +kernel
theorem dX12_arrears_116 : decode cX12_arrears 116 = .ok (.iinc 4 1, 3) := by decide +kernel
theorem dX12_arrears_119 : decode cX12_arrears 119 = .ok (.goto (-59), 3) := by decide +kernel
theorem dX12_arrears_122 : decode cX12_arrears 122 = .ok (.iload_n 2, 1) := by decide +kernel
theorem dX12_arrears_123 : decode cX12_arrears 123 = .ok (.ifCond .ge 5, 3) := by decide +kernel
theorem dX12_arrears_126 : decode cX12_arrears 126 = .ok (.iconst (-1), 1) := by decide +kernel
theorem dX12_arrears_127 : decode cX12_arrears 127 = .ok (.ireturn, 1) := by decide +kernel
theorem dX12_arrears_128 : decode cX12_arrears 128 = .ok (.aload_n 0, 1) := by decide +kernel
theorem dX12_arrears_129 : decode cX12_arrears 129 = .ok (.getfield 55, 3) := by decide +kernel
theorem dX12_arrears_132 : decode cX12_arrears 132 = .ok (.iload_n 2, 1) := by decide +kernel
theorem dX12_arrears_133 : decode cX12_arrears 133 = .ok (.iconst 1, 1) := by decide +kernel
theorem dX12_arrears_134 : decode cX12_arrears 134 = .ok (.bastore, 1) := by decide +kernel
theorem dX12_arrears_135 : decode cX12_arrears 135 = .ok (.iinc 3 1, 3) := by decide +kernel
theorem dX12_arrears_138 : decode cX12_arrears 138 = .ok (.goto (-88), 3) := by decide +kernel
theorem dX12_arrears_141 : decode cX12_arrears 141 = .ok (.iload_n 2, 1) := by decide +kernel
theorem dX12_arrears_142 : decode cX12_arrears 142 = .ok (.ireturn, 1) := by decide +kernel
noncomputable def E_X12_arrears : mE := (mX12_arrears, [(38, [(0, (.aload_n 0, 1, false, false, 0, 0, 0, 0, 0, 0, [])), (1, (.iconst 0, 2, false, false, 0, 0, 0, 0, 0, 0, [])), (2, (.putfield 3, 5, false, false, 15, 0, 0, 0, 0, 0, [])), (5, (.iload_n 1, 6, false, false, 1, 0, 0, 0, 0, 0, [])), (6, (.iconst 0, 7, false, false, 0, 0, 0, 0, 0, 0, [])), (7, (.aload_n 0, 8, false, false, 0, 0, 0, 0, 0, 0, [])), (8, (.getfield 27, 11, false, false, 15, 1, 1, 0, 0, 0, [])), (11, (.sipush 1683, 14, false, false, 0, 0, 0, 0, 1683, 0, [])), (14, (.iaload, 15, false, false, 0, 0, 0, 0, 0, 0, [])), (15, (.iconst 1, 16, false, false, 0, 0, 0, 0, 1, 0, [])), (16, (.isub, 17, false, false, 0, 0, 0, 0, 0, 0, [])), (17, (.invokestatic 63, 20, false, false, 28, 3, 1, 0, 0, 0, [])), (20, (.ifCond .ne 5, 23, false, false, 25, 0, 0, 0, 0, 0, [])), (23, (.iconst (-1), 24, false, false, 0, 0, 0, 0, -1, 0, [])), (24, (.ireturn, 25, false, false, 0, 0, 0, 0, 0, 0, [])), (25, (.iconst 0, 26, false, false, 0, 0, 0, 0, 0, 0, [])), (26, (.istore_n 2, 27, true, false, 2, 0, 0, 0, 0, 0, [])), (27, (.iload_n 2, 28, false, false, 2, 0, 0, 0, 0, 0, [])), (28, (.bipush 24, 30, false, false, 0, 0, 0, 0, 24, 0, [])), (30, (.if_icmp .ge 16, 33, false, false, 46, 0, 0, 0, 0, 0, [])), (33, (.aload_n 0, 34, false, false, 0, 0, 0, 0, 0, 0, [])), (34, (.getfield 55, 37, false, false, 15, 17, 1, 0, 0, 0, [])), (37, (.iload_n 2, 38, false, false, 2, 0, 0, 0, 0, 0, [])), (38, (.iconst 0, 39, false, false, 0, 0, 0, 0, 0, 0, []))]),
  (79, [(39, (.bastore, 40, false, false, 0, 0, 1, 0, 0, 0, [])), (40, (.iinc 2 1, 43, false, false, 2, 0, 0, 0, 1, 0, [])), (43, (.goto (-16), 46, false, true, 27, 0, 0, 0, 0, 0, [])), (46, (.iconst (-1), 47, false, false, 0, 0, 0, 0, -1, 0, [])), (47, (.istore_n 2, 48, false, false, 2, 0, 0, 0, 0, 0, [])), (48, (.iconst 0, 49, false, false, 0, 0, 0, 0, 0, 0, [])), (49, (.istore_n 3, 50, true, false, 3, 0, 0, 0, 0, 0, [])), (50, (.iload_n 3, 51, false, false, 3, 0, 0, 0, 0, 0, [])), (51, (.iload_n 1, 52, false, false, 1, 0, 0, 0, 0, 0, [])), (52, (.if_icmp .gt 89, 55, false, false, 141, 0, 0, 0, 0, 0, [])), (55, (.iconst (-1), 56, false, false, 0, 0, 0, 0, -1, 0, [])), (56, (.istore_n 2, 57, false, false, 2, 0, 0, 0, 0, 0, [])), (57, (.iconst 0, 58, false, false, 0, 0, 0, 0, 0, 0, [])), (58, (.istore 4, 60, true, false, 4, 0, 0, 0, 0, 0, [])), (60, (.iload 4, 62, false, false, 4, 0, 0, 0, 0, 0, [])), (62, (.aload_n 0, 63, false, false, 0, 0, 0, 0, 0, 0, [])), (63, (.getfield 27, 66, false, false, 15, 1, 1, 0, 0, 0, [])), (66, (.sipush 1683, 69, false, false, 0, 0, 0, 0, 1683, 0, [])), (69, (.iaload, 70, false, false, 0, 0, 0, 0, 0, 0, [])), (70, (.if_icmp .ge 52, 73, false, false, 122, 0, 0, 0, 0, 0, [])), (73, (.aload_n 0, 74, false, false, 0, 0, 0, 0, 0, 0, [])), (74, (.getfield 55, 77, false, false, 15, 17, 1, 0, 0, 0, [])), (77, (.iload 4, 79, false, false, 4, 0, 0, 0, 0, 0, [])), (79, (.baload, 80, false, false, 0, 0, 1, 0, 0, 0, []))]),
  (126, [(80, (.ifCond .ne 36, 83, false, false, 116, 0, 0, 0, 0, 0, [])), (83, (.aload_n 0, 84, false, false, 0, 0, 0, 0, 0, 0, [])), (84, (.iload 4, 86, false, false, 4, 0, 0, 0, 0, 0, [])), (86, (.iconst 2, 87, false, false, 0, 0, 0, 0, 2, 0, [])), (87, (.invokevirtual 293, 90, false, false, 165, 2, 1, 15, 0, 0, [])), (90, (.ifCond .le 26, 93, false, false, 116, 0, 0, 0, 0, 0, [])), (93, (.iload_n 2, 94, false, false, 2, 0, 0, 0, 0, 0, [])), (94, (.ifCond .lt 19, 97, false, false, 113, 0, 0, 0, 0, 0, [])), (97, (.aload_n 0, 98, false, false, 0, 0, 0, 0, 0, 0, [])), (98, (.iload 4, 100, false, false, 4, 0, 0, 0, 0, 0, [])), (100, (.iconst 2, 101, false, false, 0, 0, 0, 0, 2, 0, [])), (101, (.invokevirtual 293, 104, false, false, 165, 2, 1, 15, 0, 0, [])), (104, (.aload_n 0, 105, false, false, 0, 0, 0, 0, 0, 0, [])), (105, (.iload_n 2, 106, false, false, 2, 0, 0, 0, 0, 0, [])), (106, (.iconst 2, 107, false, false, 0, 0, 0, 0, 2, 0, [])), (107, (.invokevirtual 293, 110, false, false, 165, 2, 1, 15, 0, 0, [])), (110, (.if_icmp .le 6, 113, false, false, 116, 0, 0, 0, 0, 0, [])), (113, (.iload 4, 115, false, false, 4, 0, 0, 0, 0, 0, [])), (115, (.istore_n 2, 116, false, false, 2, 0, 0, 0, 0, 0, [])), (116, (.iinc 4 1, 119, false, false, 4, 0, 0, 0, 1, 0, [])), (119, (.goto (-59), 122, false, true, 60, 0, 0, 0, 0, 0, [])), (122, (.iload_n 2, 123, false, false, 2, 0, 0, 0, 0, 0, [])), (123, (.ifCond .ge 5, 126, false, false, 128, 0, 0, 0, 0, 0, [])), (126, (.iconst (-1), 127, false, false, 0, 0, 0, 0, -1, 0, []))]),
  (142, [(127, (.ireturn, 128, false, false, 0, 0, 0, 0, 0, 0, [])), (128, (.aload_n 0, 129, false, false, 0, 0, 0, 0, 0, 0, [])), (129, (.getfield 55, 132, false, false, 15, 17, 1, 0, 0, 0, [])), (132, (.iload_n 2, 133, false, false, 2, 0, 0, 0, 0, 0, [])), (133, (.iconst 1, 134, false, false, 0, 0, 0, 0, 1, 0, [])), (134, (.bastore, 135, false, false, 0, 0, 1, 0, 0, 0, [])), (135, (.iinc 3 1, 138, false, false, 3, 0, 0, 0, 1, 0, [])), (138, (.goto (-88), 141, false, true, 50, 0, 0, 0, 0, 0, [])), (141, (.iload_n 2, 142, false, false, 2, 0, 0, 0, 0, 0, [])), (142, (.ireturn, 143, false, false, 0, 0, 0, 0, 0, 0, []))])], 0, [])
set_option maxRecDepth 100000 in
theorem v_X12_arrears : VE MYT dflT E_X12_arrears := ⟨⟨⟨⟨⟨dX12_arrears_0, rfl⟩, rfl⟩, ⟨⟨dX12_arrears_1, rfl⟩, rfl⟩, ⟨⟨dX12_arrears_2, rfl⟩, Or.inl ⟨rfl, fX12_3⟩⟩, ⟨⟨dX12_arrears_5, rfl⟩, rfl⟩, ⟨⟨dX12_arrears_6, rfl⟩, rfl⟩, ⟨⟨dX12_arrears_7, rfl⟩, rfl⟩, ⟨⟨dX12_arrears_8, rfl⟩, Or.inl ⟨by decide, _, _, fX12_27⟩⟩, ⟨⟨dX12_arrears_11, rfl⟩, rfl⟩, ⟨⟨dX12_arrears_14, rfl⟩, trivial⟩, ⟨⟨dX12_arrears_15, rfl⟩, rfl⟩, ⟨⟨dX12_arrears_16, rfl⟩, trivial⟩, ⟨⟨dX12_arrears_17, rfl⟩, Or.inl ⟨rfl, _, my_28, sX12_63⟩⟩, ⟨⟨dX12_arrears_20, rfl⟩, rfl⟩, ⟨⟨dX12_arrears_23, rfl⟩, rfl⟩, ⟨⟨dX12_arrears_24, rfl⟩, Or.inl ⟨rfl, rfl⟩⟩, ⟨⟨dX12_arrears_25, rfl⟩, rfl⟩, ⟨⟨dX12_arrears_26, rfl⟩, rfl⟩, ⟨⟨dX12_arrears_27, rfl⟩, rfl⟩, ⟨⟨dX12_arrears_28, rfl⟩, rfl⟩, ⟨⟨dX12_arrears_30, rfl⟩, rfl⟩, ⟨⟨dX12_arrears_33, rfl⟩, rfl⟩, ⟨⟨dX12_arrears_34, rfl⟩, Or.inl ⟨by decide, _, _, fX12_55⟩⟩, ⟨⟨dX12_arrears_37, rfl⟩, rfl⟩, ⟨⟨dX12_arrears_38, rfl⟩, rfl⟩, trivial⟩,
  ⟨⟨⟨dX12_arrears_39, rfl⟩, trivial⟩, ⟨⟨dX12_arrears_40, rfl⟩, ⟨rfl, rfl⟩⟩, ⟨⟨dX12_arrears_43, rfl⟩, rfl⟩, ⟨⟨dX12_arrears_46, rfl⟩, rfl⟩, ⟨⟨dX12_arrears_47, rfl⟩, rfl⟩, ⟨⟨dX12_arrears_48, rfl⟩, rfl⟩, ⟨⟨dX12_arrears_49, rfl⟩, rfl⟩, ⟨⟨dX12_arrears_50, rfl⟩, rfl⟩, ⟨⟨dX12_arrears_51, rfl⟩, rfl⟩, ⟨⟨dX12_arrears_52, rfl⟩, rfl⟩, ⟨⟨dX12_arrears_55, rfl⟩, rfl⟩, ⟨⟨dX12_arrears_56, rfl⟩, rfl⟩, ⟨⟨dX12_arrears_57, rfl⟩, rfl⟩, ⟨⟨dX12_arrears_58, rfl⟩, rfl⟩, ⟨⟨dX12_arrears_60, rfl⟩, rfl⟩, ⟨⟨dX12_arrears_62, rfl⟩, rfl⟩, ⟨⟨dX12_arrears_63, rfl⟩, Or.inl ⟨by decide, _, _, fX12_27⟩⟩, ⟨⟨dX12_arrears_66, rfl⟩, rfl⟩, ⟨⟨dX12_arrears_69, rfl⟩, trivial⟩, ⟨⟨dX12_arrears_70, rfl⟩, rfl⟩, ⟨⟨dX12_arrears_73, rfl⟩, rfl⟩, ⟨⟨dX12_arrears_74, rfl⟩, Or.inl ⟨by decide, _, _, fX12_55⟩⟩, ⟨⟨dX12_arrears_77, rfl⟩, rfl⟩, ⟨⟨dX12_arrears_79, rfl⟩, trivial⟩, trivial⟩,
  ⟨⟨⟨dX12_arrears_80, rfl⟩, rfl⟩, ⟨⟨dX12_arrears_83, rfl⟩, rfl⟩, ⟨⟨dX12_arrears_84, rfl⟩, rfl⟩, ⟨⟨dX12_arrears_86, rfl⟩, rfl⟩, ⟨⟨dX12_arrears_87, rfl⟩, Or.inr ⟨by decide, ⟨_, my_165, sX12_293⟩, fun q => absurd q (by decide)⟩⟩, ⟨⟨dX12_arrears_90, rfl⟩, rfl⟩, ⟨⟨dX12_arrears_93, rfl⟩, rfl⟩, ⟨⟨dX12_arrears_94, rfl⟩, rfl⟩, ⟨⟨dX12_arrears_97, rfl⟩, rfl⟩, ⟨⟨dX12_arrears_98, rfl⟩, rfl⟩, ⟨⟨dX12_arrears_100, rfl⟩, rfl⟩, ⟨⟨dX12_arrears_101, rfl⟩, Or.inr ⟨by decide, ⟨_, my_165, sX12_293⟩, fun q => absurd q (by decide)⟩⟩, ⟨⟨dX12_arrears_104, rfl⟩, rfl⟩, ⟨⟨dX12_arrears_105, rfl⟩, rfl⟩, ⟨⟨dX12_arrears_106, rfl⟩, rfl⟩, ⟨⟨dX12_arrears_107, rfl⟩, Or.inr ⟨by decide, ⟨_, my_165, sX12_293⟩, fun q => absurd q (by decide)⟩⟩, ⟨⟨dX12_arrears_110, rfl⟩, rfl⟩, ⟨⟨dX12_arrears_113, rfl⟩, rfl⟩, ⟨⟨dX12_arrears_115, rfl⟩, rfl⟩, ⟨⟨dX12_arrears_116, rfl⟩, ⟨rfl, rfl⟩⟩, ⟨⟨dX12_arrears_119, rfl⟩, rfl⟩, ⟨⟨dX12_arrears_122, rfl⟩, rfl⟩, ⟨⟨dX12_arrears_123, rfl⟩, rfl⟩, ⟨⟨dX12_arrears_126, rfl⟩, rfl⟩, trivial⟩,
  ⟨⟨⟨dX12_arrears_127, rfl⟩, Or.inl ⟨rfl, rfl⟩⟩, ⟨⟨dX12_arrears_128, rfl⟩, rfl⟩, ⟨⟨dX12_arrears_129, rfl⟩, Or.inl ⟨by decide, _, _, fX12_55⟩⟩, ⟨⟨dX12_arrears_132, rfl⟩, rfl⟩, ⟨⟨dX12_arrears_133, rfl⟩, rfl⟩, ⟨⟨dX12_arrears_134, rfl⟩, trivial⟩, ⟨⟨dX12_arrears_135, rfl⟩, ⟨rfl, rfl⟩⟩, ⟨⟨dX12_arrears_138, rfl⟩, rfl⟩, ⟨⟨dX12_arrears_141, rfl⟩, rfl⟩, ⟨⟨dX12_arrears_142, rfl⟩, Or.inl ⟨rfl, rfl⟩⟩, trivial⟩, trivial⟩, by decide, Or.inl ⟨rfl, by decide, rfl⟩⟩
set_option maxRecDepth 100000 in
theorem g_X12_arrears_0 (S : sT) (call : cT) (n : Nat) (a0 : Nat) (x1 : Int32) (h : pH) : bd S call dflT E_X12_arrears (n + 1) 0 [some (.ref a0), some (.int x1), none, none, none] [] h = (pF h (.ref a0) 15 0 (.int 0) (fun h1 => gV h1 (.ref a0) 15 1 (fun w2 => aI h1 w2 0 1683 (fun y3 => cI (call 28 [.int x1, .int 0, .int (y3 - 1)] h1) (fun y5 h4 => (if y5 = 0 then some (.inl (some (.int (-1))), h4) else bd S call dflT E_X12_arrears n 27 [some (.ref a0), some (.int x1), some (.int 0), none, none] [] h4)))))) := rfl
set_option maxRecDepth 100000 in
theorem g_X12_arrears_27 (S : sT) (call : cT) (n : Nat) (a0 : Nat) (x1 : Int32) (x2 : Int32) (o3 : Option Value) (o4 : Option Value) (h : pH) : bd S call dflT E_X12_arrears (n + 1) 27 [some (.ref a0), some (.int x1), some (.int x2), o3, o4] [] h = ((if 24 ≤ x2 then bd S call dflT E_X12_arrears n 50 [some (.ref a0), some (.int x1), some (.int (-1)), some (.int 0), o4] [] h else gV h (.ref a0) 15 17 (fun w1 => sI h w1 2 x2 (vp_nar .boolean 0) (fun h2 => bd S call dflT E_X12_arrears n 27 [some (.ref a0), some (.int x1), some (.int (x2 + 1)), o3, o4] [] h2)))) := rfl
set_option maxRecDepth 100000 in
theorem g_X12_arrears_50 (S : sT) (call : cT) (n : Nat) (a0 : Nat) (x1 : Int32) (x2 : Int32) (x3 : Int32) (o4 : Option Value) (h : pH) : bd S call dflT E_X12_arrears (n + 1) 50 [some (.ref a0), some (.int x1), some (.int x2), some (.int x3), o4] [] h = ((if x1 < x3 then some (.inl (some (.int x2)), h) else bd S call dflT E_X12_arrears n 60 [some (.ref a0), some (.int x1), some (.int (-1)), some (.int x3), some (.int 0)] [] h)) := rfl
set_option maxRecDepth 100000 in
theorem g_X12_arrears_60 (S : sT) (call : cT) (n : Nat) (a0 : Nat) (x1 : Int32) (x2 : Int32) (x3 : Int32) (x4 : Int32) (h : pH) : bd S call dflT E_X12_arrears (n + 1) 60 [some (.ref a0), some (.int x1), some (.int x2), some (.int x3), some (.int x4)] [] h = (gV h (.ref a0) 15 1 (fun w1 => aI h w1 0 1683 (fun y2 => (if y2 ≤ x4 then (if 0 ≤ x2 then gV h (.ref a0) 15 17 (fun w3 => sI h w3 2 x2 (vp_nar .boolean 1) (fun h4 => bd S call dflT E_X12_arrears n 50 [some (.ref a0), some (.int x1), some (.int x2), some (.int (x3 + 1)), some (.int x4)] [] h4)) else some (.inl (some (.int (-1))), h)) else gV h (.ref a0) 15 17 (fun w5 => aI h w5 2 x4 (fun y6 => (if y6 = 0 then rC h (.ref a0) 15 (cI (call 165 [.ref a0, .int x4, .int 2] h) (fun y8 h7 => (if y8 ≤ 0 then bd S call dflT E_X12_arrears n 60 [some (.ref a0), some (.int x1), some (.int x2), some (.int x3), some (.int (x4 + 1))] [] h7 else (if x2 < 0 then bd S call dflT E_X12_arrears n 60 [some (.ref a0), some (.int x1), some (.int x4), some (.int x3), some (.int (x4 + 1))] [] h7 else rC h7 (.ref a0) 15 (cI (call 165 [.ref a0, .int x4, .int 2] h7) (fun y10 h9 => rC h9 (.ref a0) 15 (cI (call 165 [.ref a0, .int x2, .int 2] h9) (fun y12 h11 => (if y10 ≤ y12 then bd S call dflT E_X12_arrears n 60 [some (.ref a0), some (.int x1), some (.int x2), some (.int x3), some (.int (x4 + 1))] [] h11 else bd S call dflT E_X12_arrears n 60 [some (.ref a0), some (.int x1), some (.int x4), some (.int x3), some (.int (x4 + 1))] [] h11))))))))) else bd S call dflT E_X12_arrears n 60 [some (.ref a0), some (.int x1), some (.int x2), some (.int x3), some (.int (x4 + 1))] [] h))))))) := rfl
theorem dX12_words_0 : decode cX12_words 0 = .ok (.aload_n 0, 1) := by decide +kernel
theorem dX12_words_1 : decode cX12_words 1 = .ok (.invokevirtual 323, 3) := by decide +kernel
theorem dX12_words_4 : decode cX12_words 4 = .ok (.aload_n 0, 1) := by decide +kernel
theorem dX12_words_5 : decode cX12_words 5 = .ok (.iload_n 1, 1) := by decide +kernel
theorem dX12_words_6 : decode cX12_words 6 = .ok (.aload_n 0, 1) := by decide +kernel
theorem dX12_words_7 : decode cX12_words 7 = .ok (.invokevirtual 89, 3) := by decide +kernel
theorem dX12_words_10 : decode cX12_words 10 = .ok (.sipush 400, 3) := by decide +kernel
theorem dX12_words_13 : decode cX12_words 13 = .ok (.invokestatic 63, 3) := by decide +kernel
theorem dX12_words_16 : decode cX12_words 16 = .ok (.ifCond .ne 7, 3) := by decide +kernel
theorem dX12_words_19 : decode cX12_words 19 = .ok (.iconst 1, 1) := by decide +kernel
theorem dX12_words_20 : decode cX12_words 20 = .ok (.goto 4, 3) := by decide +kernel
theorem dX12_words_23 : decode cX12_words 23 = .ok (.iconst 0, 1) := by decide +kernel
theorem dX12_words_24 : decode cX12_words 24 = .ok (.iconst 1, 1) := by decide +kernel
theorem dX12_words_25 : decode cX12_words 25 = .ok (.invokevirtual 75, 3) := by decide +kernel
theorem dX12_words_28 : decode cX12_words 28 = .ok (.ifCond .eq 5, 3) := by decide +kernel
theorem dX12_words_31 : decode cX12_words 31 = .ok (.iconst 0, 1) := by decide +kernel
theorem dX12_words_32 : decode cX12_words 32 = .ok (.ireturn, 1) := by decide +kernel
theorem dX12_words_33 : decode cX12_words 33 = .ok (.aload_n 0, 1) := by decide +kernel
theorem dX12_words_34 : decode cX12_words 34 = .ok (.iconst 0, 1) := by decide +kernel
theorem dX12_words_35 : decode cX12_words 35 = .ok (.invokevirtual 326, 3) := by decide +kernel
theorem dX12_words_38 : decode cX12_words 38 = .ok (.istore_n 2, 1) := by decide +kernel
theorem dX12_words_39 : decode cX12_words 39 = .ok (.aload_n 0, 1) := by decide +kernel
theorem dX12_words_40 : decode cX12_words 40 = .ok (.iload_n 2, 1) := by decide +kernel
theorem dX12_words_41 : decode cX12_words 41 = .ok (.ifCond .ge 7, 3) := by decide +kernel
theorem dX12_words_44 : decode cX12_words 44 = .ok (.iconst 1, 1) := by decide +kernel
theorem dX12_words_45 : decode cX12_words 45 = .ok (.goto 4, 3) := by decide +kernel
theorem dX12_words_48 : decode cX12_words 48 = .ok (.iconst 0, 1) := by decide +kernel
theorem dX12_words_49 : decode cX12_words 49 = .ok (.iconst 1, 1) := by decide +kernel
theorem dX12_words_50 : decode cX12_words 50 = .ok (.invokevirtual 75, 3) := by decide +kernel
theorem dX12_words_53 : decode cX12_words 53 = .ok (.ifCond .ne 29, 3) := by decide +kernel
theorem dX12_words_56 : decode cX12_words 56 = .ok (.aload_n 0, 1) := by decide +kernel
theorem dX12_words_57 : decode cX12_words 57 = .ok (.aload_n 0, 1) := by decide +kernel
theorem dX12_words_58 : decode cX12_words 58 = .ok (.getfield 27, 3) := by decide +kernel
theorem dX12_words_61 : decode cX12_words 61 = .ok (.sipush 2650, 3) := by decide +kernel
theorem dX12_words_64 : decode cX12_words 64 = .ok (.iaload, 1) := by decide +kernel
theorem dX12_words_65 : decode cX12_words 65 = .ok (.bipush 12, 2) := by decide +kernel
theorem dX12_words_67 : decode cX12_words 67 = .ok (.if_icmp .ne 7, 3) := by decide +kernel
theorem dX12_words_70 : decode cX12_words 70 = .ok (.iconst 1, 1) := by decide +kernel
theorem dX12_words_71 : decode cX12_words 71 = .ok (.goto 4, 3) := by decide +kernel
theorem dX12_words_74 : decode cX12_words 74 = .ok (.iconst 0, 1) := by decide +kernel
theorem dX12_words_75 : decode cX12_words 75 = .ok (.iconst 2, 1) := by decide +kernel
theorem dX12_words_76 : decode cX12_words 76 = .ok (.invokevirtual 75, 3) := by decide +kernel
theorem dX12_words_79 : decode cX12_words 79 = .ok (.ifCond .eq 5, 3) := by decide +kernel
theorem dX12_words_82 : decode cX12_words 82 = .ok (.iconst 0, 1) := by decide +kernel
theorem dX12_words_83 : decode cX12_words 83 = .ok (.ireturn, 1) := by decide +kernel
theorem dX12_words_84 : decode cX12_words 84 = .ok (.aload_n 0, 1) := by decide +kernel
theorem dX12_words_85 : decode cX12_words 85 = .ok (.getfield 27, 3) := by decide +kernel
theorem dX12_words_88 : decode cX12_words 88 = .ok (.sipush 2650, 3) := by decide +kernel
theorem dX12_words_91 : decode cX12_words 91 = .ok (.iaload, 1) := by decide +kernel
theorem dX12_words_92 : decode cX12_words 92 = .ok (.istore_n 3, 1) := by decide +kernel
theorem dX12_words_93 : decode cX12_words 93 = .ok (.aload_n 0, 1) := by decide +kernel
theorem dX12_words_94 : decode cX12_words 94 = .ok (.iload_n 3, 1) := by decide +kernel
theorem dX12_words_95 : decode cX12_words 95 = .ok (.invokevirtual 329, 3) := by decide +kernel
theorem dX12_words_98 : decode cX12_words 98 = .ok (.aload_n 0, 1) := by decide +kernel
theorem dX12_words_99 : decode cX12_words 99 = .ok (.getfield 27, 3) := by decide +kernel
theorem dX12_words_102 : decode cX12_words 102 = .ok (.iload_n 3, 1) := by decide +kernel
theorem dX12_words_103 : decode cX12_words 103 = .ok (.invokestatic 140, 3) := by decide +kernel
theorem dX12_words_106 : decode cX12_words 106 = .ok (.iload_n 1, 1) := by decide +kernel
theorem dX12_words_107 : decode cX12_words 107 = .ok (.iastore, 1) := by decide +kernel
theorem dX12_words_108 : decode cX12_words 108 = .ok (.aload_n 0, 1) := by decide +kernel
theorem dX12_words_109 : decode cX12_words 109 = .ok (.getfield 27, 3) := by decide +kernel
theorem dX12_words_112 : decode cX12_words 112 = .ok (.sipush 2650, 3) := by decide +kernel
theorem dX12_words_115 : decode cX12_words 115 = .ok (.dup2, 1) := by decide +kernel
theorem dX12_words_116 : decode cX12_words 116 = .ok (.iaload, 1) := by decide +kernel
theorem dX12_words_117 : decode cX12_words 117 = .ok (.iconst 1, 1) := by decide +kernel
theorem dX12_words_118 : decode cX12_words 118 = .ok (.iadd, 1) := by decide +kernel
theorem dX12_words_119 : decode cX12_words 119 = .ok (.iastore, 1) := by decide +kernel
theorem dX12_words_120 : decode cX12_words 120 = .ok (.iload_n 2, 1) := by decide +kernel
theorem dX12_words_121 : decode cX12_words 121 = .ok (.ireturn, 1) := by decide +kernel
noncomputable def E_X12_words : mE := (mX12_words, [(41, [(0, (.aload_n 0, 1, false, false, 0, 0, 0, 0, 0, 0, [])), (1, (.invokevirtual 323, 4, false, false, 112, 0, 0, 15, 0, 0, [])), (4, (.aload_n 0, 5, false, false, 0, 0, 0, 0, 0, 0, [])), (5, (.iload_n 1, 6, false, false, 1, 0, 0, 0, 0, 0, [])), (6, (.aload_n 0, 7, false, false, 0, 0, 0, 0, 0, 0, [])), (7, (.invokevirtual 89, 10, false, false, 48, 0, 1, 15, 0, 0, [])), (10, (.sipush 400, 13, false, false, 0, 0, 0, 0, 400, 0, [])), (13, (.invokestatic 63, 16, false, false, 28, 3, 1, 0, 0, 0, [])), (16, (.ifCond .ne 7, 19, false, false, 23, 0, 0, 0, 0, 0, [])), (19, (.iconst 1, 20, false, false, 0, 0, 0, 0, 1, 0, [])), (20, (.goto 4, 23, false, true, 24, 0, 0, 0, 0, 0, [])), (23, (.iconst 0, 24, true, false, 0, 0, 0, 0, 0, 0, [])), (24, (.iconst 1, 25, false, false, 0, 0, 0, 0, 1, 0, [])), (25, (.invokevirtual 75, 28, false, false, 30, 2, 1, 15, 0, 0, [])), (28, (.ifCond .eq 5, 31, false, false, 33, 0, 0, 0, 0, 0, [])), (31, (.iconst 0, 32, false, false, 0, 0, 0, 0, 0, 0, [])), (32, (.ireturn, 33, false, false, 0, 0, 0, 0, 0, 0, [])), (33, (.aload_n 0, 34, false, false, 0, 0, 0, 0, 0, 0, [])), (34, (.iconst 0, 35, false, false, 0, 0, 0, 0, 0, 0, [])), (35, (.invokevirtual 326, 38, false, false, 139, 1, 1, 15, 0, 0, [])), (38, (.istore_n 2, 39, false, false, 2, 0, 0, 0, 0, 0, [])), (39, (.aload_n 0, 40, false, false, 0, 0, 0, 0, 0, 0, [])), (40, (.iload_n 2, 41, false, false, 2, 0, 0, 0, 0, 0, [])), (41, (.ifCond .ge 7, 44, false, false, 48, 0, 0, 0, 0, 0, []))]),
  (88, [(44, (.iconst 1, 45, false, false, 0, 0, 0, 0, 1, 0, [])), (45, (.goto 4, 48, false, true, 49, 0, 0, 0, 0, 0, [])), (48, (.iconst 0, 49, true, false, 0, 0, 0, 0, 0, 0, [])), (49, (.iconst 1, 50, false, false, 0, 0, 0, 0, 1, 0, [])), (50, (.invokevirtual 75, 53, false, false, 30, 2, 1, 15, 0, 0, [])), (53, (.ifCond .ne 29, 56, false, false, 82, 0, 0, 0, 0, 0, [])), (56, (.aload_n 0, 57, false, false, 0, 0, 0, 0, 0, 0, [])), (57, (.aload_n 0, 58, false, false, 0, 0, 0, 0, 0, 0, [])), (58, (.getfield 27, 61, false, false, 15, 1, 1, 0, 0, 0, [])), (61, (.sipush 2650, 64, false, false, 0, 0, 0, 0, 2650, 0, [])), (64, (.iaload, 65, false, false, 0, 0, 0, 0, 0, 0, [])), (65, (.bipush 12, 67, false, false, 0, 0, 0, 0, 12, 0, [])), (67, (.if_icmp .ne 7, 70, false, false, 74, 0, 0, 0, 0, 0, [])), (70, (.iconst 1, 71, false, false, 0, 0, 0, 0, 1, 0, [])), (71, (.goto 4, 74, false, true, 75, 0, 0, 0, 0, 0, [])), (74, (.iconst 0, 75, true, false, 0, 0, 0, 0, 0, 0, [])), (75, (.iconst 2, 76, false, false, 0, 0, 0, 0, 2, 0, [])), (76, (.invokevirtual 75, 79, false, false, 30, 2, 1, 15, 0, 0, [])), (79, (.ifCond .eq 5, 82, false, false, 84, 0, 0, 0, 0, 0, [])), (82, (.iconst 0, 83, false, false, 0, 0, 0, 0, 0, 0, [])), (83, (.ireturn, 84, false, false, 0, 0, 0, 0, 0, 0, [])), (84, (.aload_n 0, 85, false, false, 0, 0, 0, 0, 0, 0, [])), (85, (.getfield 27, 88, false, false, 15, 1, 1, 0, 0, 0, [])), (88, (.sipush 2650, 91, false, false, 0, 0, 0, 0, 2650, 0, []))]),
  (121, [(91, (.iaload, 92, false, false, 0, 0, 0, 0, 0, 0, [])), (92, (.istore_n 3, 93, false, false, 3, 0, 0, 0, 0, 0, [])), (93, (.aload_n 0, 94, false, false, 0, 0, 0, 0, 0, 0, [])), (94, (.iload_n 3, 95, false, false, 3, 0, 0, 0, 0, 0, [])), (95, (.invokevirtual 329, 98, false, false, 153, 1, 0, 15, 0, 0, [])), (98, (.aload_n 0, 99, false, false, 0, 0, 0, 0, 0, 0, [])), (99, (.getfield 27, 102, false, false, 15, 1, 1, 0, 0, 0, [])), (102, (.iload_n 3, 103, false, false, 3, 0, 0, 0, 0, 0, [])), (103, (.invokestatic 140, 106, false, false, 116, 1, 1, 0, 0, 0, [])), (106, (.iload_n 1, 107, false, false, 1, 0, 0, 0, 0, 0, [])), (107, (.iastore, 108, false, false, 0, 0, 0, 0, 0, 0, [])), (108, (.aload_n 0, 109, false, false, 0, 0, 0, 0, 0, 0, [])), (109, (.getfield 27, 112, false, false, 15, 1, 1, 0, 0, 0, [])), (112, (.sipush 2650, 115, false, false, 0, 0, 0, 0, 2650, 0, [])), (115, (.dup2, 116, false, false, 0, 0, 0, 0, 0, 0, [])), (116, (.iaload, 117, false, false, 0, 0, 0, 0, 0, 0, [])), (117, (.iconst 1, 118, false, false, 0, 0, 0, 0, 1, 0, [])), (118, (.iadd, 119, false, false, 0, 0, 0, 0, 0, 0, [])), (119, (.iastore, 120, false, false, 0, 0, 0, 0, 0, 0, [])), (120, (.iload_n 2, 121, false, false, 2, 0, 0, 0, 0, 0, [])), (121, (.ireturn, 122, false, false, 0, 0, 0, 0, 0, 0, []))])], 0, [])
set_option maxRecDepth 100000 in
theorem v_X12_words : VE MYT dflT E_X12_words := ⟨⟨⟨⟨⟨dX12_words_0, rfl⟩, rfl⟩, ⟨⟨dX12_words_1, rfl⟩, Or.inr ⟨by decide, ⟨_, my_112, sX12_323⟩, fun q => absurd q (by decide)⟩⟩, ⟨⟨dX12_words_4, rfl⟩, rfl⟩, ⟨⟨dX12_words_5, rfl⟩, rfl⟩, ⟨⟨dX12_words_6, rfl⟩, rfl⟩, ⟨⟨dX12_words_7, rfl⟩, Or.inr ⟨by decide, ⟨_, my_48, sX12_89⟩, fun q => absurd q (by decide)⟩⟩, ⟨⟨dX12_words_10, rfl⟩, rfl⟩, ⟨⟨dX12_words_13, rfl⟩, Or.inl ⟨rfl, _, my_28, sX12_63⟩⟩, ⟨⟨dX12_words_16, rfl⟩, rfl⟩, ⟨⟨dX12_words_19, rfl⟩, rfl⟩, ⟨⟨dX12_words_20, rfl⟩, rfl⟩, ⟨⟨dX12_words_23, rfl⟩, rfl⟩, ⟨⟨dX12_words_24, rfl⟩, rfl⟩, ⟨⟨dX12_words_25, rfl⟩, Or.inr ⟨by decide, ⟨_, my_30, sX12_75⟩, fun q => absurd q (by decide)⟩⟩, ⟨⟨dX12_words_28, rfl⟩, rfl⟩, ⟨⟨dX12_words_31, rfl⟩, rfl⟩, ⟨⟨dX12_words_32, rfl⟩, Or.inl ⟨rfl, rfl⟩⟩, ⟨⟨dX12_words_33, rfl⟩, rfl⟩, ⟨⟨dX12_words_34, rfl⟩, rfl⟩, ⟨⟨dX12_words_35, rfl⟩, Or.inr ⟨by decide, ⟨_, my_139, sX12_326⟩, fun q => absurd q (by decide)⟩⟩, ⟨⟨dX12_words_38, rfl⟩, rfl⟩, ⟨⟨dX12_words_39, rfl⟩, rfl⟩, ⟨⟨dX12_words_40, rfl⟩, rfl⟩, ⟨⟨dX12_words_41, rfl⟩, rfl⟩, trivial⟩,
  ⟨⟨⟨dX12_words_44, rfl⟩, rfl⟩, ⟨⟨dX12_words_45, rfl⟩, rfl⟩, ⟨⟨dX12_words_48, rfl⟩, rfl⟩, ⟨⟨dX12_words_49, rfl⟩, rfl⟩, ⟨⟨dX12_words_50, rfl⟩, Or.inr ⟨by decide, ⟨_, my_30, sX12_75⟩, fun q => absurd q (by decide)⟩⟩, ⟨⟨dX12_words_53, rfl⟩, rfl⟩, ⟨⟨dX12_words_56, rfl⟩, rfl⟩, ⟨⟨dX12_words_57, rfl⟩, rfl⟩, ⟨⟨dX12_words_58, rfl⟩, Or.inl ⟨by decide, _, _, fX12_27⟩⟩, ⟨⟨dX12_words_61, rfl⟩, rfl⟩, ⟨⟨dX12_words_64, rfl⟩, trivial⟩, ⟨⟨dX12_words_65, rfl⟩, rfl⟩, ⟨⟨dX12_words_67, rfl⟩, rfl⟩, ⟨⟨dX12_words_70, rfl⟩, rfl⟩, ⟨⟨dX12_words_71, rfl⟩, rfl⟩, ⟨⟨dX12_words_74, rfl⟩, rfl⟩, ⟨⟨dX12_words_75, rfl⟩, rfl⟩, ⟨⟨dX12_words_76, rfl⟩, Or.inr ⟨by decide, ⟨_, my_30, sX12_75⟩, fun q => absurd q (by decide)⟩⟩, ⟨⟨dX12_words_79, rfl⟩, rfl⟩, ⟨⟨dX12_words_82, rfl⟩, rfl⟩, ⟨⟨dX12_words_83, rfl⟩, Or.inl ⟨rfl, rfl⟩⟩, ⟨⟨dX12_words_84, rfl⟩, rfl⟩, ⟨⟨dX12_words_85, rfl⟩, Or.inl ⟨by decide, _, _, fX12_27⟩⟩, ⟨⟨dX12_words_88, rfl⟩, rfl⟩, trivial⟩,
  ⟨⟨⟨dX12_words_91, rfl⟩, trivial⟩, ⟨⟨dX12_words_92, rfl⟩, rfl⟩, ⟨⟨dX12_words_93, rfl⟩, rfl⟩, ⟨⟨dX12_words_94, rfl⟩, rfl⟩, ⟨⟨dX12_words_95, rfl⟩, Or.inr ⟨by decide, ⟨_, my_153, sX12_329⟩, fun q => absurd q (by decide)⟩⟩, ⟨⟨dX12_words_98, rfl⟩, rfl⟩, ⟨⟨dX12_words_99, rfl⟩, Or.inl ⟨by decide, _, _, fX12_27⟩⟩, ⟨⟨dX12_words_102, rfl⟩, rfl⟩, ⟨⟨dX12_words_103, rfl⟩, Or.inl ⟨rfl, _, my_116, sX12_140⟩⟩, ⟨⟨dX12_words_106, rfl⟩, rfl⟩, ⟨⟨dX12_words_107, rfl⟩, trivial⟩, ⟨⟨dX12_words_108, rfl⟩, rfl⟩, ⟨⟨dX12_words_109, rfl⟩, Or.inl ⟨by decide, _, _, fX12_27⟩⟩, ⟨⟨dX12_words_112, rfl⟩, rfl⟩, ⟨⟨dX12_words_115, rfl⟩, trivial⟩, ⟨⟨dX12_words_116, rfl⟩, trivial⟩, ⟨⟨dX12_words_117, rfl⟩, rfl⟩, ⟨⟨dX12_words_118, rfl⟩, trivial⟩, ⟨⟨dX12_words_119, rfl⟩, trivial⟩, ⟨⟨dX12_words_120, rfl⟩, rfl⟩, ⟨⟨dX12_words_121, rfl⟩, Or.inl ⟨rfl, rfl⟩⟩, trivial⟩, trivial⟩, by decide, Or.inl ⟨rfl, by decide, rfl⟩⟩
set_option maxRecDepth 100000 in
theorem g_X12_words_0 (S : sT) (call : cT) (n : Nat) (a0 : Nat) (x1 : Int32) (h : pH) : bd S call dflT E_X12_words (n + 1) 0 [some (.ref a0), some (.int x1), none, none] [] h = (rC h (.ref a0) 15 (cU (call 112 [.ref a0] h) (fun h1 => rC h1 (.ref a0) 15 (cI (call 48 [.ref a0] h1) (fun y3 h2 => cI (call 28 [.int x1, .int y3, .int 400] h2) (fun y5 h4 => (if y5 = 0 then bd S call dflT E_X12_words n 24 [some (.ref a0), some (.int x1), none, none] [.int 1, .ref a0] h4 else bd S call dflT E_X12_words n 24 [some (.ref a0), some (.int x1), none, none] [.int 0, .ref a0] h4))))))) := rfl
set_option maxRecDepth 100000 in
theorem g_X12_words_24 (S : sT) (call : cT) (n : Nat) (a0 : Nat) (x1 : Int32) (o2 : Option Value) (o3 : Option Value) (u0 : Value) (y1 : Int32) (h : pH) : bd S call dflT E_X12_words (n + 1) 24 [some (.ref a0), some (.int x1), o2, o3] [.int y1, u0] h = (rC h u0 15 (cI (call 30 [u0, .int y1, .int 1] h) (fun y2 h1 => (if y2 = 0 then rC h1 (.ref a0) 15 (cI (call 139 [.ref a0, .int 0] h1) (fun y4 h3 => (if 0 ≤ y4 then bd S call dflT E_X12_words n 49 [some (.ref a0), some (.int x1), some (.int y4), o3] [.int 0, .ref a0] h3 else bd S call dflT E_X12_words n 49 [some (.ref a0), some (.int x1), some (.int y4), o3] [.int 1, .ref a0] h3))) else some (.inl (some (.int 0)), h1))))) := rfl
set_option maxRecDepth 100000 in
theorem g_X12_words_49 (S : sT) (call : cT) (n : Nat) (a0 : Nat) (x1 : Int32) (x2 : Int32) (o3 : Option Value) (u0 : Value) (y1 : Int32) (h : pH) : bd S call dflT E_X12_words (n + 1) 49 [some (.ref a0), some (.int x1), some (.int x2), o3] [.int y1, u0] h = (rC h u0 15 (cI (call 30 [u0, .int y1, .int 1] h) (fun y2 h1 => (if y2 = 0 then gV h1 (.ref a0) 15 1 (fun w3 => aI h1 w3 0 2650 (fun y4 => (if y4 = 12 then bd S call dflT E_X12_words n 75 [some (.ref a0), some (.int x1), some (.int x2), o3] [.int 1, .ref a0] h1 else bd S call dflT E_X12_words n 75 [some (.ref a0), some (.int x1), some (.int x2), o3] [.int 0, .ref a0] h1))) else some (.inl (some (.int 0)), h1))))) := rfl
set_option maxRecDepth 100000 in
theorem g_X12_words_75 (S : sT) (call : cT) (n : Nat) (a0 : Nat) (x1 : Int32) (x2 : Int32) (o3 : Option Value) (u0 : Value) (y1 : Int32) (h : pH) : bd S call dflT E_X12_words (n + 1) 75 [some (.ref a0), some (.int x1), some (.int x2), o3] [.int y1, u0] h = (rC h u0 15 (cI (call 30 [u0, .int y1, .int 2] h) (fun y2 h1 => (if y2 = 0 then gV h1 (.ref a0) 15 1 (fun w3 => aI h1 w3 0 2650 (fun y4 => rC h1 (.ref a0) 15 (cU (call 153 [.ref a0, .int y4] h1) (fun h5 => gV h5 (.ref a0) 15 1 (fun w6 => cI (call 116 [.int y4] h5) (fun y8 h7 => sI h7 w6 0 y8 x1 (fun h9 => gV h9 (.ref a0) 15 1 (fun w10 => nl w10 (aI h9 w10 0 2650 (fun y11 => sI h9 w10 0 2650 (y11 + 1) (fun h12 => some (.inl (some (.int x2)), h12)))))))))))) else some (.inl (some (.int 0)), h1))))) := rfl
theorem dX12_fault_0 : decode cX12_fault 0 = .ok (.aload_n 0, 1) := by decide +kernel
theorem dX12_fault_1 : decode cX12_fault 1 = .ok (.iconst 0, 1) := by decide +kernel
theorem dX12_fault_2 : decode cX12_fault 2 = .ok (.putfield 3, 3) := by decide +kernel
theorem dX12_fault_5 : decode cX12_fault 5 = .ok (.aload_n 0, 1) := by decide +kernel
theorem dX12_fault_6 : decode cX12_fault 6 = .ok (.getfield 39, 3) := by decide +kernel
theorem dX12_fault_9 : decode cX12_fault 9 = .ok (.ireturn, 1) := by decide +kernel
noncomputable def E_X12_fault : mE := (mX12_fault, [(9, [(0, (.aload_n 0, 1, false, false, 0, 0, 0, 0, 0, 0, [])), (1, (.iconst 0, 2, false, false, 0, 0, 0, 0, 0, 0, [])), (2, (.putfield 3, 5, false, false, 15, 0, 0, 0, 0, 0, [])), (5, (.aload_n 0, 6, false, false, 0, 0, 0, 0, 0, 0, [])), (6, (.getfield 39, 9, false, false, 15, 10, 0, 0, 0, 0, [])), (9, (.ireturn, 10, false, false, 0, 0, 0, 0, 0, 0, []))])], 0, [])
set_option maxRecDepth 100000 in
theorem v_X12_fault : VE MYT dflT E_X12_fault := ⟨⟨⟨⟨⟨dX12_fault_0, rfl⟩, rfl⟩, ⟨⟨dX12_fault_1, rfl⟩, rfl⟩, ⟨⟨dX12_fault_2, rfl⟩, Or.inl ⟨rfl, fX12_3⟩⟩, ⟨⟨dX12_fault_5, rfl⟩, rfl⟩, ⟨⟨dX12_fault_6, rfl⟩, Or.inl ⟨by decide, _, _, fX12_39⟩⟩, ⟨⟨dX12_fault_9, rfl⟩, Or.inl ⟨rfl, rfl⟩⟩, trivial⟩, trivial⟩, by decide, Or.inl ⟨rfl, by decide, rfl⟩⟩
set_option maxRecDepth 100000 in
theorem g_X12_fault_0 (S : sT) (call : cT) (n : Nat) (a0 : Nat) (h : pH) : bd S call dflT E_X12_fault (n + 1) 0 [some (.ref a0)] [] h = (pF h (.ref a0) 15 0 (.int 0) (fun h1 => gI h1 (.ref a0) 15 10 (fun y2 => some (.inl (some (.int y2)), h1)))) := rfl
theorem dX12_mostOf_0 : decode cX12_mostOf 0 = .ok (.aload_n 0, 1) := by decide +kernel
theorem dX12_mostOf_1 : decode cX12_mostOf 1 = .ok (.aload_n 0, 1) := by decide +kernel
theorem dX12_mostOf_2 : decode cX12_mostOf 2 = .ok (.iload_n 1, 1) := by decide +kernel
theorem dX12_mostOf_3 : decode cX12_mostOf 3 = .ok (.iconst 0, 1) := by decide +kernel
theorem dX12_mostOf_4 : decode cX12_mostOf 4 = .ok (.invokevirtual 311, 3) := by decide +kernel
theorem dX12_mostOf_7 : decode cX12_mostOf 7 = .ok (.invokevirtual 314, 3) := by decide +kernel
theorem dX12_mostOf_10 : decode cX12_mostOf 10 = .ok (.ireturn, 1) := by decide +kernel
noncomputable def E_X12_mostOf : mE := (mX12_mostOf, [(10, [(0, (.aload_n 0, 1, false, false, 0, 0, 0, 0, 0, 0, [])), (1, (.aload_n 0, 2, false, false, 0, 0, 0, 0, 0, 0, [])), (2, (.iload_n 1, 3, false, false, 1, 0, 0, 0, 0, 0, [])), (3, (.iconst 0, 4, false, false, 0, 0, 0, 0, 0, 0, [])), (4, (.invokevirtual 311, 7, false, false, 144, 2, 1, 15, 0, 0, [])), (7, (.invokevirtual 314, 10, false, false, 145, 1, 1, 15, 0, 0, [])), (10, (.ireturn, 11, false, false, 0, 0, 0, 0, 0, 0, []))])], 0, [])
set_option maxRecDepth 100000 in
theorem v_X12_mostOf : VE MYT dflT E_X12_mostOf := ⟨⟨⟨⟨⟨dX12_mostOf_0, rfl⟩, rfl⟩, ⟨⟨dX12_mostOf_1, rfl⟩, rfl⟩, ⟨⟨dX12_mostOf_2, rfl⟩, rfl⟩, ⟨⟨dX12_mostOf_3, rfl⟩, rfl⟩, ⟨⟨dX12_mostOf_4, rfl⟩, Or.inr ⟨by decide, ⟨_, my_144, sX12_311⟩, fun q => absurd q (by decide)⟩⟩, ⟨⟨dX12_mostOf_7, rfl⟩, Or.inr ⟨by decide, ⟨_, my_145, sX12_314⟩, fun q => absurd q (by decide)⟩⟩, ⟨⟨dX12_mostOf_10, rfl⟩, Or.inl ⟨rfl, rfl⟩⟩, trivial⟩, trivial⟩, by decide, Or.inl ⟨rfl, by decide, rfl⟩⟩
set_option maxRecDepth 100000 in
theorem g_X12_mostOf_0 (S : sT) (call : cT) (n : Nat) (a0 : Nat) (x1 : Int32) (h : pH) : bd S call dflT E_X12_mostOf (n + 1) 0 [some (.ref a0), some (.int x1)] [] h = (rC h (.ref a0) 15 (cI (call 144 [.ref a0, .int x1, .int 0] h) (fun y2 h1 => rC h1 (.ref a0) 15 (cI (call 145 [.ref a0, .int y2] h1) (fun y4 h3 => some (.inl (some (.int y4)), h3)))))) := rfl
theorem dX12_firstLine_0 : decode cX12_firstLine 0 = .ok (.aload_n 0, 1) := by decide +kernel
theorem dX12_firstLine_1 : decode cX12_firstLine 1 = .ok (.invokevirtual 305, 3) := by decide +kernel
theorem dX12_firstLine_4 : decode cX12_firstLine 4 = .ok (.aload_n 0, 1) := by decide +kernel
theorem dX12_firstLine_5 : decode cX12_firstLine 5 = .ok (.iload_n 2, 1) := by decide +kernel
theorem dX12_firstLine_6 : decode cX12_firstLine 6 = .ok (.iconst (-1), 1) := by decide +kernel
theorem dX12_firstLine_7 : decode cX12_firstLine 7 = .ok (.invokevirtual 317, 3) := by decide +kernel
theorem dX12_firstLine_10 : decode cX12_firstLine 10 = .ok (.iconst 0, 1) := by decide +kernel
theorem dX12_firstLine_11 : decode cX12_firstLine 11 = .ok (.istore_n 3, 1) := by decide +kernel
theorem dX12_firstLine_12 : decode cX12_firstLine 12 = .ok (.iload_n 3, 1) := by decide +kernel
theorem dX12_firstLine_13 : decode cX12_firstLine 13 = .ok (.aload_n 0, 1) := by decide +kernel
theorem dX12_firstLine_14 : decode cX12_firstLine 14 = .ok (.getfield 296, 3) := by decide +kernel
theorem dX12_firstLine_17 : decode cX12_firstLine 17 = .ok (.if_icmp .ge 72, 3) := by decide +kernel
theorem dX12_firstLine_20 : decode cX12_firstLine 20 = .ok (.iconst 0, 1) := by decide +kernel
theorem dX12_firstLine_21 : decode cX12_firstLine 21 = .ok (.istore 4, 2) := by decide +kernel
theorem dX12_firstLine_23 : decode cX12_firstLine 23 = .ok (.iload 4, 2) := by decide +kernel
theorem dX12_firstLine_25 : decode cX12_firstLine 25 = .ok (.aload_n 0, 1) := by decide +kernel
theorem dX12_firstLine_26 : decode cX12_firstLine 26 = .ok (.aload_n 0, 1) := by decide +kernel
theorem dX12_firstLine_27 : decode cX12_firstLine 27 = .ok (.getfield 52, 3) := by decide +kernel
theorem dX12_firstLine_30 : decode cX12_firstLine 30 = .ok (.iload_n 3, 1) := by decide +kernel
theorem dX12_firstLine_31 : decode cX12_firstLine 31 = .ok (.iaload, 1) := by decide +kernel
theorem dX12_firstLine_32 : decode cX12_firstLine 32 = .ok (.invokevirtual 299, 3) := by decide +kernel
theorem dX12_firstLine_35 : decode cX12_firstLine 35 = .ok (.if_icmp .ge 48, 3) := by decide +kernel
theorem dX12_firstLine_38 : decode cX12_firstLine 38 = .ok (.aload_n 0, 1) := by decide +kernel
theorem dX12_firstLine_39 : decode cX12_firstLine 39 = .ok (.iload_n 3, 1) := by decide +kernel
theorem dX12_firstLine_40 : decode cX12_firstLine 40 = .ok (.iload 4, 2) := by decide +kernel
theorem dX12_firstLine_42 : decode cX12_firstLine 42 = .ok (.iload_n 1, 1) := by decide +kernel
theorem dX12_firstLine_43 : decode cX12_firstLine 43 = .ok (.invokevirtual 308, 3) := by decide +kernel
theorem dX12_firstLine_46 : decode cX12_firstLine 46 = .ok (.ifCond .eq 31, 3) := by decide +kernel
theorem dX12_firstLine_49 : decode cX12_firstLine 49 = .ok (.aload_n 0, 1) := by decide +kernel
theorem dX12_firstLine_50 : decode cX12_firstLine 50 = .ok (.aload_n 0, 1) := by decide +kernel
theorem dX12_firstLine_51 : decode cX12_firstLine 51 = .ok (.getfield 52, 3) := by decide +kernel
theorem dX12_firstLine_54 : decode cX12_firstLine 54 = .ok (.iload_n 3, 1) := by decide +kernel
theorem dX12_firstLine_55 : decode cX12_firstLine 55 = .ok (.iaload, 1) := by decide +kernel
theorem dX12_firstLine_56 : decode cX12_firstLine 56 = .ok (.iload 4, 2) := by decide +kernel
theorem dX12_firstLine_58 : decode cX12_firstLine 58 = .ok (.invokevirtual 320, 3) := by decide +kernel
theorem dX12_firstLine_61 : decode cX12_firstLine 61 = .ok (.ifCond .eq 16, 3) := by decide +kernel
theorem dX12_firstLine_64 : decode cX12_firstLine 64 = .ok (.bipush 16, 2) := by decide +kernel
theorem dX12_firstLine_66 : decode cX12_firstLine 66 = .ok (.aload_n 0, 1) := by decide +kernel
theorem dX12_firstLine_67 : decode cX12_firstLine 67 = .ok (.getfield 52, 3) := by decide +kernel
theorem dX12_firstLine_70 : decode cX12_firstLine 70 = .ok (.iload_n 3, 1) := by decide +kernel
theorem dX12_firstLine_71 : decode cX12_firstLine 71 = .ok (.iaload, 1) := by decide +kernel
theorem dX12_firstLine_72 : decode cX12_firstLine 72 = .ok (.imul, 1) := by decide +kernel
theorem dX12_firstLine_73 : decode cX12_firstLine 73 = .ok (.iload 4, 2) := by decide +kernel
theorem dX12_firstLine_75 : decode cX12_firstLine 75 = .ok (.iadd, 1) := by decide +kernel
theorem dX12_firstLine_76 : decode cX12_firstLine 76 = .ok (.ireturn, 1) := by decide +kernel
theorem dX12_firstLine_77 : decode cX12_firstLine 77 = .ok (.iinc 4 1, 3) := by decide +kernel
theorem dX12_firstLine_80 : decode cX12_firstLine 80 = .ok (.goto (-57), 3) := by decide +kernel
theorem dX12_firstLine_83 : decode cX12_firstLine 83 = .ok (.iinc 3 1, 3) := by decide +kernel
theorem dX12_firstLine_86 : decode cX12_firstLine 86 = .ok (.goto (-74), 3) := by decide +kernel
theorem dX12_firstLine_89 : decode cX12_firstLine 89 = .ok (.iconst (-1), 1) := by decide +kernel
theorem dX12_firstLine_90 : decode cX12_firstLine 90 = .ok (.ireturn, 1) := by decide +kernel
noncomputable def E_X12_firstLine : mE := (mX12_firstLine, [(39, [(0, (.aload_n 0, 1, false, false, 0, 0, 0, 0, 0, 0, [])), (1, (.invokevirtual 305, 4, false, false, 140, 0, 0, 15, 0, 0, [])), (4, (.aload_n 0, 5, false, false, 0, 0, 0, 0, 0, 0, [])), (5, (.iload_n 2, 6, false, false, 2, 0, 0, 0, 0, 0, [])), (6, (.iconst (-1), 7, false, false, 0, 0, 0, 0, -1, 0, [])), (7, (.invokevirtual 317, 10, false, false, 238, 2, 0, 15, 0, 0, [])), (10, (.iconst 0, 11, false, false, 0, 0, 0, 0, 0, 0, [])), (11, (.istore_n 3, 12, true, false, 3, 0, 0, 0, 0, 0, [])), (12, (.iload_n 3, 13, false, false, 3, 0, 0, 0, 0, 0, [])), (13, (.aload_n 0, 14, false, false, 0, 0, 0, 0, 0, 0, [])), (14, (.getfield 296, 17, false, false, 15, 16, 0, 0, 0, 0, [])), (17, (.if_icmp .ge 72, 20, false, false, 89, 0, 0, 0, 0, 0, [])), (20, (.iconst 0, 21, false, false, 0, 0, 0, 0, 0, 0, [])), (21, (.istore 4, 23, true, false, 4, 0, 0, 0, 0, 0, [])), (23, (.iload 4, 25, false, false, 4, 0, 0, 0, 0, 0, [])), (25, (.aload_n 0, 26, false, false, 0, 0, 0, 0, 0, 0, [])), (26, (.aload_n 0, 27, false, false, 0, 0, 0, 0, 0, 0, [])), (27, (.getfield 52, 30, false, false, 15, 15, 1, 0, 0, 0, [])), (30, (.iload_n 3, 31, false, false, 3, 0, 0, 0, 0, 0, [])), (31, (.iaload, 32, false, false, 0, 0, 0, 0, 0, 0, [])), (32, (.invokevirtual 299, 35, false, false, 141, 1, 1, 15, 0, 0, [])), (35, (.if_icmp .ge 48, 38, false, false, 83, 0, 0, 0, 0, 0, [])), (38, (.aload_n 0, 39, false, false, 0, 0, 0, 0, 0, 0, [])), (39, (.iload_n 3, 40, false, false, 3, 0, 0, 0, 0, 0, []))]),
  (83, [(40, (.iload 4, 42, false, false, 4, 0, 0, 0, 0, 0, [])), (42, (.iload_n 1, 43, false, false, 1, 0, 0, 0, 0, 0, [])), (43, (.invokevirtual 308, 46, false, false, 143, 3, 1, 15, 0, 0, [])), (46, (.ifCond .eq 31, 49, false, false, 77, 0, 0, 0, 0, 0, [])), (49, (.aload_n 0, 50, false, false, 0, 0, 0, 0, 0, 0, [])), (50, (.aload_n 0, 51, false, false, 0, 0, 0, 0, 0, 0, [])), (51, (.getfield 52, 54, false, false, 15, 15, 1, 0, 0, 0, [])), (54, (.iload_n 3, 55, false, false, 3, 0, 0, 0, 0, 0, [])), (55, (.iaload, 56, false, false, 0, 0, 0, 0, 0, 0, [])), (56, (.iload 4, 58, false, false, 4, 0, 0, 0, 0, 0, [])), (58, (.invokevirtual 320, 61, false, false, 239, 2, 1, 15, 0, 0, [])), (61, (.ifCond .eq 16, 64, false, false, 77, 0, 0, 0, 0, 0, [])), (64, (.bipush 16, 66, false, false, 0, 0, 0, 0, 16, 0, [])), (66, (.aload_n 0, 67, false, false, 0, 0, 0, 0, 0, 0, [])), (67, (.getfield 52, 70, false, false, 15, 15, 1, 0, 0, 0, [])), (70, (.iload_n 3, 71, false, false, 3, 0, 0, 0, 0, 0, [])), (71, (.iaload, 72, false, false, 0, 0, 0, 0, 0, 0, [])), (72, (.imul, 73, false, false, 0, 0, 0, 0, 0, 0, [])), (73, (.iload 4, 75, false, false, 4, 0, 0, 0, 0, 0, [])), (75, (.iadd, 76, false, false, 0, 0, 0, 0, 0, 0, [])), (76, (.ireturn, 77, false, false, 0, 0, 0, 0, 0, 0, [])), (77, (.iinc 4 1, 80, false, false, 4, 0, 0, 0, 1, 0, [])), (80, (.goto (-57), 83, false, true, 23, 0, 0, 0, 0, 0, [])), (83, (.iinc 3 1, 86, false, false, 3, 0, 0, 0, 1, 0, []))]),
  (90, [(86, (.goto (-74), 89, false, true, 12, 0, 0, 0, 0, 0, [])), (89, (.iconst (-1), 90, false, false, 0, 0, 0, 0, -1, 0, [])), (90, (.ireturn, 91, false, false, 0, 0, 0, 0, 0, 0, []))])], 0, [])
set_option maxRecDepth 100000 in
theorem v_X12_firstLine : VE MYT dflT E_X12_firstLine := ⟨⟨⟨⟨⟨dX12_firstLine_0, rfl⟩, rfl⟩, ⟨⟨dX12_firstLine_1, rfl⟩, Or.inr ⟨by decide, ⟨_, my_140, sX12_305⟩, fun q => absurd q (by decide)⟩⟩, ⟨⟨dX12_firstLine_4, rfl⟩, rfl⟩, ⟨⟨dX12_firstLine_5, rfl⟩, rfl⟩, ⟨⟨dX12_firstLine_6, rfl⟩, rfl⟩, ⟨⟨dX12_firstLine_7, rfl⟩, Or.inr ⟨by decide, ⟨_, my_238, sX12_317⟩, fun q => absurd q (by decide)⟩⟩, ⟨⟨dX12_firstLine_10, rfl⟩, rfl⟩, ⟨⟨dX12_firstLine_11, rfl⟩, rfl⟩, ⟨⟨dX12_firstLine_12, rfl⟩, rfl⟩, ⟨⟨dX12_firstLine_13, rfl⟩, rfl⟩, ⟨⟨dX12_firstLine_14, rfl⟩, Or.inl ⟨by decide, _, _, fX12_296⟩⟩, ⟨⟨dX12_firstLine_17, rfl⟩, rfl⟩, ⟨⟨dX12_firstLine_20, rfl⟩, rfl⟩, ⟨⟨dX12_firstLine_21, rfl⟩, rfl⟩, ⟨⟨dX12_firstLine_23, rfl⟩, rfl⟩, ⟨⟨dX12_firstLine_25, rfl⟩, rfl⟩, ⟨⟨dX12_firstLine_26, rfl⟩, rfl⟩, ⟨⟨dX12_firstLine_27, rfl⟩, Or.inl ⟨by decide, _, _, fX12_52⟩⟩, ⟨⟨dX12_firstLine_30, rfl⟩, rfl⟩, ⟨⟨dX12_firstLine_31, rfl⟩, trivial⟩, ⟨⟨dX12_firstLine_32, rfl⟩, Or.inr ⟨by decide, ⟨_, my_141, sX12_299⟩, fun q => absurd q (by decide)⟩⟩, ⟨⟨dX12_firstLine_35, rfl⟩, rfl⟩, ⟨⟨dX12_firstLine_38, rfl⟩, rfl⟩, ⟨⟨dX12_firstLine_39, rfl⟩, rfl⟩, trivial⟩,
  ⟨⟨⟨dX12_firstLine_40, rfl⟩, rfl⟩, ⟨⟨dX12_firstLine_42, rfl⟩, rfl⟩, ⟨⟨dX12_firstLine_43, rfl⟩, Or.inr ⟨by decide, ⟨_, my_143, sX12_308⟩, fun q => absurd q (by decide)⟩⟩, ⟨⟨dX12_firstLine_46, rfl⟩, rfl⟩, ⟨⟨dX12_firstLine_49, rfl⟩, rfl⟩, ⟨⟨dX12_firstLine_50, rfl⟩, rfl⟩, ⟨⟨dX12_firstLine_51, rfl⟩, Or.inl ⟨by decide, _, _, fX12_52⟩⟩, ⟨⟨dX12_firstLine_54, rfl⟩, rfl⟩, ⟨⟨dX12_firstLine_55, rfl⟩, trivial⟩, ⟨⟨dX12_firstLine_56, rfl⟩, rfl⟩, ⟨⟨dX12_firstLine_58, rfl⟩, Or.inr ⟨by decide, ⟨_, my_239, sX12_320⟩, fun q => absurd q (by decide)⟩⟩, ⟨⟨dX12_firstLine_61, rfl⟩, rfl⟩, ⟨⟨dX12_firstLine_64, rfl⟩, rfl⟩, ⟨⟨dX12_firstLine_66, rfl⟩, rfl⟩, ⟨⟨dX12_firstLine_67, rfl⟩, Or.inl ⟨by decide, _, _, fX12_52⟩⟩, ⟨⟨dX12_firstLine_70, rfl⟩, rfl⟩, ⟨⟨dX12_firstLine_71, rfl⟩, trivial⟩, ⟨⟨dX12_firstLine_72, rfl⟩, trivial⟩, ⟨⟨dX12_firstLine_73, rfl⟩, rfl⟩, ⟨⟨dX12_firstLine_75, rfl⟩, trivial⟩, ⟨⟨dX12_firstLine_76, rfl⟩, Or.inl ⟨rfl, rfl⟩⟩, ⟨⟨dX12_firstLine_77, rfl⟩, ⟨rfl, rfl⟩⟩, ⟨⟨dX12_firstLine_80, rfl⟩, rfl⟩, ⟨⟨dX12_firstLine_83, rfl⟩, ⟨rfl, rfl⟩⟩, trivial⟩,
  ⟨⟨⟨dX12_firstLine_86, rfl⟩, rfl⟩, ⟨⟨dX12_firstLine_89, rfl⟩, rfl⟩, ⟨⟨dX12_firstLine_90, rfl⟩, Or.inl ⟨rfl, rfl⟩⟩, trivial⟩, trivial⟩, by decide, Or.inl ⟨rfl, by decide, rfl⟩⟩
set_option maxRecDepth 100000 in
theorem g_X12_firstLine_0 (S : sT) (call : cT) (n : Nat) (a0 : Nat) (x1 : Int32) (x2 : Int32) (h : pH) : bd S call dflT E_X12_firstLine (n + 1) 0 [some (.ref a0), some (.int x1), some (.int x2), none, none] [] h = (rC h (.ref a0) 15 (cU (call 140 [.ref a0] h) (fun h1 => rC h1 (.ref a0) 15 (cU (call 238 [.ref a0, .int x2, .int (-1)] h1) (fun h2 => bd S call dflT E_X12_firstLine n 12 [some (.ref a0), some (.int x1), some (.int x2), some (.int 0), none] [] h2))))) := rfl
set_option maxRecDepth 100000 in
theorem g_X12_firstLine_12 (S : sT) (call : cT) (n : Nat) (a0 : Nat) (x1 : Int32) (x2 : Int32) (x3 : Int32) (o4 : Option Value) (h : pH) : bd S call dflT E_X12_firstLine (n + 1) 12 [some (.ref a0), some (.int x1), some (.int x2), some (.int x3), o4] [] h = (gI h (.ref a0) 15 16 (fun y1 => (if y1 ≤ x3 then some (.inl (some (.int (-1))), h) else bd S call dflT E_X12_firstLine n 23 [some (.ref a0), some (.int x1), some (.int x2), some (.int x3), some (.int 0)] [] h))) := rfl
set_option maxRecDepth 100000 in
theorem g_X12_firstLine_23 (S : sT) (call : cT) (n : Nat) (a0 : Nat) (x1 : Int32) (x2 : Int32) (x3 : Int32) (x4 : Int32) (h : pH) : bd S call dflT E_X12_firstLine (n + 1) 23 [some (.ref a0), some (.int x1), some (.int x2), some (.int x3), some (.int x4)] [] h = (gV h (.ref a0) 15 15 (fun w1 => aI h w1 0 x3 (fun y2 => rC h (.ref a0) 15 (cI (call 141 [.ref a0, .int y2] h) (fun y4 h3 => (if y4 ≤ x4 then bd S call dflT E_X12_firstLine n 12 [some (.ref a0), some (.int x1), some (.int x2), some (.int (x3 + 1)), some (.int x4)] [] h3 else rC h3 (.ref a0) 15 (cI (call 143 [.ref a0, .int x3, .int x4, .int x1] h3) (fun y6 h5 => (if y6 = 0 then bd S call dflT E_X12_firstLine n 23 [some (.ref a0), some (.int x1), some (.int x2), some (.int x3), some (.int (x4 + 1))] [] h5 else gV h5 (.ref a0) 15 15 (fun w7 => aI h5 w7 0 x3 (fun y8 => rC h5 (.ref a0) 15 (cI (call 239 [.ref a0, .int y8, .int x4] h5) (fun y10 h9 => (if y10 = 0 then bd S call dflT E_X12_firstLine n 23 [some (.ref a0), some (.int x1), some (.int x2), some (.int x3), some (.int (x4 + 1))] [] h9 else gV h9 (.ref a0) 15 15 (fun w11 => aI h9 w11 0 x3 (fun y12 => some (.inl (some (.int ((16 * y12) + x4))), h9))))))))))))))))) := rfl
theorem dX12_may_0 : decode cX12_may 0 = .ok (.aload_n 0, 1) := by decide +kernel
theorem dX12_may_1 : decode cX12_may 1 = .ok (.iconst 0, 1) := by decide +kernel
theorem dX12_may_2 : decode cX12_may 2 = .ok (.putfield 3, 3) := by decide +kernel
theorem dX12_may_5 : decode cX12_may 5 = .ok (.aload_n 0, 1) := by decide +kernel
theorem dX12_may_6 : decode cX12_may 6 = .ok (.iload_n 2, 1) := by decide +kernel
theorem dX12_may_7 : decode cX12_may 7 = .ok (.invokestatic 71, 3) := by decide +kernel
theorem dX12_may_10 : decode cX12_may 10 = .ok (.iconst 1, 1) := by decide +kernel
theorem dX12_may_11 : decode cX12_may 11 = .ok (.invokevirtual 75, 3) := by decide +kernel
theorem dX12_may_14 : decode cX12_may 14 = .ok (.ifCond .eq 5, 3) := by decide +kernel
theorem dX12_may_17 : decode cX12_may 17 = .ok (.iconst 0, 1) := by decide +kernel
theorem dX12_may_18 : decode cX12_may 18 = .ok (.ireturn, 1) := by decide +kernel
theorem dX12_may_19 : decode cX12_may 19 = .ok (.iload_n 1, 1) := by decide +kernel
theorem dX12_may_20 : decode cX12_may 20 = .ok (.tableswitch 115 0 9 #[56, 63, 79, 86, 102, 107, 107, 107, 107, 107], 56) := by decide +kernel
theorem dX12_may_76 : decode cX12_may 76 = .ok (.aload_n 0, 1) := by decide +kernel
theorem dX12_may_77 : decode cX12_may 77 = .ok (.bipush 10, 2) := by decide +kernel
theorem dX12_may_79 : decode cX12_may 79 = .ok (.invokevirtual 333, 3) := by decide +kernel
theorem dX12_may_82 : decode cX12_may 82 = .ok (.ireturn, 1) := by decide +kernel
theorem dX12_may_83 : decode cX12_may 83 = .ok (.aload_n 0, 1) := by decide +kernel
theorem dX12_may_84 : decode cX12_may 84 = .ok (.bipush 11, 2) := by decide +kernel
theorem dX12_may_86 : decode cX12_may 86 = .ok (.iload_n 2, 1) := by decide +kernel
theorem dX12_may_87 : decode cX12_may 87 = .ok (.invokevirtual 336, 3) := by decide +kernel
theorem dX12_may_90 : decode cX12_may 90 = .ok (.ifCond .lt 7, 3) := by decide +kernel
theorem dX12_may_93 : decode cX12_may 93 = .ok (.iconst 1, 1) := by decide +kernel
theorem dX12_may_94 : decode cX12_may 94 = .ok (.goto 4, 3) := by decide +kernel
theorem dX12_may_97 : decode cX12_may 97 = .ok (.iconst 0, 1) := by decide +kernel
theorem dX12_may_98 : decode cX12_may 98 = .ok (.ireturn, 1) := by decide +kernel
theorem dX12_may_99 : decode cX12_may 99 = .ok (.aload_n 0, 1) := by decide +kernel
theorem dX12_may_100 : decode cX12_may 100 = .ok (.bipush 12, 2) := by decide +kernel
theorem dX12_may_102 : decode cX12_may 102 = .ok (.invokevirtual 333, 3) := by decide +kernel
theorem dX12_may_105 : decode cX12_may 105 = .ok (.ireturn, 1) := by decide +kernel
theorem dX12_may_106 : decode cX12_may 106 = .ok (.aload_n 0, 1) := by decide +kernel
theorem dX12_may_107 : decode cX12_may 107 = .ok (.bipush 13, 2) := by decide +kernel
theorem dX12_may_109 : decode cX12_may 109 = .ok (.iload_n 2, 1) := by decide +kernel
theorem dX12_may_110 : decode cX12_may 110 = .ok (.invokevirtual 336, 3) := by decide +kernel
theorem dX12_may_113 : decode cX12_may 113 = .ok (.ifCond .lt 7, 3) := by decide +kernel
theorem dX12_may_116 : decode cX12_may 116 = .ok (.iconst 1, 1) := by decide +kernel
theorem dX12_may_117 : decode cX12_may 117 = .ok (.goto 4, 3) := by decide +kernel
theorem dX12_may_120 : decode cX12_may 120 = .ok (.iconst 0, 1) := by decide +kernel
theorem dX12_may_121 : decode cX12_may 121 = .ok (.ireturn, 1) := by decide +kernel
theorem dX12_may_122 : decode cX12_may 122 = .ok (.aload_n 0, 1) := by decide +kernel
theorem dX12_may_123 : decode cX12_may 123 = .ok (.invokevirtual 339, 3) := by decide +kernel
theorem dX12_may_126 : decode cX12_may 126 = .ok (.ireturn, 1) := by decide +kernel
theorem dX12_may_127 : decode cX12_may 127 = .ok (.aload_n 0, 1) := by decide +kernel
theorem dX12_may_128 : decode cX12_may 128 = .ok (.iload_n 1, 1) := by decide +kernel
theorem dX12_may_129 : decode cX12_may 129 = .ok (.iconst 5, 1) := by decide +kernel
theorem dX12_may_130 : decode cX12_may 130 = .ok (.isub, 1) := by decide +kernel
theorem dX12_may_131 : decode cX12_may 131 = .ok (.invokevirtual 342, 3) := by decide +kernel
theorem dX12_may_134 : decode cX12_may 134 = .ok (.ireturn, 1) := by decide +kernel
theorem dX12_may_135 : decode cX12_may 135 = .ok (.aload_n 0, 1) := by decide +kernel
theorem dX12_may_136 : decode cX12_may 136 = .ok (.iconst 2, 1) := by decide +kernel
theorem dX12_may_137 : decode cX12_may 137 = .ok (.putfield 3, 3) := by decide +kernel
theorem dX12_may_140 : decode cX12_may 140 = .ok (.iconst 0, 1) := by decide +kernel
theorem dX12_may_141 : decode cX12_may 141 = .ok (.ireturn, 1) := by decide +kernel
noncomputable def E_X12_may : mE := (mX12_may, [(94, [(0, (.aload_n 0, 1, false, false, 0, 0, 0, 0, 0, 0, [])), (1, (.iconst 0, 2, false, false, 0, 0, 0, 0, 0, 0, [])), (2, (.putfield 3, 5, false, false, 15, 0, 0, 0, 0, 0, [])), (5, (.aload_n 0, 6, false, false, 0, 0, 0, 0, 0, 0, [])), (6, (.iload_n 2, 7, false, false, 2, 0, 0, 0, 0, 0, [])), (7, (.invokestatic 71, 10, false, false, 29, 1, 1, 0, 0, 0, [])), (10, (.iconst 1, 11, false, false, 0, 0, 0, 0, 1, 0, [])), (11, (.invokevirtual 75, 14, false, false, 30, 2, 1, 15, 0, 0, [])), (14, (.ifCond .eq 5, 17, false, false, 19, 0, 0, 0, 0, 0, [])), (17, (.iconst 0, 18, false, false, 0, 0, 0, 0, 0, 0, [])), (18, (.ireturn, 19, false, false, 0, 0, 0, 0, 0, 0, [])), (19, (.iload_n 1, 20, false, false, 1, 0, 0, 0, 0, 0, [])), (20, (.tableswitch 115 0 9 #[56, 63, 79, 86, 102, 107, 107, 107, 107, 107], 0, false, false, 135, 0, 0, 0, 0, 0, [(0, 76), (1, 83), (2, 99), (3, 106), (4, 122), (5, 127), (6, 127), (7, 127), (8, 127), (9, 127)])), (76, (.aload_n 0, 77, false, false, 0, 0, 0, 0, 0, 0, [])), (77, (.bipush 10, 79, false, false, 0, 0, 0, 0, 10, 0, [])), (79, (.invokevirtual 333, 82, false, false, 291, 1, 1, 15, 0, 0, [])), (82, (.ireturn, 83, false, false, 0, 0, 0, 0, 0, 0, [])), (83, (.aload_n 0, 84, false, false, 0, 0, 0, 0, 0, 0, [])), (84, (.bipush 11, 86, false, false, 0, 0, 0, 0, 11, 0, [])), (86, (.iload_n 2, 87, false, false, 2, 0, 0, 0, 0, 0, [])), (87, (.invokevirtual 336, 90, false, false, 292, 2, 1, 15, 0, 0, [])), (90, (.ifCond .lt 7, 93, false, false, 97, 0, 0, 0, 0, 0, [])), (93, (.iconst 1, 94, false, false, 0, 0, 0, 0, 1, 0, [])), (94, (.goto 4, 97, false, false, 98, 0, 0, 0, 0, 0, []))]),
  (134, [(97, (.iconst 0, 98, false, false, 0, 0, 0, 0, 0, 0, [])), (98, (.ireturn, 99, false, false, 0, 0, 0, 0, 0, 0, [])), (99, (.aload_n 0, 100, false, false, 0, 0, 0, 0, 0, 0, [])), (100, (.bipush 12, 102, false, false, 0, 0, 0, 0, 12, 0, [])), (102, (.invokevirtual 333, 105, false, false, 291, 1, 1, 15, 0, 0, [])), (105, (.ireturn, 106, false, false, 0, 0, 0, 0, 0, 0, [])), (106, (.aload_n 0, 107, false, false, 0, 0, 0, 0, 0, 0, [])), (107, (.bipush 13, 109, false, false, 0, 0, 0, 0, 13, 0, [])), (109, (.iload_n 2, 110, false, false, 2, 0, 0, 0, 0, 0, [])), (110, (.invokevirtual 336, 113, false, false, 292, 2, 1, 15, 0, 0, [])), (113, (.ifCond .lt 7, 116, false, false, 120, 0, 0, 0, 0, 0, [])), (116, (.iconst 1, 117, false, false, 0, 0, 0, 0, 1, 0, [])), (117, (.goto 4, 120, false, false, 121, 0, 0, 0, 0, 0, [])), (120, (.iconst 0, 121, false, false, 0, 0, 0, 0, 0, 0, [])), (121, (.ireturn, 122, false, false, 0, 0, 0, 0, 0, 0, [])), (122, (.aload_n 0, 123, false, false, 0, 0, 0, 0, 0, 0, [])), (123, (.invokevirtual 339, 126, false, false, 252, 0, 1, 15, 0, 0, [])), (126, (.ireturn, 127, false, false, 0, 0, 0, 0, 0, 0, [])), (127, (.aload_n 0, 128, false, false, 0, 0, 0, 0, 0, 0, [])), (128, (.iload_n 1, 129, false, false, 1, 0, 0, 0, 0, 0, [])), (129, (.iconst 5, 130, false, false, 0, 0, 0, 0, 5, 0, [])), (130, (.isub, 131, false, false, 0, 0, 0, 0, 0, 0, [])), (131, (.invokevirtual 342, 134, false, false, 247, 1, 1, 15, 0, 0, [])), (134, (.ireturn, 135, false, false, 0, 0, 0, 0, 0, 0, []))]),
  (141, [(135, (.aload_n 0, 136, false, false, 0, 0, 0, 0, 0, 0, [])), (136, (.iconst 2, 137, false, false, 0, 0, 0, 0, 2, 0, [])), (137, (.putfield 3, 140, false, false, 15, 0, 0, 0, 0, 0, [])), (140, (.iconst 0, 141, false, false, 0, 0, 0, 0, 0, 0, [])), (141, (.ireturn, 142, false, false, 0, 0, 0, 0, 0, 0, []))])], 0, [])
set_option maxRecDepth 100000 in
theorem v_X12_may : VE MYT dflT E_X12_may := ⟨⟨⟨⟨⟨dX12_may_0, rfl⟩, rfl⟩, ⟨⟨dX12_may_1, rfl⟩, rfl⟩, ⟨⟨dX12_may_2, rfl⟩, Or.inl ⟨rfl, fX12_3⟩⟩, ⟨⟨dX12_may_5, rfl⟩, rfl⟩, ⟨⟨dX12_may_6, rfl⟩, rfl⟩, ⟨⟨dX12_may_7, rfl⟩, Or.inl ⟨rfl, _, my_29, sX12_71⟩⟩, ⟨⟨dX12_may_10, rfl⟩, rfl⟩, ⟨⟨dX12_may_11, rfl⟩, Or.inr ⟨by decide, ⟨_, my_30, sX12_75⟩, fun q => absurd q (by decide)⟩⟩, ⟨⟨dX12_may_14, rfl⟩, rfl⟩, ⟨⟨dX12_may_17, rfl⟩, rfl⟩, ⟨⟨dX12_may_18, rfl⟩, Or.inl ⟨rfl, rfl⟩⟩, ⟨⟨dX12_may_19, rfl⟩, rfl⟩, ⟨⟨_, dX12_may_20⟩, ⟨rfl, rfl, rfl, rfl, rfl, rfl, rfl, rfl, rfl, rfl, rfl, rfl, rfl, rfl, rfl, rfl, rfl, rfl, rfl, rfl, rfl, rfl, trivial⟩⟩, ⟨⟨dX12_may_76, rfl⟩, rfl⟩, ⟨⟨dX12_may_77, rfl⟩, rfl⟩, ⟨⟨dX12_may_79, rfl⟩, Or.inr ⟨by decide, ⟨_, my_291, sX12_333⟩, fun q => absurd q (by decide)⟩⟩, ⟨⟨dX12_may_82, rfl⟩, Or.inl ⟨rfl, rfl⟩⟩, ⟨⟨dX12_may_83, rfl⟩, rfl⟩, ⟨⟨dX12_may_84, rfl⟩, rfl⟩, ⟨⟨dX12_may_86, rfl⟩, rfl⟩, ⟨⟨dX12_may_87, rfl⟩, Or.inr ⟨by decide, ⟨_, my_292, sX12_336⟩, fun q => absurd q (by decide)⟩⟩, ⟨⟨dX12_may_90, rfl⟩, rfl⟩, ⟨⟨dX12_may_93, rfl⟩, rfl⟩, ⟨⟨dX12_may_94, rfl⟩, rfl⟩, trivial⟩,
  ⟨⟨⟨dX12_may_97, rfl⟩, rfl⟩, ⟨⟨dX12_may_98, rfl⟩, Or.inl ⟨rfl, rfl⟩⟩, ⟨⟨dX12_may_99, rfl⟩, rfl⟩, ⟨⟨dX12_may_100, rfl⟩, rfl⟩, ⟨⟨dX12_may_102, rfl⟩, Or.inr ⟨by decide, ⟨_, my_291, sX12_333⟩, fun q => absurd q (by decide)⟩⟩, ⟨⟨dX12_may_105, rfl⟩, Or.inl ⟨rfl, rfl⟩⟩, ⟨⟨dX12_may_106, rfl⟩, rfl⟩, ⟨⟨dX12_may_107, rfl⟩, rfl⟩, ⟨⟨dX12_may_109, rfl⟩, rfl⟩, ⟨⟨dX12_may_110, rfl⟩, Or.inr ⟨by decide, ⟨_, my_292, sX12_336⟩, fun q => absurd q (by decide)⟩⟩, ⟨⟨dX12_may_113, rfl⟩, rfl⟩, ⟨⟨dX12_may_116, rfl⟩, rfl⟩, ⟨⟨dX12_may_117, rfl⟩, rfl⟩, ⟨⟨dX12_may_120, rfl⟩, rfl⟩, ⟨⟨dX12_may_121, rfl⟩, Or.inl ⟨rfl, rfl⟩⟩, ⟨⟨dX12_may_122, rfl⟩, rfl⟩, ⟨⟨dX12_may_123, rfl⟩, Or.inr ⟨by decide, ⟨_, my_252, sX12_339⟩, fun q => absurd q (by decide)⟩⟩, ⟨⟨dX12_may_126, rfl⟩, Or.inl ⟨rfl, rfl⟩⟩, ⟨⟨dX12_may_127, rfl⟩, rfl⟩, ⟨⟨dX12_may_128, rfl⟩, rfl⟩, ⟨⟨dX12_may_129, rfl⟩, rfl⟩, ⟨⟨dX12_may_130, rfl⟩, trivial⟩, ⟨⟨dX12_may_131, rfl⟩, Or.inr ⟨by decide, ⟨_, my_247, sX12_342⟩, fun q => absurd q (by decide)⟩⟩, ⟨⟨dX12_may_134, rfl⟩, Or.inl ⟨rfl, rfl⟩⟩, trivial⟩,
  ⟨⟨⟨dX12_may_135, rfl⟩, rfl⟩, ⟨⟨dX12_may_136, rfl⟩, rfl⟩, ⟨⟨dX12_may_137, rfl⟩, Or.inl ⟨rfl, fX12_3⟩⟩, ⟨⟨dX12_may_140, rfl⟩, rfl⟩, ⟨⟨dX12_may_141, rfl⟩, Or.inl ⟨rfl, rfl⟩⟩, trivial⟩, trivial⟩, by decide, Or.inl ⟨rfl, by decide, rfl⟩⟩
set_option maxRecDepth 100000 in
theorem g_X12_may_0 (S : sT) (call : cT) (n : Nat) (a0 : Nat) (x1 : Int32) (x2 : Int32) (h : pH) : bd S call dflT E_X12_may (n + 1) 0 [some (.ref a0), some (.int x1), some (.int x2)] [] h = (pF h (.ref a0) 15 0 (.int 0) (fun h1 => cI (call 29 [.int x2] h1) (fun y3 h2 => rC h2 (.ref a0) 15 (cI (call 30 [.ref a0, .int y3, .int 1] h2) (fun y5 h4 => (if y5 = 0 then (if x1 = 0 then bd S call dflT E_X12_may n 76 [some (.ref a0), some (.int x1), some (.int x2)] [] h4 else (if x1 = 1 then bd S call dflT E_X12_may n 83 [some (.ref a0), some (.int x1), some (.int x2)] [] h4 else (if x1 = 2 then bd S call dflT E_X12_may n 99 [some (.ref a0), some (.int x1), some (.int x2)] [] h4 else (if x1 = 3 then bd S call dflT E_X12_may n 106 [some (.ref a0), some (.int x1), some (.int x2)] [] h4 else (if x1 = 4 then bd S call dflT E_X12_may n 122 [some (.ref a0), some (.int x1), some (.int x2)] [] h4 else (if x1 = 5 then bd S call dflT E_X12_may n 127 [some (.ref a0), some (.int x1), some (.int x2)] [] h4 else (if x1 = 6 then bd S call dflT E_X12_may n 127 [some (.ref a0), some (.int x1), some (.int x2)] [] h4 else (if x1 = 7 then bd S call dflT E_X12_may n 127 [some (.ref a0), some (.int x1), some (.int x2)] [] h4 else (if x1 = 8 then bd S call dflT E_X12_may n 127 [some (.ref a0), some (.int x1), some (.int x2)] [] h4 else (if x1 = 9 then bd S call dflT E_X12_may n 127 [some (.ref a0), some (.int x1), some (.int x2)] [] h4 else bd S call dflT E_X12_may n 135 [some (.ref a0), some (.int x1), some (.int x2)] [] h4)))))))))) else some (.inl (some (.int 0)), h4))))))) := rfl
set_option maxRecDepth 100000 in
theorem g_X12_may_76 (S : sT) (call : cT) (n : Nat) (a0 : Nat) (x1 : Int32) (x2 : Int32) (h : pH) : bd S call dflT E_X12_may (n + 1) 76 [some (.ref a0), some (.int x1), some (.int x2)] [] h = (rC h (.ref a0) 15 (cI (call 291 [.ref a0, .int 10] h) (fun y2 h1 => some (.inl (some (.int y2)), h1)))) := rfl
set_option maxRecDepth 100000 in
theorem g_X12_may_83 (S : sT) (call : cT) (n : Nat) (a0 : Nat) (x1 : Int32) (x2 : Int32) (h : pH) : bd S call dflT E_X12_may (n + 1) 83 [some (.ref a0), some (.int x1), some (.int x2)] [] h = (rC h (.ref a0) 15 (cI (call 292 [.ref a0, .int 11, .int x2] h) (fun y2 h1 => (if y2 < 0 then some (.inl (some (.int 0)), h1) else some (.inl (some (.int 1)), h1))))) := rfl
set_option maxRecDepth 100000 in
theorem g_X12_may_99 (S : sT) (call : cT) (n : Nat) (a0 : Nat) (x1 : Int32) (x2 : Int32) (h : pH) : bd S call dflT E_X12_may (n + 1) 99 [some (.ref a0), some (.int x1), some (.int x2)] [] h = (rC h (.ref a0) 15 (cI (call 291 [.ref a0, .int 12] h) (fun y2 h1 => some (.inl (some (.int y2)), h1)))) := rfl
set_option maxRecDepth 100000 in
theorem g_X12_may_106 (S : sT) (call : cT) (n : Nat) (a0 : Nat) (x1 : Int32) (x2 : Int32) (h : pH) : bd S call dflT E_X12_may (n + 1) 106 [some (.ref a0), some (.int x1), some (.int x2)] [] h = (rC h (.ref a0) 15 (cI (call 292 [.ref a0, .int 13, .int x2] h) (fun y2 h1 => (if y2 < 0 then some (.inl (some (.int 0)), h1) else some (.inl (some (.int 1)), h1))))) := rfl
set_option maxRecDepth 100000 in
theorem g_X12_may_122 (S : sT) (call : cT) (n : Nat) (a0 : Nat) (x1 : Int32) (x2 : Int32) (h : pH) : bd S call dflT E_X12_may (n + 1) 122 [some (.ref a0), some (.int x1), some (.int x2)] [] h = (rC h (.ref a0) 15 (cI (call 252 [.ref a0] h) (fun y2 h1 => some (.inl (some (.int y2)), h1)))) := rfl
set_option maxRecDepth 100000 in
theorem g_X12_may_127 (S : sT) (call : cT) (n : Nat) (a0 : Nat) (x1 : Int32) (x2 : Int32) (h : pH) : bd S call dflT E_X12_may (n + 1) 127 [some (.ref a0), some (.int x1), some (.int x2)] [] h = (rC h (.ref a0) 15 (cI (call 247 [.ref a0, .int (x1 - 5)] h) (fun y2 h1 => some (.inl (some (.int y2)), h1)))) := rfl
set_option maxRecDepth 100000 in
theorem g_X12_may_135 (S : sT) (call : cT) (n : Nat) (a0 : Nat) (x1 : Int32) (x2 : Int32) (h : pH) : bd S call dflT E_X12_may (n + 1) 135 [some (.ref a0), some (.int x1), some (.int x2)] [] h = (pF h (.ref a0) 15 0 (.int 2) (fun h1 => some (.inl (some (.int 0)), h1))) := rfl
theorem dX12_why_0 : decode cX12_why 0 = .ok (.aload_n 0, 1) := by decide +kernel
theorem dX12_why_1 : decode cX12_why 1 = .ok (.iconst 0, 1) := by decide +kernel
theorem dX12_why_2 : decode cX12_why 2 = .ok (.putfield 3, 3) := by decide +kernel
theorem dX12_why_5 : decode cX12_why 5 = .ok (.aload_n 0, 1) := by decide +kernel
theorem dX12_why_6 : decode cX12_why 6 = .ok (.iload_n 2, 1) := by decide +kernel
theorem dX12_why_7 : decode cX12_why 7 = .ok (.invokestatic 71, 3) := by decide +kernel
theorem dX12_why_10 : decode cX12_why 10 = .ok (.iconst 1, 1) := by decide +kernel
theorem dX12_why_11 : decode cX12_why 11 = .ok (.invokevirtual 75, 3) := by decide +kernel
theorem dX12_why_14 : decode cX12_why 14 = .ok (.ifCond .eq 5, 3) := by decide +kernel
theorem dX12_why_17 : decode cX12_why 17 = .ok (.iconst 0, 1) := by decide +kernel
theorem dX12_why_18 : decode cX12_why 18 = .ok (.ireturn, 1) := by decide +kernel
theorem dX12_why_19 : decode cX12_why 19 = .ok (.iload_n 1, 1) := by decide +kernel
theorem dX12_why_20 : decode cX12_why 20 = .ok (.tableswitch 76 0 4 #[36, 44, 52, 60, 68], 36) := by decide +kernel
theorem dX12_why_56 : decode cX12_why 56 = .ok (.aload_n 0, 1) := by decide +kernel
theorem dX12_why_57 : decode cX12_why 57 = .ok (.bipush 10, 2) := by decide +kernel
theorem dX12_why_59 : decode cX12_why 59 = .ok (.iconst 0, 1) := by decide +kernel
theorem dX12_why_60 : decode cX12_why 60 = .ok (.invokevirtual 311, 3) := by decide +kernel
theorem dX12_why_63 : decode cX12_why 63 = .ok (.ireturn, 1) := by decide +kernel
theorem dX12_why_64 : decode cX12_why 64 = .ok (.aload_n 0, 1) := by decide +kernel
theorem dX12_why_65 : decode cX12_why 65 = .ok (.bipush 11, 2) := by decide +kernel
theorem dX12_why_67 : decode cX12_why 67 = .ok (.iload_n 2, 1) := by decide +kernel
theorem dX12_why_68 : decode cX12_why 68 = .ok (.invokevirtual 336, 3) := by decide +kernel
theorem dX12_why_71 : decode cX12_why 71 = .ok (.ireturn, 1) := by decide +kernel
theorem dX12_why_72 : decode cX12_why 72 = .ok (.aload_n 0, 1) := by decide +kernel
theorem dX12_why_73 : decode cX12_why 73 = .ok (.bipush 12, 2) := by decide +kernel
theorem dX12_why_75 : decode cX12_why 75 = .ok (.iconst 0, 1) := by decide +kernel
theorem dX12_why_76 : decode cX12_why 76 = .ok (.invokevirtual 311, 3) := by decide +kernel
theorem dX12_why_79 : decode cX12_why 79 = .ok (.ireturn, 1) := by decide +kernel
theorem dX12_why_80 : decode cX12_why 80 = .ok (.aload_n 0, 1) := by decide +kernel
theorem dX12_why_81 : decode cX12_why 81 = .ok (.bipush 13, 2) := by decide +kernel
theorem dX12_why_83 : decode cX12_why 83 = .ok (.iload_n 2, 1) := by decide +kernel
theorem dX12_why_84 : decode cX12_why 84 = .ok (.invokevirtual 336, 3) := by decide +kernel
theorem dX12_why_87 : decode cX12_why 87 = .ok (.ireturn, 1) := by decide +kernel
theorem dX12_why_88 : decode cX12_why 88 = .ok (.aload_n 0, 1) := by decide +kernel
theorem dX12_why_89 : decode cX12_why 89 = .ok (.bipush 15, 2) := by decide +kernel
theorem dX12_why_91 : decode cX12_why 91 = .ok (.iconst (-1), 1) := by decide +kernel
theorem dX12_why_92 : decode cX12_why 92 = .ok (.invokevirtual 336, 3) := by decide +kernel
theorem dX12_why_95 : decode cX12_why 95 = .ok (.ireturn, 1) := by decide +kernel
theorem dX12_why_96 : decode cX12_why 96 = .ok (.aload_n 0, 1) := by decide +kernel
theorem dX12_why_97 : decode cX12_why 97 = .ok (.iconst 2, 1) := by decide +kernel
theorem dX12_why_98 : decode cX12_why 98 = .ok (.putfield 3, 3) := by decide +kernel
theorem dX12_why_101 : decode cX12_why 101 = .ok (.iconst 0, 1) := by decide +kernel
theorem dX12_why_102 : decode cX12_why 102 = .ok (.ireturn, 1) := by decide +kernel
noncomputable def E_X12_why : mE := (mX12_why, [(72, [(0, (.aload_n 0, 1, false, false, 0, 0, 0, 0, 0, 0, [])), (1, (.iconst 0, 2, false, false, 0, 0, 0, 0, 0, 0, [])), (2, (.putfield 3, 5, false, false, 15, 0, 0, 0, 0, 0, [])), (5, (.aload_n 0, 6, false, false, 0, 0, 0, 0, 0, 0, [])), (6, (.iload_n 2, 7, false, false, 2, 0, 0, 0, 0, 0, [])), (7, (.invokestatic 71, 10, false, false, 29, 1, 1, 0, 0, 0, [])), (10, (.iconst 1, 11, false, false, 0, 0, 0, 0, 1, 0, [])), (11, (.invokevirtual 75, 14, false, false, 30, 2, 1, 15, 0, 0, [])), (14, (.ifCond .eq 5, 17, false, false, 19, 0, 0, 0, 0, 0, [])), (17, (.iconst 0, 18, false, false, 0, 0, 0, 0, 0, 0, [])), (18, (.ireturn, 19, false, false, 0, 0, 0, 0, 0, 0, [])), (19, (.iload_n 1, 20, false, false, 1, 0, 0, 0, 0, 0, [])), (20, (.tableswitch 76 0 4 #[36, 44, 52, 60, 68], 0, false, false, 96, 0, 0, 0, 0, 0, [(0, 56), (1, 64), (2, 72), (3, 80), (4, 88)])), (56, (.aload_n 0, 57, false, false, 0, 0, 0, 0, 0, 0, [])), (57, (.bipush 10, 59, false, false, 0, 0, 0, 0, 10, 0, [])), (59, (.iconst 0, 60, false, false, 0, 0, 0, 0, 0, 0, [])), (60, (.invokevirtual 311, 63, false, false, 144, 2, 1, 15, 0, 0, [])), (63, (.ireturn, 64, false, false, 0, 0, 0, 0, 0, 0, [])), (64, (.aload_n 0, 65, false, false, 0, 0, 0, 0, 0, 0, [])), (65, (.bipush 11, 67, false, false, 0, 0, 0, 0, 11, 0, [])), (67, (.iload_n 2, 68, false, false, 2, 0, 0, 0, 0, 0, [])), (68, (.invokevirtual 336, 71, false, false, 292, 2, 1, 15, 0, 0, [])), (71, (.ireturn, 72, false, false, 0, 0, 0, 0, 0, 0, [])), (72, (.aload_n 0, 73, false, false, 0, 0, 0, 0, 0, 0, []))]),
  (102, [(73, (.bipush 12, 75, false, false, 0, 0, 0, 0, 12, 0, [])), (75, (.iconst 0, 76, false, false, 0, 0, 0, 0, 0, 0, [])), (76, (.invokevirtual 311, 79, false, false, 144, 2, 1, 15, 0, 0, [])), (79, (.ireturn, 80, false, false, 0, 0, 0, 0, 0, 0, [])), (80, (.aload_n 0, 81, false, false, 0, 0, 0, 0, 0, 0, [])), (81, (.bipush 13, 83, false, false, 0, 0, 0, 0, 13, 0, [])), (83, (.iload_n 2, 84, false, false, 2, 0, 0, 0, 0, 0, [])), (84, (.invokevirtual 336, 87, false, false, 292, 2, 1, 15, 0, 0, [])), (87, (.ireturn, 88, false, false, 0, 0, 0, 0, 0, 0, [])), (88, (.aload_n 0, 89, false, false, 0, 0, 0, 0, 0, 0, [])), (89, (.bipush 15, 91, false, false, 0, 0, 0, 0, 15, 0, [])), (91, (.iconst (-1), 92, false, false, 0, 0, 0, 0, -1, 0, [])), (92, (.invokevirtual 336, 95, false, false, 292, 2, 1, 15, 0, 0, [])), (95, (.ireturn, 96, false, false, 0, 0, 0, 0, 0, 0, [])), (96, (.aload_n 0, 97, false, false, 0, 0, 0, 0, 0, 0, [])), (97, (.iconst 2, 98, false, false, 0, 0, 0, 0, 2, 0, [])), (98, (.putfield 3, 101, false, false, 15, 0, 0, 0, 0, 0, [])), (101, (.iconst 0, 102, false, false, 0, 0, 0, 0, 0, 0, [])), (102, (.ireturn, 103, false, false, 0, 0, 0, 0, 0, 0, []))])], 0, [])
set_option maxRecDepth 100000 in
theorem v_X12_why : VE MYT dflT E_X12_why := ⟨⟨⟨⟨⟨dX12_why_0, rfl⟩, rfl⟩, ⟨⟨dX12_why_1, rfl⟩, rfl⟩, ⟨⟨dX12_why_2, rfl⟩, Or.inl ⟨rfl, fX12_3⟩⟩, ⟨⟨dX12_why_5, rfl⟩, rfl⟩, ⟨⟨dX12_why_6, rfl⟩, rfl⟩, ⟨⟨dX12_why_7, rfl⟩, Or.inl ⟨rfl, _, my_29, sX12_71⟩⟩, ⟨⟨dX12_why_10, rfl⟩, rfl⟩, ⟨⟨dX12_why_11, rfl⟩, Or.inr ⟨by decide, ⟨_, my_30, sX12_75⟩, fun q => absurd q (by decide)⟩⟩, ⟨⟨dX12_why_14, rfl⟩, rfl⟩, ⟨⟨dX12_why_17, rfl⟩, rfl⟩, ⟨⟨dX12_why_18, rfl⟩, Or.inl ⟨rfl, rfl⟩⟩, ⟨⟨dX12_why_19, rfl⟩, rfl⟩, ⟨⟨_, dX12_why_20⟩, ⟨rfl, rfl, rfl, rfl, rfl, rfl, rfl, rfl, rfl, rfl, rfl, rfl, trivial⟩⟩, ⟨⟨dX12_why_56, rfl⟩, rfl⟩, ⟨⟨dX12_why_57, rfl⟩, rfl⟩, ⟨⟨dX12_why_59, rfl⟩, rfl⟩, ⟨⟨dX12_why_60, rfl⟩, Or.inr ⟨by decide, ⟨_, my_144, sX12_311⟩, fun q => absurd q (by decide)⟩⟩, ⟨⟨dX12_why_63, rfl⟩, Or.inl ⟨rfl, rfl⟩⟩, ⟨⟨dX12_why_64, rfl⟩, rfl⟩, ⟨⟨dX12_why_65, rfl⟩, rfl⟩, ⟨⟨dX12_why_67, rfl⟩, rfl⟩, ⟨⟨dX12_why_68, rfl⟩, Or.inr ⟨by decide, ⟨_, my_292, sX12_336⟩, fun q => absurd q (by decide)⟩⟩, ⟨⟨dX12_why_71, rfl⟩, Or.inl ⟨rfl, rfl⟩⟩, ⟨⟨dX12_why_72, rfl⟩, rfl⟩, trivial⟩,
  ⟨⟨⟨dX12_why_73, rfl⟩, rfl⟩, ⟨⟨dX12_why_75, rfl⟩, rfl⟩, ⟨⟨dX12_why_76, rfl⟩, Or.inr ⟨by decide, ⟨_, my_144, sX12_311⟩, fun q => absurd q (by decide)⟩⟩, ⟨⟨dX12_why_79, rfl⟩, Or.inl ⟨rfl, rfl⟩⟩, ⟨⟨dX12_why_80, rfl⟩, rfl⟩, ⟨⟨dX12_why_81, rfl⟩, rfl⟩, ⟨⟨dX12_why_83, rfl⟩, rfl⟩, ⟨⟨dX12_why_84, rfl⟩, Or.inr ⟨by decide, ⟨_, my_292, sX12_336⟩, fun q => absurd q (by decide)⟩⟩, ⟨⟨dX12_why_87, rfl⟩, Or.inl ⟨rfl, rfl⟩⟩, ⟨⟨dX12_why_88, rfl⟩, rfl⟩, ⟨⟨dX12_why_89, rfl⟩, rfl⟩, ⟨⟨dX12_why_91, rfl⟩, rfl⟩, ⟨⟨dX12_why_92, rfl⟩, Or.inr ⟨by decide, ⟨_, my_292, sX12_336⟩, fun q => absurd q (by decide)⟩⟩, ⟨⟨dX12_why_95, rfl⟩, Or.inl ⟨rfl, rfl⟩⟩, ⟨⟨dX12_why_96, rfl⟩, rfl⟩, ⟨⟨dX12_why_97, rfl⟩, rfl⟩, ⟨⟨dX12_why_98, rfl⟩, Or.inl ⟨rfl, fX12_3⟩⟩, ⟨⟨dX12_why_101, rfl⟩, rfl⟩, ⟨⟨dX12_why_102, rfl⟩, Or.inl ⟨rfl, rfl⟩⟩, trivial⟩, trivial⟩, by decide, Or.inl ⟨rfl, by decide, rfl⟩⟩
set_option maxRecDepth 100000 in
theorem g_X12_why_0 (S : sT) (call : cT) (n : Nat) (a0 : Nat) (x1 : Int32) (x2 : Int32) (h : pH) : bd S call dflT E_X12_why (n + 1) 0 [some (.ref a0), some (.int x1), some (.int x2)] [] h = (pF h (.ref a0) 15 0 (.int 0) (fun h1 => cI (call 29 [.int x2] h1) (fun y3 h2 => rC h2 (.ref a0) 15 (cI (call 30 [.ref a0, .int y3, .int 1] h2) (fun y5 h4 => (if y5 = 0 then (if x1 = 0 then bd S call dflT E_X12_why n 56 [some (.ref a0), some (.int x1), some (.int x2)] [] h4 else (if x1 = 1 then bd S call dflT E_X12_why n 64 [some (.ref a0), some (.int x1), some (.int x2)] [] h4 else (if x1 = 2 then bd S call dflT E_X12_why n 72 [some (.ref a0), some (.int x1), some (.int x2)] [] h4 else (if x1 = 3 then bd S call dflT E_X12_why n 80 [some (.ref a0), some (.int x1), some (.int x2)] [] h4 else (if x1 = 4 then bd S call dflT E_X12_why n 88 [some (.ref a0), some (.int x1), some (.int x2)] [] h4 else bd S call dflT E_X12_why n 96 [some (.ref a0), some (.int x1), some (.int x2)] [] h4))))) else some (.inl (some (.int 0)), h4))))))) := rfl
set_option maxRecDepth 100000 in
theorem g_X12_why_56 (S : sT) (call : cT) (n : Nat) (a0 : Nat) (x1 : Int32) (x2 : Int32) (h : pH) : bd S call dflT E_X12_why (n + 1) 56 [some (.ref a0), some (.int x1), some (.int x2)] [] h = (rC h (.ref a0) 15 (cI (call 144 [.ref a0, .int 10, .int 0] h) (fun y2 h1 => some (.inl (some (.int y2)), h1)))) := rfl
set_option maxRecDepth 100000 in
theorem g_X12_why_64 (S : sT) (call : cT) (n : Nat) (a0 : Nat) (x1 : Int32) (x2 : Int32) (h : pH) : bd S call dflT E_X12_why (n + 1) 64 [some (.ref a0), some (.int x1), some (.int x2)] [] h = (rC h (.ref a0) 15 (cI (call 292 [.ref a0, .int 11, .int x2] h) (fun y2 h1 => some (.inl (some (.int y2)), h1)))) := rfl
set_option maxRecDepth 100000 in
theorem g_X12_why_72 (S : sT) (call : cT) (n : Nat) (a0 : Nat) (x1 : Int32) (x2 : Int32) (h : pH) : bd S call dflT E_X12_why (n + 1) 72 [some (.ref a0), some (.int x1), some (.int x2)] [] h = (rC h (.ref a0) 15 (cI (call 144 [.ref a0, .int 12, .int 0] h) (fun y2 h1 => some (.inl (some (.int y2)), h1)))) := rfl
set_option maxRecDepth 100000 in
theorem g_X12_why_80 (S : sT) (call : cT) (n : Nat) (a0 : Nat) (x1 : Int32) (x2 : Int32) (h : pH) : bd S call dflT E_X12_why (n + 1) 80 [some (.ref a0), some (.int x1), some (.int x2)] [] h = (rC h (.ref a0) 15 (cI (call 292 [.ref a0, .int 13, .int x2] h) (fun y2 h1 => some (.inl (some (.int y2)), h1)))) := rfl
set_option maxRecDepth 100000 in
theorem g_X12_why_88 (S : sT) (call : cT) (n : Nat) (a0 : Nat) (x1 : Int32) (x2 : Int32) (h : pH) : bd S call dflT E_X12_why (n + 1) 88 [some (.ref a0), some (.int x1), some (.int x2)] [] h = (rC h (.ref a0) 15 (cI (call 292 [.ref a0, .int 15, .int (-1)] h) (fun y2 h1 => some (.inl (some (.int y2)), h1)))) := rfl
set_option maxRecDepth 100000 in
theorem g_X12_why_96 (S : sT) (call : cT) (n : Nat) (a0 : Nat) (x1 : Int32) (x2 : Int32) (h : pH) : bd S call dflT E_X12_why (n + 1) 96 [some (.ref a0), some (.int x1), some (.int x2)] [] h = (pF h (.ref a0) 15 0 (.int 2) (fun h1 => some (.inl (some (.int 0)), h1))) := rfl
theorem dX12_cut_0 : decode cX12_cut 0 = .ok (.aload_n 0, 1) := by decide +kernel
theorem dX12_cut_1 : decode cX12_cut 1 = .ok (.iconst 0, 1) := by decide +kernel
theorem dX12_cut_2 : decode cX12_cut 2 = .ok (.putfield 3, 3) := by decide +kernel
theorem dX12_cut_5 : decode cX12_cut 5 = .ok (.aload_n 0, 1) := by decide +kernel
theorem dX12_cut_6 : decode cX12_cut 6 = .ok (.iload_n 1, 1) := by decide +kernel
theorem dX12_cut_7 : decode cX12_cut 7 = .ok (.invokestatic 71, 3) := by decide +kernel
theorem dX12_cut_10 : decode cX12_cut 10 = .ok (.iconst 1, 1) := by decide +kernel
theorem dX12_cut_11 : decode cX12_cut 11 = .ok (.invokevirtual 75, 3) := by decide +kernel
theorem dX12_cut_14 : decode cX12_cut 14 = .ok (.ifCond .ne 25, 3) := by decide +kernel
theorem dX12_cut_17 : decode cX12_cut 17 = .ok (.aload_n 0, 1) := by decide +kernel
theorem dX12_cut_18 : decode cX12_cut 18 = .ok (.aload_n 0, 1) := by decide +kernel
theorem dX12_cut_19 : decode cX12_cut 19 = .ok (.iload_n 1, 1) := by decide +kernel
theorem dX12_cut_20 : decode cX12_cut 20 = .ok (.invokevirtual 380, 3) := by decide +kernel
theorem dX12_cut_23 : decode cX12_cut 23 = .ok (.iconst 3, 1) := by decide +kernel
theorem dX12_cut_24 : decode cX12_cut 24 = .ok (.if_icmp .eq 7, 3) := by decide +kernel
theorem dX12_cut_27 : decode cX12_cut 27 = .ok (.iconst 1, 1) := by decide +kernel
theorem dX12_cut_28 : decode cX12_cut 28 = .ok (.goto 4, 3) := by decide +kernel
theorem dX12_cut_31 : decode cX12_cut 31 = .ok (.iconst 0, 1) := by decide +kernel
theorem dX12_cut_32 : decode cX12_cut 32 = .ok (.iconst 2, 1) := by decide +kernel
theorem dX12_cut_33 : decode cX12_cut 33 = .ok (.invokevirtual 75, 3) := by decide +kernel
theorem dX12_cut_36 : decode cX12_cut 36 = .ok (.ifCond .eq 5, 3) := by decide +kernel
theorem dX12_cut_39 : decode cX12_cut 39 = .ok (.iconst 0, 1) := by decide +kernel
theorem dX12_cut_40 : decode cX12_cut 40 = .ok (.ireturn, 1) := by decide +kernel
theorem dX12_cut_41 : decode cX12_cut 41 = .ok (.aload_n 0, 1) := by decide +kernel
theorem dX12_cut_42 : decode cX12_cut 42 = .ok (.bipush 11, 2) := by decide +kernel
theorem dX12_cut_44 : decode cX12_cut 44 = .ok (.iload_n 1, 1) := by decide +kernel
theorem dX12_cut_45 : decode cX12_cut 45 = .ok (.invokevirtual 336, 3) := by decide +kernel
theorem dX12_cut_48 : decode cX12_cut 48 = .ok (.ifCond .lt 7, 3) := by decide +kernel
theorem dX12_cut_51 : decode cX12_cut 51 = .ok (.iconst 1, 1) := by decide +kernel
theorem dX12_cut_52 : decode cX12_cut 52 = .ok (.goto 4, 3) := by decide +kernel
theorem dX12_cut_55 : decode cX12_cut 55 = .ok (.iconst 0, 1) := by decide +kernel
theorem dX12_cut_56 : decode cX12_cut 56 = .ok (.istore_n 3, 1) := by decide +kernel
theorem dX12_cut_57 : decode cX12_cut 57 = .ok (.iload_n 3, 1) := by decide +kernel
theorem dX12_cut_58 : decode cX12_cut 58 = .ok (.ifCond .ne 9, 3) := by decide +kernel
theorem dX12_cut_61 : decode cX12_cut 61 = .ok (.iload_n 2, 1) := by decide +kernel
theorem dX12_cut_62 : decode cX12_cut 62 = .ok (.ifCond .ne 5, 3) := by decide +kernel
theorem dX12_cut_65 : decode cX12_cut 65 = .ok (.iconst (-1), 1) := by decide +kernel
theorem dX12_cut_66 : decode cX12_cut 66 = .ok (.ireturn, 1) := by decide +kernel
theorem dX12_cut_67 : decode cX12_cut 67 = .ok (.aload_n 0, 1) := by decide +kernel
theorem dX12_cut_68 : decode cX12_cut 68 = .ok (.iload_n 1, 1) := by decide +kernel
theorem dX12_cut_69 : decode cX12_cut 69 = .ok (.bipush 7, 2) := by decide +kernel
theorem dX12_cut_71 : decode cX12_cut 71 = .ok (.invokevirtual 79, 3) := by decide +kernel
theorem dX12_cut_74 : decode cX12_cut 74 = .ok (.aload_n 0, 1) := by decide +kernel
theorem dX12_cut_75 : decode cX12_cut 75 = .ok (.iload_n 1, 1) := by decide +kernel
theorem dX12_cut_76 : decode cX12_cut 76 = .ok (.bipush 7, 2) := by decide +kernel
theorem dX12_cut_78 : decode cX12_cut 78 = .ok (.invokevirtual 79, 3) := by decide +kernel
theorem dX12_cut_81 : decode cX12_cut 81 = .ok (.imul, 1) := by decide +kernel
theorem dX12_cut_82 : decode cX12_cut 82 = .ok (.istore 4, 2) := by decide +kernel
theorem dX12_cut_84 : decode cX12_cut 84 = .ok (.aload_n 0, 1) := by decide +kernel
theorem dX12_cut_85 : decode cX12_cut 85 = .ok (.getfield 27, 3) := by decide +kernel
theorem dX12_cut_88 : decode cX12_cut 88 = .ok (.iload_n 1, 1) := by decide +kernel
theorem dX12_cut_89 : decode cX12_cut 89 = .ok (.bipush 7, 2) := by decide +kernel
theorem dX12_cut_91 : decode cX12_cut 91 = .ok (.invokestatic 59, 3) := by decide +kernel
theorem dX12_cut_94 : decode cX12_cut 94 = .ok (.iconst 0, 1) := by decide +kernel
theorem dX12_cut_95 : decode cX12_cut 95 = .ok (.iastore, 1) := by decide +kernel
theorem dX12_cut_96 : decode cX12_cut 96 = .ok (.aload_n 0, 1) := by decide +kernel
theorem dX12_cut_97 : decode cX12_cut 97 = .ok (.iconst 2, 1) := by decide +kernel
theorem dX12_cut_98 : decode cX12_cut 98 = .ok (.iload 4, 2) := by decide +kernel
theorem dX12_cut_100 : decode cX12_cut 100 = .ok (.invokevirtual 422, 3) := by decide +kernel
theorem dX12_cut_103 : decode cX12_cut 103 = .ok (.iload_n 3, 1) := by decide +kernel
theorem dX12_cut_104 : decode cX12_cut 104 = .ok (.ifCond .ne 10, 3) := by decide +kernel
theorem dX12_cut_107 : decode cX12_cut 107 = .ok (.aload_n 0, 1) := by decide +kernel
theorem dX12_cut_108 : decode cX12_cut 108 = .ok (.iconst 1, 1) := by decide +kernel
theorem dX12_cut_109 : decode cX12_cut 109 = .ok (.iload 4, 2) := by decide +kernel
theorem dX12_cut_111 : decode cX12_cut 111 = .ok (.invokevirtual 377, 3) := by decide +kernel
theorem dX12_cut_114 : decode cX12_cut 114 = .ok (.iload 4, 2) := by decide +kernel
theorem dX12_cut_116 : decode cX12_cut 116 = .ok (.ireturn, 1) := by decide +kernel
noncomputable def E_X12_cut : mE := (mX12_cut, [(41, [(0, (.aload_n 0, 1, false, false, 0, 0, 0, 0, 0, 0, [])), (1, (.iconst 0, 2, false, false, 0, 0, 0, 0, 0, 0, [])), (2, (.putfield 3, 5, false, false, 15, 0, 0, 0, 0, 0, [])), (5, (.aload_n 0, 6, false, false, 0, 0, 0, 0, 0, 0, [])), (6, (.iload_n 1, 7, false, false, 1, 0, 0, 0, 0, 0, [])), (7, (.invokestatic 71, 10, false, false, 29, 1, 1, 0, 0, 0, [])), (10, (.iconst 1, 11, false, false, 0, 0, 0, 0, 1, 0, [])), (11, (.invokevirtual 75, 14, false, false, 30, 2, 1, 15, 0, 0, [])), (14, (.ifCond .ne 25, 17, false, false, 39, 0, 0, 0, 0, 0, [])), (17, (.aload_n 0, 18, false, false, 0, 0, 0, 0, 0, 0, [])), (18, (.aload_n 0, 19, false, false, 0, 0, 0, 0, 0, 0, [])), (19, (.iload_n 1, 20, false, false, 1, 0, 0, 0, 0, 0, [])), (20, (.invokevirtual 380, 23, false, false, 166, 1, 1, 15, 0, 0, [])), (23, (.iconst 3, 24, false, false, 0, 0, 0, 0, 3, 0, [])), (24, (.if_icmp .eq 7, 27, false, false, 31, 0, 0, 0, 0, 0, [])), (27, (.iconst 1, 28, false, false, 0, 0, 0, 0, 1, 0, [])), (28, (.goto 4, 31, false, true, 32, 0, 0, 0, 0, 0, [])), (31, (.iconst 0, 32, true, false, 0, 0, 0, 0, 0, 0, [])), (32, (.iconst 2, 33, false, false, 0, 0, 0, 0, 2, 0, [])), (33, (.invokevirtual 75, 36, false, false, 30, 2, 1, 15, 0, 0, [])), (36, (.ifCond .eq 5, 39, false, false, 41, 0, 0, 0, 0, 0, [])), (39, (.iconst 0, 40, false, false, 0, 0, 0, 0, 0, 0, [])), (40, (.ireturn, 41, false, false, 0, 0, 0, 0, 0, 0, [])), (41, (.aload_n 0, 42, false, false, 0, 0, 0, 0, 0, 0, []))]),
  (82, [(42, (.bipush 11, 44, false, false, 0, 0, 0, 0, 11, 0, [])), (44, (.iload_n 1, 45, false, false, 1, 0, 0, 0, 0, 0, [])), (45, (.invokevirtual 336, 48, false, false, 292, 2, 1, 15, 0, 0, [])), (48, (.ifCond .lt 7, 51, false, false, 55, 0, 0, 0, 0, 0, [])), (51, (.iconst 1, 52, false, false, 0, 0, 0, 0, 1, 0, [])), (52, (.goto 4, 55, false, false, 56, 0, 0, 0, 0, 0, [])), (55, (.iconst 0, 56, false, false, 0, 0, 0, 0, 0, 0, [])), (56, (.istore_n 3, 57, false, false, 3, 0, 0, 0, 0, 0, [])), (57, (.iload_n 3, 58, false, false, 3, 0, 0, 0, 0, 0, [])), (58, (.ifCond .ne 9, 61, false, true, 67, 0, 0, 0, 0, 0, [])), (61, (.iload_n 2, 62, false, false, 2, 0, 0, 0, 0, 0, [])), (62, (.ifCond .ne 5, 65, false, true, 67, 0, 0, 0, 0, 0, [])), (65, (.iconst (-1), 66, false, false, 0, 0, 0, 0, -1, 0, [])), (66, (.ireturn, 67, false, false, 0, 0, 0, 0, 0, 0, [])), (67, (.aload_n 0, 68, false, false, 0, 0, 0, 0, 0, 0, [])), (68, (.iload_n 1, 69, false, false, 1, 0, 0, 0, 0, 0, [])), (69, (.bipush 7, 71, false, false, 0, 0, 0, 0, 7, 0, [])), (71, (.invokevirtual 79, 74, false, false, 31, 2, 1, 15, 0, 0, [])), (74, (.aload_n 0, 75, false, false, 0, 0, 0, 0, 0, 0, [])), (75, (.iload_n 1, 76, false, false, 1, 0, 0, 0, 0, 0, [])), (76, (.bipush 7, 78, false, false, 0, 0, 0, 0, 7, 0, [])), (78, (.invokevirtual 79, 81, false, false, 31, 2, 1, 15, 0, 0, [])), (81, (.imul, 82, false, false, 0, 0, 0, 0, 0, 0, [])), (82, (.istore 4, 84, false, false, 4, 0, 0, 0, 0, 0, []))]),
  (116, [(84, (.aload_n 0, 85, false, false, 0, 0, 0, 0, 0, 0, [])), (85, (.getfield 27, 88, false, false, 15, 1, 1, 0, 0, 0, [])), (88, (.iload_n 1, 89, false, false, 1, 0, 0, 0, 0, 0, [])), (89, (.bipush 7, 91, false, false, 0, 0, 0, 0, 7, 0, [])), (91, (.invokestatic 59, 94, false, false, 12, 2, 1, 0, 0, 0, [])), (94, (.iconst 0, 95, false, false, 0, 0, 0, 0, 0, 0, [])), (95, (.iastore, 96, false, false, 0, 0, 0, 0, 0, 0, [])), (96, (.aload_n 0, 97, false, false, 0, 0, 0, 0, 0, 0, [])), (97, (.iconst 2, 98, false, false, 0, 0, 0, 0, 2, 0, [])), (98, (.iload 4, 100, false, false, 4, 0, 0, 0, 0, 0, [])), (100, (.invokevirtual 422, 103, false, false, 249, 2, 0, 15, 0, 0, [])), (103, (.iload_n 3, 104, false, false, 3, 0, 0, 0, 0, 0, [])), (104, (.ifCond .ne 10, 107, false, false, 114, 0, 0, 0, 0, 0, [])), (107, (.aload_n 0, 108, false, false, 0, 0, 0, 0, 0, 0, [])), (108, (.iconst 1, 109, false, false, 0, 0, 0, 0, 1, 0, [])), (109, (.iload 4, 111, false, false, 4, 0, 0, 0, 0, 0, [])), (111, (.invokevirtual 377, 114, false, false, 154, 2, 0, 15, 0, 0, [])), (114, (.iload 4, 116, false, false, 4, 0, 0, 0, 0, 0, [])), (116, (.ireturn, 117, false, false, 0, 0, 0, 0, 0, 0, []))])], 0, [])
set_option maxRecDepth 100000 in
theorem v_X12_cut : VE MYT dflT E_X12_cut := ⟨⟨⟨⟨⟨dX12_cut_0, rfl⟩, rfl⟩, ⟨⟨dX12_cut_1, rfl⟩, rfl⟩, ⟨⟨dX12_cut_2, rfl⟩, Or.inl ⟨rfl, fX12_3⟩⟩, ⟨⟨dX12_cut_5, rfl⟩, rfl⟩, ⟨⟨dX12_cut_6, rfl⟩, rfl⟩, ⟨⟨dX12_cut_7, rfl⟩, Or.inl ⟨rfl, _, my_29, sX12_71⟩⟩, ⟨⟨dX12_cut_10, rfl⟩, rfl⟩, ⟨⟨dX12_cut_11, rfl⟩, Or.inr ⟨by decide, ⟨_, my_30, sX12_75⟩, fun q => absurd q (by decide)⟩⟩, ⟨⟨dX12_cut_14, rfl⟩, rfl⟩, ⟨⟨dX12_cut_17, rfl⟩, rfl⟩, ⟨⟨dX12_cut_18, rfl⟩, rfl⟩, ⟨⟨dX12_cut_19, rfl⟩, rfl⟩, ⟨⟨dX12_cut_20, rfl⟩, Or.inr ⟨by decide, ⟨_, my_166, sX12_380⟩, fun q => absurd q (by decide)⟩⟩, ⟨⟨dX12_cut_23, rfl⟩, rfl⟩, ⟨⟨dX12_cut_24, rfl⟩, rfl⟩, ⟨⟨dX12_cut_27, rfl⟩, rfl⟩, ⟨⟨dX12_cut_28, rfl⟩, rfl⟩, ⟨⟨dX12_cut_31, rfl⟩, rfl⟩, ⟨⟨dX12_cut_32, rfl⟩, rfl⟩, ⟨⟨dX12_cut_33, rfl⟩, Or.inr ⟨by decide, ⟨_, my_30, sX12_75⟩, fun q => absurd q (by decide)⟩⟩, ⟨⟨dX12_cut_36, rfl⟩, rfl⟩, ⟨⟨dX12_cut_39, rfl⟩, rfl⟩, ⟨⟨dX12_cut_40, rfl⟩, Or.inl ⟨rfl, rfl⟩⟩, ⟨⟨dX12_cut_41, rfl⟩, rfl⟩, trivial⟩,
  ⟨⟨⟨dX12_cut_42, rfl⟩, rfl⟩, ⟨⟨dX12_cut_44, rfl⟩, rfl⟩, ⟨⟨dX12_cut_45, rfl⟩, Or.inr ⟨by decide, ⟨_, my_292, sX12_336⟩, fun q => absurd q (by decide)⟩⟩, ⟨⟨dX12_cut_48, rfl⟩, rfl⟩, ⟨⟨dX12_cut_51, rfl⟩, rfl⟩, ⟨⟨dX12_cut_52, rfl⟩, rfl⟩, ⟨⟨dX12_cut_55, rfl⟩, rfl⟩, ⟨⟨dX12_cut_56, rfl⟩, rfl⟩, ⟨⟨dX12_cut_57, rfl⟩, rfl⟩, ⟨⟨dX12_cut_58, rfl⟩, rfl⟩, ⟨⟨dX12_cut_61, rfl⟩, rfl⟩, ⟨⟨dX12_cut_62, rfl⟩, rfl⟩, ⟨⟨dX12_cut_65, rfl⟩, rfl⟩, ⟨⟨dX12_cut_66, rfl⟩, Or.inl ⟨rfl, rfl⟩⟩, ⟨⟨dX12_cut_67, rfl⟩, rfl⟩, ⟨⟨dX12_cut_68, rfl⟩, rfl⟩, ⟨⟨dX12_cut_69, rfl⟩, rfl⟩, ⟨⟨dX12_cut_71, rfl⟩, Or.inr ⟨by decide, ⟨_, my_31, sX12_79⟩, fun q => absurd q (by decide)⟩⟩, ⟨⟨dX12_cut_74, rfl⟩, rfl⟩, ⟨⟨dX12_cut_75, rfl⟩, rfl⟩, ⟨⟨dX12_cut_76, rfl⟩, rfl⟩, ⟨⟨dX12_cut_78, rfl⟩, Or.inr ⟨by decide, ⟨_, my_31, sX12_79⟩, fun q => absurd q (by decide)⟩⟩, ⟨⟨dX12_cut_81, rfl⟩, trivial⟩, ⟨⟨dX12_cut_82, rfl⟩, rfl⟩, trivial⟩,
  ⟨⟨⟨dX12_cut_84, rfl⟩, rfl⟩, ⟨⟨dX12_cut_85, rfl⟩, Or.inl ⟨by decide, _, _, fX12_27⟩⟩, ⟨⟨dX12_cut_88, rfl⟩, rfl⟩, ⟨⟨dX12_cut_89, rfl⟩, rfl⟩, ⟨⟨dX12_cut_91, rfl⟩, Or.inl ⟨rfl, _, my_12, sX12_59⟩⟩, ⟨⟨dX12_cut_94, rfl⟩, rfl⟩, ⟨⟨dX12_cut_95, rfl⟩, trivial⟩, ⟨⟨dX12_cut_96, rfl⟩, rfl⟩, ⟨⟨dX12_cut_97, rfl⟩, rfl⟩, ⟨⟨dX12_cut_98, rfl⟩, rfl⟩, ⟨⟨dX12_cut_100, rfl⟩, Or.inr ⟨by decide, ⟨_, my_249, sX12_422⟩, fun q => absurd q (by decide)⟩⟩, ⟨⟨dX12_cut_103, rfl⟩, rfl⟩, ⟨⟨dX12_cut_104, rfl⟩, rfl⟩, ⟨⟨dX12_cut_107, rfl⟩, rfl⟩, ⟨⟨dX12_cut_108, rfl⟩, rfl⟩, ⟨⟨dX12_cut_109, rfl⟩, rfl⟩, ⟨⟨dX12_cut_111, rfl⟩, Or.inr ⟨by decide, ⟨_, my_154, sX12_377⟩, fun q => absurd q (by decide)⟩⟩, ⟨⟨dX12_cut_114, rfl⟩, rfl⟩, ⟨⟨dX12_cut_116, rfl⟩, Or.inl ⟨rfl, rfl⟩⟩, trivial⟩, trivial⟩, by decide, Or.inl ⟨rfl, by decide, rfl⟩⟩
set_option maxRecDepth 100000 in
theorem g_X12_cut_0 (S : sT) (call : cT) (n : Nat) (a0 : Nat) (x1 : Int32) (x2 : Int32) (h : pH) : bd S call dflT E_X12_cut (n + 1) 0 [some (.ref a0), some (.int x1), some (.int x2), none, none] [] h = (pF h (.ref a0) 15 0 (.int 0) (fun h1 => cI (call 29 [.int x1] h1) (fun y3 h2 => rC h2 (.ref a0) 15 (cI (call 30 [.ref a0, .int y3, .int 1] h2) (fun y5 h4 => (if y5 = 0 then rC h4 (.ref a0) 15 (cI (call 166 [.ref a0, .int x1] h4) (fun y7 h6 => (if y7 = 3 then bd S call dflT E_X12_cut n 32 [some (.ref a0), some (.int x1), some (.int x2), none, none] [.int 0, .ref a0] h6 else bd S call dflT E_X12_cut n 32 [some (.ref a0), some (.int x1), some (.int x2), none, none] [.int 1, .ref a0] h6))) else some (.inl (some (.int 0)), h4))))))) := rfl
set_option maxRecDepth 100000 in
theorem g_X12_cut_32 (S : sT) (call : cT) (n : Nat) (a0 : Nat) (x1 : Int32) (x2 : Int32) (o3 : Option Value) (o4 : Option Value) (u0 : Value) (y1 : Int32) (h : pH) : bd S call dflT E_X12_cut (n + 1) 32 [some (.ref a0), some (.int x1), some (.int x2), o3, o4] [.int y1, u0] h = (rC h u0 15 (cI (call 30 [u0, .int y1, .int 2] h) (fun y2 h1 => (if y2 = 0 then rC h1 (.ref a0) 15 (cI (call 292 [.ref a0, .int 11, .int x1] h1) (fun y4 h3 => (if y4 < 0 then (if (0 : Int32) = 0 then (if x2 = 0 then some (.inl (some (.int (-1))), h3) else bd S call dflT E_X12_cut n 67 [some (.ref a0), some (.int x1), some (.int x2), some (.int 0), o4] [] h3) else bd S call dflT E_X12_cut n 67 [some (.ref a0), some (.int x1), some (.int x2), some (.int 0), o4] [] h3) else (if (1 : Int32) = 0 then (if x2 = 0 then some (.inl (some (.int (-1))), h3) else bd S call dflT E_X12_cut n 67 [some (.ref a0), some (.int x1), some (.int x2), some (.int 1), o4] [] h3) else bd S call dflT E_X12_cut n 67 [some (.ref a0), some (.int x1), some (.int x2), some (.int 1), o4] [] h3)))) else some (.inl (some (.int 0)), h1))))) := rfl
set_option maxRecDepth 100000 in
theorem g_X12_cut_67 (S : sT) (call : cT) (n : Nat) (a0 : Nat) (x1 : Int32) (x2 : Int32) (x3 : Int32) (o4 : Option Value) (h : pH) : bd S call dflT E_X12_cut (n + 1) 67 [some (.ref a0), some (.int x1), some (.int x2), some (.int x3), o4] [] h = (rC h (.ref a0) 15 (cI (call 31 [.ref a0, .int x1, .int 7] h) (fun y2 h1 => rC h1 (.ref a0) 15 (cI (call 31 [.ref a0, .int x1, .int 7] h1) (fun y4 h3 => gV h3 (.ref a0) 15 1 (fun w5 => cI (call 12 [.int x1, .int 7] h3) (fun y7 h6 => sI h6 w5 0 y7 0 (fun h8 => rC h8 (.ref a0) 15 (cU (call 249 [.ref a0, .int 2, .int (y2 * y4)] h8) (fun h9 => (if x3 = 0 then rC h9 (.ref a0) 15 (cU (call 154 [.ref a0, .int 1, .int (y2 * y4)] h9) (fun h10 => some (.inl (some (.int (y2 * y4))), h10))) else some (.inl (some (.int (y2 * y4))), h9)))))))))))) := rfl
theorem dX12_owedOnLoans_0 : decode cX12_owedOnLoans 0 = .ok (.lconst 0, 1) := by decide +kernel
theorem dX12_owedOnLoans_1 : decode cX12_owedOnLoans 1 = .ok (.lstore_n 1, 1) := by decide +kernel
theorem dX12_owedOnLoans_2 : decode cX12_owedOnLoans 2 = .ok (.iconst 0, 1) := by decide +kernel
theorem dX12_owedOnLoans_3 : decode cX12_owedOnLoans 3 = .ok (.istore_n 3, 1) := by decide +kernel
theorem dX12_owedOnLoans_4 : decode cX12_owedOnLoans 4 = .ok (.iload_n 3, 1) := by decide +kernel
theorem dX12_owedOnLoans_5 : decode cX12_owedOnLoans 5 = .ok (.aload_n 0, 1) := by decide +kernel
theorem dX12_owedOnLoans_6 : decode cX12_owedOnLoans 6 = .ok (.getfield 27, 3) := by decide +kernel
theorem dX12_owedOnLoans_9 : decode cX12_owedOnLoans 9 = .ok (.sipush 1948, 3) := by decide +kernel
theorem dX12_owedOnLoans_12 : decode cX12_owedOnLoans 12 = .ok (.iaload, 1) := by decide +kernel
theorem dX12_owedOnLoans_13 : decode cX12_owedOnLoans 13 = .ok (.if_icmp .ge 25, 3) := by decide +kernel
theorem dX12_owedOnLoans_16 : decode cX12_owedOnLoans 16 = .ok (.lload_n 1, 1) := by decide +kernel
theorem dX12_owedOnLoans_17 : decode cX12_owedOnLoans 17 = .ok (.aload_n 0, 1) := by decide +kernel
theorem dX12_owedOnLoans_18 : decode cX12_owedOnLoans 18 = .ok (.getfield 27, 3) := by decide +kernel
theorem dX12_owedOnLoans_21 : decode cX12_owedOnLoans 21 = .ok (.sipush 1949, 3) := by decide +kernel
theorem dX12_owedOnLoans_24 : decode cX12_owedOnLoans 24 = .ok (.iconst 4, 1) := by decide +kernel
theorem dX12_owedOnLoans_25 : decode cX12_owedOnLoans 25 = .ok (.iload_n 3, 1) := by decide +kernel
theorem dX12_owedOnLoans_26 : decode cX12_owedOnLoans 26 = .ok (.imul, 1) := by decide +kernel
theorem dX12_owedOnLoans_27 : decode cX12_owedOnLoans 27 = .ok (.iadd, 1) := by decide +kernel
theorem dX12_owedOnLoans_28 : decode cX12_owedOnLoans 28 = .ok (.iaload, 1) := by decide +kernel
theorem dX12_owedOnLoans_29 : decode cX12_owedOnLoans 29 = .ok (.i2l, 1) := by decide +kernel
theorem dX12_owedOnLoans_30 : decode cX12_owedOnLoans 30 = .ok (.ladd, 1) := by decide +kernel
theorem dX12_owedOnLoans_31 : decode cX12_owedOnLoans 31 = .ok (.lstore_n 1, 1) := by decide +kernel
theorem dX12_owedOnLoans_32 : decode cX12_owedOnLoans 32 = .ok (.iinc 3 1, 3) := by decide +kernel
theorem dX12_owedOnLoans_35 : decode cX12_owedOnLoans 35 = .ok (.goto (-31), 3) := by decide +kernel
theorem dX12_owedOnLoans_38 : decode cX12_owedOnLoans 38 = .ok (.lload_n 1, 1) := by decide +kernel
theorem dX12_owedOnLoans_39 : decode cX12_owedOnLoans 39 = .ok (.invokestatic 345, 3) := by decide +kernel
theorem dX12_owedOnLoans_42 : decode cX12_owedOnLoans 42 = .ok (.ireturn, 1) := by decide +kernel
noncomputable def E_X12_owedOnLoans : mE := (mX12_owedOnLoans, [(35, [(0, (.lconst 0, 1, false, false, 0, 0, 0, 0, 0, 0, [])), (1, (.lstore_n 1, 2, false, false, 1, 2, 0, 0, 0, 0, [])), (2, (.iconst 0, 3, false, false, 0, 0, 0, 0, 0, 0, [])), (3, (.istore_n 3, 4, true, false, 3, 0, 0, 0, 0, 0, [])), (4, (.iload_n 3, 5, false, false, 3, 0, 0, 0, 0, 0, [])), (5, (.aload_n 0, 6, false, false, 0, 0, 0, 0, 0, 0, [])), (6, (.getfield 27, 9, false, false, 15, 1, 1, 0, 0, 0, [])), (9, (.sipush 1948, 12, false, false, 0, 0, 0, 0, 1948, 0, [])), (12, (.iaload, 13, false, false, 0, 0, 0, 0, 0, 0, [])), (13, (.if_icmp .ge 25, 16, false, false, 38, 0, 0, 0, 0, 0, [])), (16, (.lload_n 1, 17, false, false, 1, 0, 0, 0, 0, 0, [])), (17, (.aload_n 0, 18, false, false, 0, 0, 0, 0, 0, 0, [])), (18, (.getfield 27, 21, false, false, 15, 1, 1, 0, 0, 0, [])), (21, (.sipush 1949, 24, false, false, 0, 0, 0, 0, 1949, 0, [])), (24, (.iconst 4, 25, false, false, 0, 0, 0, 0, 4, 0, [])), (25, (.iload_n 3, 26, false, false, 3, 0, 0, 0, 0, 0, [])), (26, (.imul, 27, false, false, 0, 0, 0, 0, 0, 0, [])), (27, (.iadd, 28, false, false, 0, 0, 0, 0, 0, 0, [])), (28, (.iaload, 29, false, false, 0, 0, 0, 0, 0, 0, [])), (29, (.i2l, 30, false, false, 0, 0, 0, 0, 0, 0, [])), (30, (.ladd, 31, false, false, 0, 0, 0, 0, 0, 0, [])), (31, (.lstore_n 1, 32, false, false, 1, 2, 0, 0, 0, 0, [])), (32, (.iinc 3 1, 35, false, false, 3, 0, 0, 0, 1, 0, [])), (35, (.goto (-31), 38, false, true, 4, 0, 0, 0, 0, 0, []))]),
  (42, [(38, (.lload_n 1, 39, false, false, 1, 0, 0, 0, 0, 0, [])), (39, (.invokestatic 345, 42, false, false, 150, 1, 1, 0, 0, 0, [])), (42, (.ireturn, 43, false, false, 0, 0, 0, 0, 0, 0, []))])], 0, [])
set_option maxRecDepth 100000 in
theorem v_X12_owedOnLoans : VE MYT dflT E_X12_owedOnLoans := ⟨⟨⟨⟨⟨dX12_owedOnLoans_0, rfl⟩, rfl⟩, ⟨⟨dX12_owedOnLoans_1, rfl⟩, ⟨rfl, rfl⟩⟩, ⟨⟨dX12_owedOnLoans_2, rfl⟩, rfl⟩, ⟨⟨dX12_owedOnLoans_3, rfl⟩, rfl⟩, ⟨⟨dX12_owedOnLoans_4, rfl⟩, rfl⟩, ⟨⟨dX12_owedOnLoans_5, rfl⟩, rfl⟩, ⟨⟨dX12_owedOnLoans_6, rfl⟩, Or.inl ⟨by decide, _, _, fX12_27⟩⟩, ⟨⟨dX12_owedOnLoans_9, rfl⟩, rfl⟩, ⟨⟨dX12_owedOnLoans_12, rfl⟩, trivial⟩, ⟨⟨dX12_owedOnLoans_13, rfl⟩, rfl⟩, ⟨⟨dX12_owedOnLoans_16, rfl⟩, rfl⟩, ⟨⟨dX12_owedOnLoans_17, rfl⟩, rfl⟩, ⟨⟨dX12_owedOnLoans_18, rfl⟩, Or.inl ⟨by decide, _, _, fX12_27⟩⟩, ⟨⟨dX12_owedOnLoans_21, rfl⟩, rfl⟩, ⟨⟨dX12_owedOnLoans_24, rfl⟩, rfl⟩, ⟨⟨dX12_owedOnLoans_25, rfl⟩, rfl⟩, ⟨⟨dX12_owedOnLoans_26, rfl⟩, trivial⟩, ⟨⟨dX12_owedOnLoans_27, rfl⟩, trivial⟩, ⟨⟨dX12_owedOnLoans_28, rfl⟩, trivial⟩, ⟨⟨dX12_owedOnLoans_29, rfl⟩, trivial⟩, ⟨⟨dX12_owedOnLoans_30, rfl⟩, trivial⟩, ⟨⟨dX12_owedOnLoans_31, rfl⟩, ⟨rfl, rfl⟩⟩, ⟨⟨dX12_owedOnLoans_32, rfl⟩, ⟨rfl, rfl⟩⟩, ⟨⟨dX12_owedOnLoans_35, rfl⟩, rfl⟩, trivial⟩,
  ⟨⟨⟨dX12_owedOnLoans_38, rfl⟩, rfl⟩, ⟨⟨dX12_owedOnLoans_39, rfl⟩, Or.inl ⟨rfl, _, my_150, sX12_345⟩⟩, ⟨⟨dX12_owedOnLoans_42, rfl⟩, Or.inl ⟨rfl, rfl⟩⟩, trivial⟩, trivial⟩, by decide, Or.inl ⟨rfl, by decide, rfl⟩⟩
set_option maxRecDepth 100000 in
theorem g_X12_owedOnLoans_0 (S : sT) (call : cT) (n : Nat) (a0 : Nat) (h : pH) : bd S call dflT E_X12_owedOnLoans (n + 1) 0 [some (.ref a0), none, none, none] [] h = (bd S call dflT E_X12_owedOnLoans n 4 [some (.ref a0), some (.long 0), none, some (.int 0)] [] h) := rfl
set_option maxRecDepth 100000 in
theorem g_X12_owedOnLoans_4 (S : sT) (call : cT) (n : Nat) (a0 : Nat) (j1 : Int64) (x3 : Int32) (h : pH) : bd S call dflT E_X12_owedOnLoans (n + 1) 4 [some (.ref a0), some (.long j1), none, some (.int x3)] [] h = (gV h (.ref a0) 15 1 (fun w1 => aI h w1 0 1948 (fun y2 => (if y2 ≤ x3 then cI (call 150 [.long j1] h) (fun y4 h3 => some (.inl (some (.int y4)), h3)) else gV h (.ref a0) 15 1 (fun w5 => aI h w5 0 (1949 + (4 * x3)) (fun y6 => bd S call dflT E_X12_owedOnLoans n 4 [some (.ref a0), some (.long (j1 + y6.toInt64)), none, some (.int (x3 + 1))] [] h)))))) := rfl
theorem dX12_loan_0 : decode cX12_loan 0 = .ok (.aload_n 0, 1) := by decide +kernel
theorem dX12_loan_1 : decode cX12_loan 1 = .ok (.iconst 0, 1) := by decide +kernel
theorem dX12_loan_2 : decode cX12_loan 2 = .ok (.putfield 3, 3) := by decide +kernel
theorem dX12_loan_5 : decode cX12_loan 5 = .ok (.aload_n 0, 1) := by decide +kernel
theorem dX12_loan_6 : decode cX12_loan 6 = .ok (.iload_n 1, 1) := by decide +kernel
theorem dX12_loan_7 : decode cX12_loan 7 = .ok (.iconst 1, 1) := by decide +kernel
theorem dX12_loan_8 : decode cX12_loan 8 = .ok (.ldc_w 366, 3) := by decide +kernel
theorem dX12_loan_11 : decode cX12_loan 11 = .ok (.invokestatic 63, 3) := by decide +kernel
theorem dX12_loan_14 : decode cX12_loan 14 = .ok (.ifCond .eq 24, 3) := by decide +kernel
theorem dX12_loan_17 : decode cX12_loan 17 = .ok (.iload_n 2, 1) := by decide +kernel
theorem dX12_loan_18 : decode cX12_loan 18 = .ok (.iconst 0, 1) := by decide +kernel
theorem dX12_loan_19 : decode cX12_loan 19 = .ok (.sipush 2000, 3) := by decide +kernel
theorem dX12_loan_22 : decode cX12_loan 22 = .ok (.invokestatic 63, 3) := by decide +kernel
theorem dX12_loan_25 : decode cX12_loan 25 = .ok (.ifCond .eq 13, 3) := by decide +kernel
theorem dX12_loan_28 : decode cX12_loan 28 = .ok (.iload_n 3, 1) := by decide +kernel
theorem dX12_loan_29 : decode cX12_loan 29 = .ok (.iconst 1, 1) := by decide +kernel
theorem dX12_loan_30 : decode cX12_loan 30 = .ok (.bipush 40, 2) := by decide +kernel
theorem dX12_loan_32 : decode cX12_loan 32 = .ok (.invokestatic 63, 3) := by decide +kernel
theorem dX12_loan_35 : decode cX12_loan 35 = .ok (.ifCond .ne 7, 3) := by decide +kernel
theorem dX12_loan_38 : decode cX12_loan 38 = .ok (.iconst 1, 1) := by decide +kernel
theorem dX12_loan_39 : decode cX12_loan 39 = .ok (.goto 4, 3) := by decide +kernel
theorem dX12_loan_42 : decode cX12_loan 42 = .ok (.iconst 0, 1) := by decide +kernel
theorem dX12_loan_43 : decode cX12_loan 43 = .ok (.iconst 1, 1) := by decide +kernel
theorem dX12_loan_44 : decode cX12_loan 44 = .ok (.invokevirtual 75, 3) := by decide +kernel
theorem dX12_loan_47 : decode cX12_loan 47 = .ok (.ifCond .ne 29, 3) := by decide +kernel
theorem dX12_loan_50 : decode cX12_loan 50 = .ok (.aload_n 0, 1) := by decide +kernel
theorem dX12_loan_51 : decode cX12_loan 51 = .ok (.aload_n 0, 1) := by decide +kernel
theorem dX12_loan_52 : decode cX12_loan 52 = .ok (.getfield 27, 3) := by decide +kernel
theorem dX12_loan_55 : decode cX12_loan 55 = .ok (.sipush 1948, 3) := by decide +kernel
theorem dX12_loan_58 : decode cX12_loan 58 = .ok (.iaload, 1) := by decide +kernel
theorem dX12_loan_59 : decode cX12_loan 59 = .ok (.bipush 12, 2) := by decide +kernel
theorem dX12_loan_61 : decode cX12_loan 61 = .ok (.if_icmp .ne 7, 3) := by decide +kernel
theorem dX12_loan_64 : decode cX12_loan 64 = .ok (.iconst 1, 1) := by decide +kernel
theorem dX12_loan_65 : decode cX12_loan 65 = .ok (.goto 4, 3) := by decide +kernel
theorem dX12_loan_68 : decode cX12_loan 68 = .ok (.iconst 0, 1) := by decide +kernel
theorem dX12_loan_69 : decode cX12_loan 69 = .ok (.iconst 2, 1) := by decide +kernel
theorem dX12_loan_70 : decode cX12_loan 70 = .ok (.invokevirtual 75, 3) := by decide +kernel
theorem dX12_loan_73 : decode cX12_loan 73 = .ok (.ifCond .eq 5, 3) := by decide +kernel
theorem dX12_loan_76 : decode cX12_loan 76 = .ok (.iconst 0, 1) := by decide +kernel
theorem dX12_loan_77 : decode cX12_loan 77 = .ok (.ireturn, 1) := by decide +kernel
theorem dX12_loan_78 : decode cX12_loan 78 = .ok (.aload_n 0, 1) := by decide +kernel
theorem dX12_loan_79 : decode cX12_loan 79 = .ok (.invokevirtual 449, 3) := by decide +kernel
theorem dX12_loan_82 : decode cX12_loan 82 = .ok (.iload_n 1, 1) := by decide +kernel
theorem dX12_loan_83 : decode cX12_loan 83 = .ok (.iadd, 1) := by decide +kernel
theorem dX12_loan_84 : decode cX12_loan 84 = .ok (.aload_n 0, 1) := by decide +kernel
theorem dX12_loan_85 : decode cX12_loan 85 = .ok (.bipush 12, 2) := by decide +kernel
theorem dX12_loan_87 : decode cX12_loan 87 = .ok (.invokevirtual 333, 3) := by decide +kernel
theorem dX12_loan_90 : decode cX12_loan 90 = .ok (.if_icmp .gt 7, 3) := by decide +kernel
theorem dX12_loan_93 : decode cX12_loan 93 = .ok (.iconst 1, 1) := by decide +kernel
theorem dX12_loan_94 : decode cX12_loan 94 = .ok (.goto 4, 3) := by decide +kernel
theorem dX12_loan_97 : decode cX12_loan 97 = .ok (.iconst 0, 1) := by decide +kernel
theorem dX12_loan_98 : decode cX12_loan 98 = .ok (.istore 5, 2) := by decide +kernel
theorem dX12_loan_100 : decode cX12_loan 100 = .ok (.iload 5, 2) := by decide +kernel
theorem dX12_loan_102 : decode cX12_loan 102 = .ok (.ifCond .ne 10, 3) := by decide +kernel
theorem dX12_loan_105 : decode cX12_loan 105 = .ok (.iload 4, 2) := by decide +kernel
theorem dX12_loan_107 : decode cX12_loan 107 = .ok (.ifCond .ne 5, 3) := by decide +kernel
theorem dX12_loan_110 : decode cX12_loan 110 = .ok (.iconst (-1), 1) := by decide +kernel
theorem dX12_loan_111 : decode cX12_loan 111 = .ok (.ireturn, 1) := by decide +kernel
theorem dX12_loan_112 : decode cX12_loan 112 = .ok (.aload_n 0, 1) := by decide +kernel
theorem dX12_loan_113 : decode cX12_loan 113 = .ok (.getfield 27, 3) := by decide +kernel
theorem dX12_loan_116 : decode cX12_loan 116 = .ok (.sipush 1948, 3) := by decide +kernel
theorem dX12_loan_119 : decode cX12_loan 119 = .ok (.iaload, 1) := by decide +kernel
theorem dX12_loan_120 : decode cX12_loan 120 = .ok (.istore 6, 2) := by decide +kernel
theorem dX12_loan_122 : decode cX12_loan 122 = .ok (.aload_n 0, 1) := by decide +kernel
theorem dX12_loan_123 : decode cX12_loan 123 = .ok (.getfield 27, 3) := by decide +kernel
theorem dX12_loan_126 : decode cX12_loan 126 = .ok (.sipush 1948, 3) := by decide +kernel
theorem dX12_loan_129 : decode cX12_loan 129 = .ok (.dup2, 1) := by decide +kernel
theorem dX12_loan_130 : decode cX12_loan 130 = .ok (.iaload, 1) := by decide +kernel
theorem dX12_loan_131 : decode cX12_loan 131 = .ok (.iconst 1, 1) := by decide +kernel
theorem dX12_loan_132 : decode cX12_loan 132 = .ok (.iadd, 1) := by decide +kernel
theorem dX12_loan_133 : decode cX12_loan 133 = .ok (.iastore, 1) := by decide +kernel
theorem dX12_loan_134 : decode cX12_loan 134 = .ok (.aload_n 0, 1) := by decide +kernel
theorem dX12_loan_135 : decode cX12_loan 135 = .ok (.getfield 27, 3) := by decide +kernel
theorem dX12_loan_138 : decode cX12_loan 138 = .ok (.sipush 1949, 3) := by decide +kernel
theorem dX12_loan_141 : decode cX12_loan 141 = .ok (.iconst 4, 1) := by decide +kernel
theorem dX12_loan_142 : decode cX12_loan 142 = .ok (.iload 6, 2) := by decide +kernel
theorem dX12_loan_144 : decode cX12_loan 144 = .ok (.imul, 1) := by decide +kernel
theorem dX12_loan_145 : decode cX12_loan 145 = .ok (.iadd, 1) := by decide +kernel
theorem dX12_loan_146 : decode cX12_loan 146 = .ok (.iload_n 1, 1) := by decide +kernel
theorem dX12_loan_147 : decode cX12_loan 147 = .ok (.iastore, 1) := by decide +kernel
theorem dX12_loan_148 : decode cX12_loan 148 = .ok (.aload_n 0, 1) := by decide +kernel
theorem dX12_loan_149 : decode cX12_loan 149 = .ok (.getfield 27, 3) := by decide +kernel
theorem dX12_loan_152 : decode cX12_loan 152 = .ok (.sipush 1949, 3) := by decide +kernel
theorem dX12_loan_155 : decode cX12_loan 155 = .ok (.iconst 4, 1) := by decide +kernel
theorem dX12_loan_156 : decode cX12_loan 156 = .ok (.iload 6, 2) := by decide +kernel
theorem dX12_loan_158 : decode cX12_loan 158 = .ok (.imul, 1) := by decide +kernel
theorem dX12_loan_159 : decode cX12_loan 159 = .ok (.iadd, 1) := by decide +kernel
theorem dX12_loan_160 : decode cX12_loan 160 = .ok (.iconst 1, 1) := by decide +kernel
theorem dX12_loan_161 : decode cX12_loan 161 = .ok (.iadd, 1) := by decide +kernel
theorem dX12_loan_162 : decode cX12_loan 162 = .ok (.iload_n 2, 1) := by decide +kernel
theorem dX12_loan_163 : decode cX12_loan 163 = .ok (.iastore, 1) := by decide +kernel
theorem dX12_loan_164 : decode cX12_loan 164 = .ok (.aload_n 0, 1) := by decide +kernel
theorem dX12_loan_165 : decode cX12_loan 165 = .ok (.getfield 27, 3) := by decide +kernel
theorem dX12_loan_168 : decode cX12_loan 168 = .ok (.sipush 1949, 3) := by decide +kernel
theorem dX12_loan_171 : decode cX12_loan 171 = .ok (.iconst 4, 1) := by decide +kernel
theorem dX12_loan_172 : decode cX12_loan 172 = .ok (.iload 6, 2) := by decide +kernel
theorem dX12_loan_174 : decode cX12_loan 174 = .ok (.imul, 1) := by decide +kernel
theorem dX12_loan_175 : decode cX12_loan 175 = .ok (.iadd, 1) := by decide +kernel
theorem dX12_loan_176 : decode cX12_loan 176 = .ok (.iconst 2, 1) := by decide +kernel
theorem dX12_loan_177 : decode cX12_loan 177 = .ok (.iadd, 1) := by decide +kernel
theorem dX12_loan_178 : decode cX12_loan 178 = .ok (.iload_n 1, 1) := by decide +kernel
theorem dX12_loan_179 : decode cX12_loan 179 = .ok (.iload_n 3, 1) := by decide +kernel
theorem dX12_loan_180 : decode cX12_loan 180 = .ok (.iadd, 1) := by decide +kernel
theorem dX12_loan_181 : decode cX12_loan 181 = .ok (.iconst 1, 1) := by decide +kernel
theorem dX12_loan_182 : decode cX12_loan 182 = .ok (.isub, 1) := by decide +kernel
theorem dX12_loan_183 : decode cX12_loan 183 = .ok (.iload_n 3, 1) := by decide +kernel
theorem dX12_loan_184 : decode cX12_loan 184 = .ok (.idiv, 1) := by decide +kernel
theorem dX12_loan_185 : decode cX12_loan 185 = .ok (.iastore, 1) := by decide +kernel
theorem dX12_loan_186 : decode cX12_loan 186 = .ok (.aload_n 0, 1) := by decide +kernel
theorem dX12_loan_187 : decode cX12_loan 187 = .ok (.iload_n 1, 1) := by decide +kernel
theorem dX12_loan_188 : decode cX12_loan 188 = .ok (.i2l, 1) := by decide +kernel
theorem dX12_loan_189 : decode cX12_loan 189 = .ok (.invokevirtual 351, 3) := by decide +kernel
theorem dX12_loan_192 : decode cX12_loan 192 = .ok (.iload 5, 2) := by decide +kernel
theorem dX12_loan_194 : decode cX12_loan 194 = .ok (.ifCond .ne 9, 3) := by decide +kernel
theorem dX12_loan_197 : decode cX12_loan 197 = .ok (.aload_n 0, 1) := by decide +kernel
theorem dX12_loan_198 : decode cX12_loan 198 = .ok (.iconst 2, 1) := by decide +kernel
theorem dX12_loan_199 : decode cX12_loan 199 = .ok (.iload_n 1, 1) := by decide +kernel
theorem dX12_loan_200 : decode cX12_loan 200 = .ok (.invokevirtual 377, 3) := by decide +kernel
theorem dX12_loan_203 : decode cX12_loan 203 = .ok (.iload 6, 2) := by decide +kernel
theorem dX12_loan_205 : decode cX12_loan 205 = .ok (.ireturn, 1) := by decide +kernel
noncomputable def E_X12_loan : mE := (mX12_loan, [(44, [(0, (.aload_n 0, 1, false, false, 0, 0, 0, 0, 0, 0, [])), (1, (.iconst 0, 2, false, false, 0, 0, 0, 0, 0, 0, [])), (2, (.putfield 3, 5, false, false, 15, 0, 0, 0, 0, 0, [])), (5, (.aload_n 0, 6, false, false, 0, 0, 0, 0, 0, 0, [])), (6, (.iload_n 1, 7, false, false, 1, 0, 0, 0, 0, 0, [])), (7, (.iconst 1, 8, false, false, 0, 0, 0, 0, 1, 0, [])), (8, (.ldc_w 366, 11, false, false, 0, 0, 0, 0, 100000, 0, [])), (11, (.invokestatic 63, 14, false, false, 28, 3, 1, 0, 0, 0, [])), (14, (.ifCond .eq 24, 17, false, false, 38, 0, 0, 0, 0, 0, [])), (17, (.iload_n 2, 18, false, false, 2, 0, 0, 0, 0, 0, [])), (18, (.iconst 0, 19, false, false, 0, 0, 0, 0, 0, 0, [])), (19, (.sipush 2000, 22, false, false, 0, 0, 0, 0, 2000, 0, [])), (22, (.invokestatic 63, 25, false, false, 28, 3, 1, 0, 0, 0, [])), (25, (.ifCond .eq 13, 28, false, false, 38, 0, 0, 0, 0, 0, [])), (28, (.iload_n 3, 29, false, false, 3, 0, 0, 0, 0, 0, [])), (29, (.iconst 1, 30, false, false, 0, 0, 0, 0, 1, 0, [])), (30, (.bipush 40, 32, false, false, 0, 0, 0, 0, 40, 0, [])), (32, (.invokestatic 63, 35, false, false, 28, 3, 1, 0, 0, 0, [])), (35, (.ifCond .ne 7, 38, false, false, 42, 0, 0, 0, 0, 0, [])), (38, (.iconst 1, 39, false, false, 0, 0, 0, 0, 1, 0, [])), (39, (.goto 4, 42, false, true, 43, 0, 0, 0, 0, 0, [])), (42, (.iconst 0, 43, true, false, 0, 0, 0, 0, 0, 0, [])), (43, (.iconst 1, 44, false, false, 0, 0, 0, 0, 1, 0, [])), (44, (.invokevirtual 75, 47, false, false, 30, 2, 1, 15, 0, 0, []))]),
  (90, [(47, (.ifCond .ne 29, 50, false, false, 76, 0, 0, 0, 0, 0, [])), (50, (.aload_n 0, 51, false, false, 0, 0, 0, 0, 0, 0, [])), (51, (.aload_n 0, 52, false, false, 0, 0, 0, 0, 0, 0, [])), (52, (.getfield 27, 55, false, false, 15, 1, 1, 0, 0, 0, [])), (55, (.sipush 1948, 58, false, false, 0, 0, 0, 0, 1948, 0, [])), (58, (.iaload, 59, false, false, 0, 0, 0, 0, 0, 0, [])), (59, (.bipush 12, 61, false, false, 0, 0, 0, 0, 12, 0, [])), (61, (.if_icmp .ne 7, 64, false, false, 68, 0, 0, 0, 0, 0, [])), (64, (.iconst 1, 65, false, false, 0, 0, 0, 0, 1, 0, [])), (65, (.goto 4, 68, false, true, 69, 0, 0, 0, 0, 0, [])), (68, (.iconst 0, 69, true, false, 0, 0, 0, 0, 0, 0, [])), (69, (.iconst 2, 70, false, false, 0, 0, 0, 0, 2, 0, [])), (70, (.invokevirtual 75, 73, false, false, 30, 2, 1, 15, 0, 0, [])), (73, (.ifCond .eq 5, 76, false, false, 78, 0, 0, 0, 0, 0, [])), (76, (.iconst 0, 77, false, false, 0, 0, 0, 0, 0, 0, [])), (77, (.ireturn, 78, false, false, 0, 0, 0, 0, 0, 0, [])), (78, (.aload_n 0, 79, false, false, 0, 0, 0, 0, 0, 0, [])), (79, (.invokevirtual 449, 82, false, false, 305, 0, 1, 15, 0, 0, [])), (82, (.iload_n 1, 83, false, false, 1, 0, 0, 0, 0, 0, [])), (83, (.iadd, 84, false, false, 0, 0, 0, 0, 0, 0, [])), (84, (.aload_n 0, 85, false, false, 0, 0, 0, 0, 0, 0, [])), (85, (.bipush 12, 87, false, false, 0, 0, 0, 0, 12, 0, [])), (87, (.invokevirtual 333, 90, false, false, 291, 1, 1, 15, 0, 0, [])), (90, (.if_icmp .gt 7, 93, false, false, 97, 0, 0, 0, 0, 0, []))]),
  (134, [(93, (.iconst 1, 94, false, false, 0, 0, 0, 0, 1, 0, [])), (94, (.goto 4, 97, false, false, 98, 0, 0, 0, 0, 0, [])), (97, (.iconst 0, 98, false, false, 0, 0, 0, 0, 0, 0, [])), (98, (.istore 5, 100, false, false, 5, 0, 0, 0, 0, 0, [])), (100, (.iload 5, 102, false, false, 5, 0, 0, 0, 0, 0, [])), (102, (.ifCond .ne 10, 105, false, true, 112, 0, 0, 0, 0, 0, [])), (105, (.iload 4, 107, false, false, 4, 0, 0, 0, 0, 0, [])), (107, (.ifCond .ne 5, 110, false, true, 112, 0, 0, 0, 0, 0, [])), (110, (.iconst (-1), 111, false, false, 0, 0, 0, 0, -1, 0, [])), (111, (.ireturn, 112, false, false, 0, 0, 0, 0, 0, 0, [])), (112, (.aload_n 0, 113, false, false, 0, 0, 0, 0, 0, 0, [])), (113, (.getfield 27, 116, false, false, 15, 1, 1, 0, 0, 0, [])), (116, (.sipush 1948, 119, false, false, 0, 0, 0, 0, 1948, 0, [])), (119, (.iaload, 120, false, false, 0, 0, 0, 0, 0, 0, [])), (120, (.istore 6, 122, false, false, 6, 0, 0, 0, 0, 0, [])), (122, (.aload_n 0, 123, false, false, 0, 0, 0, 0, 0, 0, [])), (123, (.getfield 27, 126, false, false, 15, 1, 1, 0, 0, 0, [])), (126, (.sipush 1948, 129, false, false, 0, 0, 0, 0, 1948, 0, [])), (129, (.dup2, 130, false, false, 0, 0, 0, 0, 0, 0, [])), (130, (.iaload, 131, false, false, 0, 0, 0, 0, 0, 0, [])), (131, (.iconst 1, 132, false, false, 0, 0, 0, 0, 1, 0, [])), (132, (.iadd, 133, false, false, 0, 0, 0, 0, 0, 0, [])), (133, (.iastore, 134, false, false, 0, 0, 0, 0, 0, 0, [])), (134, (.aload_n 0, 135, false, false, 0, 0, 0, 0, 0, 0, []))]),
  (172, [(135, (.getfield 27, 138, false, false, 15, 1, 1, 0, 0, 0, [])), (138, (.sipush 1949, 141, false, false, 0, 0, 0, 0, 1949, 0, [])), (141, (.iconst 4, 142, false, false, 0, 0, 0, 0, 4, 0, [])), (142, (.iload 6, 144, false, false, 6, 0, 0, 0, 0, 0, [])), (144, (.imul, 145, false, false, 0, 0, 0, 0, 0, 0, [])), (145, (.iadd, 146, false, false, 0, 0, 0, 0, 0, 0, [])), (146, (.iload_n 1, 147, false, false, 1, 0, 0, 0, 0, 0, [])), (147, (.iastore, 148, false, false, 0, 0, 0, 0, 0, 0, [])), (148, (.aload_n 0, 149, false, false, 0, 0, 0, 0, 0, 0, [])), (149, (.getfield 27, 152, false, false, 15, 1, 1, 0, 0, 0, [])), (152, (.sipush 1949, 155, false, false, 0, 0, 0, 0, 1949, 0, [])), (155, (.iconst 4, 156, false, false, 0, 0, 0, 0, 4, 0, [])), (156, (.iload 6, 158, false, false, 6, 0, 0, 0, 0, 0, [])), (158, (.imul, 159, false, false, 0, 0, 0, 0, 0, 0, [])), (159, (.iadd, 160, false, false, 0, 0, 0, 0, 0, 0, [])), (160, (.iconst 1, 161, false, false, 0, 0, 0, 0, 1, 0, [])), (161, (.iadd, 162, false, false, 0, 0, 0, 0, 0, 0, [])), (162, (.iload_n 2, 163, false, false, 2, 0, 0, 0, 0, 0, [])), (163, (.iastore, 164, false, false, 0, 0, 0, 0, 0, 0, [])), (164, (.aload_n 0, 165, false, false, 0, 0, 0, 0, 0, 0, [])), (165, (.getfield 27, 168, false, false, 15, 1, 1, 0, 0, 0, [])), (168, (.sipush 1949, 171, false, false, 0, 0, 0, 0, 1949, 0, [])), (171, (.iconst 4, 172, false, false, 0, 0, 0, 0, 4, 0, [])), (172, (.iload 6, 174, false, false, 6, 0, 0, 0, 0, 0, []))]),
  (205, [(174, (.imul, 175, false, false, 0, 0, 0, 0, 0, 0, [])), (175, (.iadd, 176, false, false, 0, 0, 0, 0, 0, 0, [])), (176, (.iconst 2, 177, false, false, 0, 0, 0, 0, 2, 0, [])), (177, (.iadd, 178, false, false, 0, 0, 0, 0, 0, 0, [])), (178, (.iload_n 1, 179, false, false, 1, 0, 0, 0, 0, 0, [])), (179, (.iload_n 3, 180, false, false, 3, 0, 0, 0, 0, 0, [])), (180, (.iadd, 181, false, false, 0, 0, 0, 0, 0, 0, [])), (181, (.iconst 1, 182, false, false, 0, 0, 0, 0, 1, 0, [])), (182, (.isub, 183, false, false, 0, 0, 0, 0, 0, 0, [])), (183, (.iload_n 3, 184, false, false, 3, 0, 0, 0, 0, 0, [])), (184, (.idiv, 185, false, false, 0, 0, 0, 0, 0, 0, [])), (185, (.iastore, 186, false, false, 0, 0, 0, 0, 0, 0, [])), (186, (.aload_n 0, 187, false, false, 0, 0, 0, 0, 0, 0, [])), (187, (.iload_n 1, 188, false, false, 1, 0, 0, 0, 0, 0, [])), (188, (.i2l, 189, false, false, 0, 0, 0, 0, 0, 0, [])), (189, (.invokevirtual 351, 192, false, false, 248, 1, 0, 15, 0, 0, [])), (192, (.iload 5, 194, false, false, 5, 0, 0, 0, 0, 0, [])), (194, (.ifCond .ne 9, 197, false, false, 203, 0, 0, 0, 0, 0, [])), (197, (.aload_n 0, 198, false, false, 0, 0, 0, 0, 0, 0, [])), (198, (.iconst 2, 199, false, false, 0, 0, 0, 0, 2, 0, [])), (199, (.iload_n 1, 200, false, false, 1, 0, 0, 0, 0, 0, [])), (200, (.invokevirtual 377, 203, false, false, 154, 2, 0, 15, 0, 0, [])), (203, (.iload 6, 205, false, false, 6, 0, 0, 0, 0, 0, [])), (205, (.ireturn, 206, false, false, 0, 0, 0, 0, 0, 0, []))])], 0, [])
set_option maxRecDepth 100000 in
theorem v_X12_loan : VE MYT dflT E_X12_loan := ⟨⟨⟨⟨⟨dX12_loan_0, rfl⟩, rfl⟩, ⟨⟨dX12_loan_1, rfl⟩, rfl⟩, ⟨⟨dX12_loan_2, rfl⟩, Or.inl ⟨rfl, fX12_3⟩⟩, ⟨⟨dX12_loan_5, rfl⟩, rfl⟩, ⟨⟨dX12_loan_6, rfl⟩, rfl⟩, ⟨⟨dX12_loan_7, rfl⟩, rfl⟩, ⟨⟨dX12_loan_8, rfl⟩, Or.inl ⟨rfl, kX12_366⟩⟩, ⟨⟨dX12_loan_11, rfl⟩, Or.inl ⟨rfl, _, my_28, sX12_63⟩⟩, ⟨⟨dX12_loan_14, rfl⟩, rfl⟩, ⟨⟨dX12_loan_17, rfl⟩, rfl⟩, ⟨⟨dX12_loan_18, rfl⟩, rfl⟩, ⟨⟨dX12_loan_19, rfl⟩, rfl⟩, ⟨⟨dX12_loan_22, rfl⟩, Or.inl ⟨rfl, _, my_28, sX12_63⟩⟩, ⟨⟨dX12_loan_25, rfl⟩, rfl⟩, ⟨⟨dX12_loan_28, rfl⟩, rfl⟩, ⟨⟨dX12_loan_29, rfl⟩, rfl⟩, ⟨⟨dX12_loan_30, rfl⟩, rfl⟩, ⟨⟨dX12_loan_32, rfl⟩, Or.inl ⟨rfl, _, my_28, sX12_63⟩⟩, ⟨⟨dX12_loan_35, rfl⟩, rfl⟩, ⟨⟨dX12_loan_38, rfl⟩, rfl⟩, ⟨⟨dX12_loan_39, rfl⟩, rfl⟩, ⟨⟨dX12_loan_42, rfl⟩, rfl⟩, ⟨⟨dX12_loan_43, rfl⟩, rfl⟩, ⟨⟨dX12_loan_44, rfl⟩, Or.inr ⟨by decide, ⟨_, my_30, sX12_75⟩, fun q => absurd q (by decide)⟩⟩, trivial⟩,
  ⟨⟨⟨dX12_loan_47, rfl⟩, rfl⟩, ⟨⟨dX12_loan_50, rfl⟩, rfl⟩, ⟨⟨dX12_loan_51, rfl⟩, rfl⟩, ⟨⟨dX12_loan_52, rfl⟩, Or.inl ⟨by decide, _, _, fX12_27⟩⟩, ⟨⟨dX12_loan_55, rfl⟩, rfl⟩, ⟨⟨dX12_loan_58, rfl⟩, trivial⟩, ⟨⟨dX12_loan_59, rfl⟩, rfl⟩, ⟨⟨dX12_loan_61, rfl⟩, rfl⟩, ⟨⟨dX12_loan_64, rfl⟩, rfl⟩, ⟨⟨dX12_loan_65, rfl⟩, rfl⟩, ⟨⟨dX12_loan_68, rfl⟩, rfl⟩, ⟨⟨dX12_loan_69, rfl⟩, rfl⟩, ⟨⟨dX12_loan_70, rfl⟩, Or.inr ⟨by decide, ⟨_, my_30, sX12_75⟩, fun q => absurd q (by decide)⟩⟩, ⟨⟨dX12_loan_73, rfl⟩, rfl⟩, ⟨⟨dX12_loan_76, rfl⟩, rfl⟩, ⟨⟨dX12_loan_77, rfl⟩, Or.inl ⟨rfl, rfl⟩⟩, ⟨⟨dX12_loan_78, rfl⟩, rfl⟩, ⟨⟨dX12_loan_79, rfl⟩, Or.inr ⟨by decide, ⟨_, my_305, sX12_449⟩, fun q => absurd q (by decide)⟩⟩, ⟨⟨dX12_loan_82, rfl⟩, rfl⟩, ⟨⟨dX12_loan_83, rfl⟩, trivial⟩, ⟨⟨dX12_loan_84, rfl⟩, rfl⟩, ⟨⟨dX12_loan_85, rfl⟩, rfl⟩, ⟨⟨dX12_loan_87, rfl⟩, Or.inr ⟨by decide, ⟨_, my_291, sX12_333⟩, fun q => absurd q (by decide)⟩⟩, ⟨⟨dX12_loan_90, rfl⟩, rfl⟩, trivial⟩,
  ⟨⟨⟨dX12_loan_93, rfl⟩, rfl⟩, ⟨⟨dX12_loan_94, rfl⟩, rfl⟩, ⟨⟨dX12_loan_97, rfl⟩, rfl⟩, ⟨⟨dX12_loan_98, rfl⟩, rfl⟩, ⟨⟨dX12_loan_100, rfl⟩, rfl⟩, ⟨⟨dX12_loan_102, rfl⟩, rfl⟩, ⟨⟨dX12_loan_105, rfl⟩, rfl⟩, ⟨⟨dX12_loan_107, rfl⟩, rfl⟩, ⟨⟨dX12_loan_110, rfl⟩, rfl⟩, ⟨⟨dX12_loan_111, rfl⟩, Or.inl ⟨rfl, rfl⟩⟩, ⟨⟨dX12_loan_112, rfl⟩, rfl⟩, ⟨⟨dX12_loan_113, rfl⟩, Or.inl ⟨by decide, _, _, fX12_27⟩⟩, ⟨⟨dX12_loan_116, rfl⟩, rfl⟩, ⟨⟨dX12_loan_119, rfl⟩, trivial⟩, ⟨⟨dX12_loan_120, rfl⟩, rfl⟩, ⟨⟨dX12_loan_122, rfl⟩, rfl⟩, ⟨⟨dX12_loan_123, rfl⟩, Or.inl ⟨by decide, _, _, fX12_27⟩⟩, ⟨⟨dX12_loan_126, rfl⟩, rfl⟩, ⟨⟨dX12_loan_129, rfl⟩, trivial⟩, ⟨⟨dX12_loan_130, rfl⟩, trivial⟩, ⟨⟨dX12_loan_131, rfl⟩, rfl⟩, ⟨⟨dX12_loan_132, rfl⟩, trivial⟩, ⟨⟨dX12_loan_133, rfl⟩, trivial⟩, ⟨⟨dX12_loan_134, rfl⟩, rfl⟩, trivial⟩,
  ⟨⟨⟨dX12_loan_135, rfl⟩, Or.inl ⟨by decide, _, _, fX12_27⟩⟩, ⟨⟨dX12_loan_138, rfl⟩, rfl⟩, ⟨⟨dX12_loan_141, rfl⟩, rfl⟩, ⟨⟨dX12_loan_142, rfl⟩, rfl⟩, ⟨⟨dX12_loan_144, rfl⟩, trivial⟩, ⟨⟨dX12_loan_145, rfl⟩, trivial⟩, ⟨⟨dX12_loan_146, rfl⟩, rfl⟩, ⟨⟨dX12_loan_147, rfl⟩, trivial⟩, ⟨⟨dX12_loan_148, rfl⟩, rfl⟩, ⟨⟨dX12_loan_149, rfl⟩, Or.inl ⟨by decide, _, _, fX12_27⟩⟩, ⟨⟨dX12_loan_152, rfl⟩, rfl⟩, ⟨⟨dX12_loan_155, rfl⟩, rfl⟩, ⟨⟨dX12_loan_156, rfl⟩, rfl⟩, ⟨⟨dX12_loan_158, rfl⟩, trivial⟩, ⟨⟨dX12_loan_159, rfl⟩, trivial⟩, ⟨⟨dX12_loan_160, rfl⟩, rfl⟩, ⟨⟨dX12_loan_161, rfl⟩, trivial⟩, ⟨⟨dX12_loan_162, rfl⟩, rfl⟩, ⟨⟨dX12_loan_163, rfl⟩, trivial⟩, ⟨⟨dX12_loan_164, rfl⟩, rfl⟩, ⟨⟨dX12_loan_165, rfl⟩, Or.inl ⟨by decide, _, _, fX12_27⟩⟩, ⟨⟨dX12_loan_168, rfl⟩, rfl⟩, ⟨⟨dX12_loan_171, rfl⟩, rfl⟩, ⟨⟨dX12_loan_172, rfl⟩, rfl⟩, trivial⟩,
  ⟨⟨⟨dX12_loan_174, rfl⟩, trivial⟩, ⟨⟨dX12_loan_175, rfl⟩, trivial⟩, ⟨⟨dX12_loan_176, rfl⟩, rfl⟩, ⟨⟨dX12_loan_177, rfl⟩, trivial⟩, ⟨⟨dX12_loan_178, rfl⟩, rfl⟩, ⟨⟨dX12_loan_179, rfl⟩, rfl⟩, ⟨⟨dX12_loan_180, rfl⟩, trivial⟩, ⟨⟨dX12_loan_181, rfl⟩, rfl⟩, ⟨⟨dX12_loan_182, rfl⟩, trivial⟩, ⟨⟨dX12_loan_183, rfl⟩, rfl⟩, ⟨⟨dX12_loan_184, rfl⟩, trivial⟩, ⟨⟨dX12_loan_185, rfl⟩, trivial⟩, ⟨⟨dX12_loan_186, rfl⟩, rfl⟩, ⟨⟨dX12_loan_187, rfl⟩, rfl⟩, ⟨⟨dX12_loan_188, rfl⟩, trivial⟩, ⟨⟨dX12_loan_189, rfl⟩, Or.inr ⟨by decide, ⟨_, my_248, sX12_351⟩, fun q => absurd q (by decide)⟩⟩, ⟨⟨dX12_loan_192, rfl⟩, rfl⟩, ⟨⟨dX12_loan_194, rfl⟩, rfl⟩, ⟨⟨dX12_loan_197, rfl⟩, rfl⟩, ⟨⟨dX12_loan_198, rfl⟩, rfl⟩, ⟨⟨dX12_loan_199, rfl⟩, rfl⟩, ⟨⟨dX12_loan_200, rfl⟩, Or.inr ⟨by decide, ⟨_, my_154, sX12_377⟩, fun q => absurd q (by decide)⟩⟩, ⟨⟨dX12_loan_203, rfl⟩, rfl⟩, ⟨⟨dX12_loan_205, rfl⟩, Or.inl ⟨rfl, rfl⟩⟩, trivial⟩, trivial⟩, by decide, Or.inl ⟨rfl, by decide, rfl⟩⟩
set_option maxRecDepth 100000 in
theorem g_X12_loan_0 (S : sT) (call : cT) (n : Nat) (a0 : Nat) (x1 : Int32) (x2 : Int32) (x3 : Int32) (x4 : Int32) (h : pH) : bd S call dflT E_X12_loan (n + 1) 0 [some (.ref a0), some (.int x1), some (.int x2), some (.int x3), some (.int x4), none, none] [] h = (pF h (.ref a0) 15 0 (.int 0) (fun h1 => cI (call 28 [.int x1, .int 1, .int 100000] h1) (fun y3 h2 => (if y3 = 0 then bd S call dflT E_X12_loan n 43 [some (.ref a0), some (.int x1), some (.int x2), some (.int x3), some (.int x4), none, none] [.int 1, .ref a0] h2 else cI (call 28 [.int x2, .int 0, .int 2000] h2) (fun y5 h4 => (if y5 = 0 then bd S call dflT E_X12_loan n 43 [some (.ref a0), some (.int x1), some (.int x2), some (.int x3), some (.int x4), none, none] [.int 1, .ref a0] h4 else cI (call 28 [.int x3, .int 1, .int 40] h4) (fun y7 h6 => (if y7 = 0 then bd S call dflT E_X12_loan n 43 [some (.ref a0), some (.int x1), some (.int x2), some (.int x3), some (.int x4), none, none] [.int 1, .ref a0] h6 else bd S call dflT E_X12_loan n 43 [some (.ref a0), some (.int x1), some (.int x2), some (.int x3), some (.int x4), none, none] [.int 0, .ref a0] h6)))))))) := rfl
set_option maxRecDepth 100000 in
theorem g_X12_loan_43 (S : sT) (call : cT) (n : Nat) (a0 : Nat) (x1 : Int32) (x2 : Int32) (x3 : Int32) (x4 : Int32) (o5 : Option Value) (o6 : Option Value) (u0 : Value) (y1 : Int32) (h : pH) : bd S call dflT E_X12_loan (n + 1) 43 [some (.ref a0), some (.int x1), some (.int x2), some (.int x3), some (.int x4), o5, o6] [.int y1, u0] h = (rC h u0 15 (cI (call 30 [u0, .int y1, .int 1] h) (fun y2 h1 => (if y2 = 0 then gV h1 (.ref a0) 15 1 (fun w3 => aI h1 w3 0 1948 (fun y4 => (if y4 = 12 then bd S call dflT E_X12_loan n 69 [some (.ref a0), some (.int x1), some (.int x2), some (.int x3), some (.int x4), o5, o6] [.int 1, .ref a0] h1 else bd S call dflT E_X12_loan n 69 [some (.ref a0), some (.int x1), some (.int x2), some (.int x3), some (.int x4), o5, o6] [.int 0, .ref a0] h1))) else some (.inl (some (.int 0)), h1))))) := rfl
set_option maxRecDepth 100000 in
theorem g_X12_loan_69 (S : sT) (call : cT) (n : Nat) (a0 : Nat) (x1 : Int32) (x2 : Int32) (x3 : Int32) (x4 : Int32) (o5 : Option Value) (o6 : Option Value) (u0 : Value) (y1 : Int32) (h : pH) : bd S call dflT E_X12_loan (n + 1) 69 [some (.ref a0), some (.int x1), some (.int x2), some (.int x3), some (.int x4), o5, o6] [.int y1, u0] h = (rC h u0 15 (cI (call 30 [u0, .int y1, .int 2] h) (fun y2 h1 => (if y2 = 0 then rC h1 (.ref a0) 15 (cI (call 305 [.ref a0] h1) (fun y4 h3 => rC h3 (.ref a0) 15 (cI (call 291 [.ref a0, .int 12] h3) (fun y6 h5 => (if y6 < (y4 + x1) then (if (0 : Int32) = 0 then (if x4 = 0 then some (.inl (some (.int (-1))), h5) else bd S call dflT E_X12_loan n 112 [some (.ref a0), some (.int x1), some (.int x2), some (.int x3), some (.int x4), some (.int 0), o6] [] h5) else bd S call dflT E_X12_loan n 112 [some (.ref a0), some (.int x1), some (.int x2), some (.int x3), some (.int x4), some (.int 0), o6] [] h5) else (if (1 : Int32) = 0 then (if x4 = 0 then some (.inl (some (.int (-1))), h5) else bd S call dflT E_X12_loan n 112 [some (.ref a0), some (.int x1), some (.int x2), some (.int x3), some (.int x4), some (.int 1), o6] [] h5) else bd S call dflT E_X12_loan n 112 [some (.ref a0), some (.int x1), some (.int x2), some (.int x3), some (.int x4), some (.int 1), o6] [] h5)))))) else some (.inl (some (.int 0)), h1))))) := rfl
set_option maxRecDepth 100000 in
theorem g_X12_loan_112 (S : sT) (call : cT) (n : Nat) (a0 : Nat) (x1 : Int32) (x2 : Int32) (x3 : Int32) (x4 : Int32) (x5 : Int32) (o6 : Option Value) (h : pH) : bd S call dflT E_X12_loan (n + 1) 112 [some (.ref a0), some (.int x1), some (.int x2), some (.int x3), some (.int x4), some (.int x5), o6] [] h = (gV h (.ref a0) 15 1 (fun w1 => aI h w1 0 1948 (fun y2 => gV h (.ref a0) 15 1 (fun w3 => nl w3 (aI h w3 0 1948 (fun y4 => sI h w3 0 1948 (y4 + 1) (fun h5 => gV h5 (.ref a0) 15 1 (fun w6 => sI h5 w6 0 (1949 + (4 * y2)) x1 (fun h7 => gV h7 (.ref a0) 15 1 (fun w8 => sI h7 w8 0 ((1949 + (4 * y2)) + 1) x2 (fun h9 => gV h9 (.ref a0) 15 1 (fun w10 => dv x3 (sI h9 w10 0 ((1949 + (4 * y2)) + 2) (((x1 + x3) - 1) / x3) (fun h11 => rC h11 (.ref a0) 15 (cU (call 248 [.ref a0, .long x1.toInt64] h11) (fun h12 => (if x5 = 0 then rC h12 (.ref a0) 15 (cU (call 154 [.ref a0, .int 2, .int x1] h12) (fun h13 => some (.inl (some (.int y2)), h13))) else some (.inl (some (.int y2)), h12)))))))))))))))))) := rfl
