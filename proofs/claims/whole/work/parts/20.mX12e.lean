/-! by program: methods as data, that they are right, what their bodies do -/
theorem dX12_owing_0 : decode cX12_owing 0 = .ok (.aload_n 0, 1) := by decide +kernel
theorem dX12_owing_1 : decode cX12_owing 1 = .ok (.iconst 0, 1) := by decide +kernel
theorem dX12_owing_2 : decode cX12_owing 2 = .ok (.putfield 3, 3) := by decide +kernel
theorem dX12_owing_5 : decode cX12_owing 5 = .ok (.aload_n 0, 1) := by decide +kernel
theorem dX12_owing_6 : decode cX12_owing 6 = .ok (.iload_n 1, 1) := by decide +kernel
theorem dX12_owing_7 : decode cX12_owing 7 = .ok (.iconst 0, 1) := by decide +kernel
theorem dX12_owing_8 : decode cX12_owing 8 = .ok (.aload_n 0, 1) := by decide +kernel
theorem dX12_owing_9 : decode cX12_owing 9 = .ok (.getfield 27, 3) := by decide +kernel
theorem dX12_owing_12 : decode cX12_owing 12 = .ok (.sipush 1948, 3) := by decide +kernel
theorem dX12_owing_15 : decode cX12_owing 15 = .ok (.iaload, 1) := by decide +kernel
theorem dX12_owing_16 : decode cX12_owing 16 = .ok (.iconst 1, 1) := by decide +kernel
theorem dX12_owing_17 : decode cX12_owing 17 = .ok (.isub, 1) := by decide +kernel
theorem dX12_owing_18 : decode cX12_owing 18 = .ok (.invokestatic 63, 3) := by decide +kernel
theorem dX12_owing_21 : decode cX12_owing 21 = .ok (.ifCond .ne 7, 3) := by decide +kernel
theorem dX12_owing_24 : decode cX12_owing 24 = .ok (.iconst 1, 1) := by decide +kernel
theorem dX12_owing_25 : decode cX12_owing 25 = .ok (.goto 4, 3) := by decide +kernel
theorem dX12_owing_28 : decode cX12_owing 28 = .ok (.iconst 0, 1) := by decide +kernel
theorem dX12_owing_29 : decode cX12_owing 29 = .ok (.iconst 1, 1) := by decide +kernel
theorem dX12_owing_30 : decode cX12_owing 30 = .ok (.invokevirtual 75, 3) := by decide +kernel
theorem dX12_owing_33 : decode cX12_owing 33 = .ok (.ifCond .eq 7, 3) := by decide +kernel
theorem dX12_owing_36 : decode cX12_owing 36 = .ok (.iconst 0, 1) := by decide +kernel
theorem dX12_owing_37 : decode cX12_owing 37 = .ok (.goto 15, 3) := by decide +kernel
theorem dX12_owing_40 : decode cX12_owing 40 = .ok (.aload_n 0, 1) := by decide +kernel
theorem dX12_owing_41 : decode cX12_owing 41 = .ok (.getfield 27, 3) := by decide +kernel
theorem dX12_owing_44 : decode cX12_owing 44 = .ok (.sipush 1949, 3) := by decide +kernel
theorem dX12_owing_47 : decode cX12_owing 47 = .ok (.iconst 4, 1) := by decide +kernel
theorem dX12_owing_48 : decode cX12_owing 48 = .ok (.iload_n 1, 1) := by decide +kernel
theorem dX12_owing_49 : decode cX12_owing 49 = .ok (.imul, 1) := by decide +kernel
theorem dX12_owing_50 : decode cX12_owing 50 = .ok (.iadd, 1) := by decide +kernel
theorem dX12_owing_51 : decode cX12_owing 51 = .ok (.iaload, 1) := by decide +kernel
theorem dX12_owing_52 : decode cX12_owing 52 = .ok (.ireturn, 1) := by decide +kernel
noncomputable def E_X12_owing : mE := (mX12_owing, [(41, [(0, (.aload_n 0, 1, false, false, 0, 0, 0, 0, 0, 0, [])), (1, (.iconst 0, 2, false, false, 0, 0, 0, 0, 0, 0, [])), (2, (.putfield 3, 5, false, false, 15, 0, 0, 0, 0, 0, [])), (5, (.aload_n 0, 6, false, false, 0, 0, 0, 0, 0, 0, [])), (6, (.iload_n 1, 7, false, false, 1, 0, 0, 0, 0, 0, [])), (7, (.iconst 0, 8, false, false, 0, 0, 0, 0, 0, 0, [])), (8, (.aload_n 0, 9, false, false, 0, 0, 0, 0, 0, 0, [])), (9, (.getfield 27, 12, false, false, 15, 1, 1, 0, 0, 0, [])), (12, (.sipush 1948, 15, false, false, 0, 0, 0, 0, 1948, 0, [])), (15, (.iaload, 16, false, false, 0, 0, 0, 0, 0, 0, [])), (16, (.iconst 1, 17, false, false, 0, 0, 0, 0, 1, 0, [])), (17, (.isub, 18, false, false, 0, 0, 0, 0, 0, 0, [])), (18, (.invokestatic 63, 21, false, false, 28, 3, 1, 0, 0, 0, [])), (21, (.ifCond .ne 7, 24, false, false, 28, 0, 0, 0, 0, 0, [])), (24, (.iconst 1, 25, false, false, 0, 0, 0, 0, 1, 0, [])), (25, (.goto 4, 28, false, true, 29, 0, 0, 0, 0, 0, [])), (28, (.iconst 0, 29, true, false, 0, 0, 0, 0, 0, 0, [])), (29, (.iconst 1, 30, false, false, 0, 0, 0, 0, 1, 0, [])), (30, (.invokevirtual 75, 33, false, false, 30, 2, 1, 15, 0, 0, [])), (33, (.ifCond .eq 7, 36, false, false, 40, 0, 0, 0, 0, 0, [])), (36, (.iconst 0, 37, false, false, 0, 0, 0, 0, 0, 0, [])), (37, (.goto 15, 40, false, false, 52, 0, 0, 0, 0, 0, [])), (40, (.aload_n 0, 41, false, false, 0, 0, 0, 0, 0, 0, [])), (41, (.getfield 27, 44, false, false, 15, 1, 1, 0, 0, 0, []))]),
  (52, [(44, (.sipush 1949, 47, false, false, 0, 0, 0, 0, 1949, 0, [])), (47, (.iconst 4, 48, false, false, 0, 0, 0, 0, 4, 0, [])), (48, (.iload_n 1, 49, false, false, 1, 0, 0, 0, 0, 0, [])), (49, (.imul, 50, false, false, 0, 0, 0, 0, 0, 0, [])), (50, (.iadd, 51, false, false, 0, 0, 0, 0, 0, 0, [])), (51, (.iaload, 52, false, false, 0, 0, 0, 0, 0, 0, [])), (52, (.ireturn, 53, false, false, 0, 0, 0, 0, 0, 0, []))])], 0, [])
set_option maxRecDepth 100000 in
theorem v_X12_owing : VE MYT dflT E_X12_owing := ⟨⟨⟨⟨⟨dX12_owing_0, rfl⟩, rfl⟩, ⟨⟨dX12_owing_1, rfl⟩, rfl⟩, ⟨⟨dX12_owing_2, rfl⟩, Or.inl ⟨rfl, fX12_3⟩⟩, ⟨⟨dX12_owing_5, rfl⟩, rfl⟩, ⟨⟨dX12_owing_6, rfl⟩, rfl⟩, ⟨⟨dX12_owing_7, rfl⟩, rfl⟩, ⟨⟨dX12_owing_8, rfl⟩, rfl⟩, ⟨⟨dX12_owing_9, rfl⟩, Or.inl ⟨by decide, _, _, fX12_27⟩⟩, ⟨⟨dX12_owing_12, rfl⟩, rfl⟩, ⟨⟨dX12_owing_15, rfl⟩, trivial⟩, ⟨⟨dX12_owing_16, rfl⟩, rfl⟩, ⟨⟨dX12_owing_17, rfl⟩, trivial⟩, ⟨⟨dX12_owing_18, rfl⟩, Or.inl ⟨rfl, _, my_28, sX12_63⟩⟩, ⟨⟨dX12_owing_21, rfl⟩, rfl⟩, ⟨⟨dX12_owing_24, rfl⟩, rfl⟩, ⟨⟨dX12_owing_25, rfl⟩, rfl⟩, ⟨⟨dX12_owing_28, rfl⟩, rfl⟩, ⟨⟨dX12_owing_29, rfl⟩, rfl⟩, ⟨⟨dX12_owing_30, rfl⟩, Or.inr ⟨by decide, ⟨_, my_30, sX12_75⟩, fun q => absurd q (by decide)⟩⟩, ⟨⟨dX12_owing_33, rfl⟩, rfl⟩, ⟨⟨dX12_owing_36, rfl⟩, rfl⟩, ⟨⟨dX12_owing_37, rfl⟩, rfl⟩, ⟨⟨dX12_owing_40, rfl⟩, rfl⟩, ⟨⟨dX12_owing_41, rfl⟩, Or.inl ⟨by decide, _, _, fX12_27⟩⟩, trivial⟩,
  ⟨⟨⟨dX12_owing_44, rfl⟩, rfl⟩, ⟨⟨dX12_owing_47, rfl⟩, rfl⟩, ⟨⟨dX12_owing_48, rfl⟩, rfl⟩, ⟨⟨dX12_owing_49, rfl⟩, trivial⟩, ⟨⟨dX12_owing_50, rfl⟩, trivial⟩, ⟨⟨dX12_owing_51, rfl⟩, trivial⟩, ⟨⟨dX12_owing_52, rfl⟩, Or.inl ⟨rfl, rfl⟩⟩, trivial⟩, trivial⟩, by decide, Or.inl ⟨rfl, by decide, rfl⟩⟩
set_option maxRecDepth 100000 in
theorem g_X12_owing_0 (S : sT) (call : cT) (n : Nat) (a0 : Nat) (x1 : Int32) (h : pH) : bd S call dflT E_X12_owing (n + 1) 0 [some (.ref a0), some (.int x1)] [] h = (pF h (.ref a0) 15 0 (.int 0) (fun h1 => gV h1 (.ref a0) 15 1 (fun w2 => aI h1 w2 0 1948 (fun y3 => cI (call 28 [.int x1, .int 0, .int (y3 - 1)] h1) (fun y5 h4 => (if y5 = 0 then bd S call dflT E_X12_owing n 29 [some (.ref a0), some (.int x1)] [.int 1, .ref a0] h4 else bd S call dflT E_X12_owing n 29 [some (.ref a0), some (.int x1)] [.int 0, .ref a0] h4)))))) := rfl
set_option maxRecDepth 100000 in
theorem g_X12_owing_29 (S : sT) (call : cT) (n : Nat) (a0 : Nat) (x1 : Int32) (u0 : Value) (y1 : Int32) (h : pH) : bd S call dflT E_X12_owing (n + 1) 29 [some (.ref a0), some (.int x1)] [.int y1, u0] h = (rC h u0 15 (cI (call 30 [u0, .int y1, .int 1] h) (fun y2 h1 => (if y2 = 0 then gV h1 (.ref a0) 15 1 (fun w3 => aI h1 w3 0 (1949 + (4 * x1)) (fun y4 => some (.inl (some (.int y4)), h1))) else some (.inl (some (.int 0)), h1))))) := rfl
theorem dX12_work_0 : decode cX12_work 0 = .ok (.aload_n 0, 1) := by decide +kernel
theorem dX12_work_1 : decode cX12_work 1 = .ok (.iconst 0, 1) := by decide +kernel
theorem dX12_work_2 : decode cX12_work 2 = .ok (.putfield 3, 3) := by decide +kernel
theorem dX12_work_5 : decode cX12_work 5 = .ok (.aload_n 0, 1) := by decide +kernel
theorem dX12_work_6 : decode cX12_work 6 = .ok (.iload_n 1, 1) := by decide +kernel
theorem dX12_work_7 : decode cX12_work 7 = .ok (.invokestatic 71, 3) := by decide +kernel
theorem dX12_work_10 : decode cX12_work 10 = .ok (.iconst 1, 1) := by decide +kernel
theorem dX12_work_11 : decode cX12_work 11 = .ok (.invokevirtual 75, 3) := by decide +kernel
theorem dX12_work_14 : decode cX12_work 14 = .ok (.ifCond .ne 14, 3) := by decide +kernel
theorem dX12_work_17 : decode cX12_work 17 = .ok (.aload_n 0, 1) := by decide +kernel
theorem dX12_work_18 : decode cX12_work 18 = .ok (.iload_n 1, 1) := by decide +kernel
theorem dX12_work_19 : decode cX12_work 19 = .ok (.bipush 11, 2) := by decide +kernel
theorem dX12_work_21 : decode cX12_work 21 = .ok (.invokevirtual 79, 3) := by decide +kernel
theorem dX12_work_24 : decode cX12_work 24 = .ok (.iconst 1, 1) := by decide +kernel
theorem dX12_work_25 : decode cX12_work 25 = .ok (.if_icmp .ne 5, 3) := by decide +kernel
theorem dX12_work_28 : decode cX12_work 28 = .ok (.iconst 0, 1) := by decide +kernel
theorem dX12_work_29 : decode cX12_work 29 = .ok (.ireturn, 1) := by decide +kernel
theorem dX12_work_30 : decode cX12_work 30 = .ok (.iload_n 2, 1) := by decide +kernel
theorem dX12_work_31 : decode cX12_work 31 = .ok (.ifCond .eq 8, 3) := by decide +kernel
theorem dX12_work_34 : decode cX12_work 34 = .ok (.bipush 8, 2) := by decide +kernel
theorem dX12_work_36 : decode cX12_work 36 = .ok (.goto 5, 3) := by decide +kernel
theorem dX12_work_39 : decode cX12_work 39 = .ok (.bipush 30, 2) := by decide +kernel
theorem dX12_work_41 : decode cX12_work 41 = .ok (.istore_n 3, 1) := by decide +kernel
theorem dX12_work_42 : decode cX12_work 42 = .ok (.iload_n 3, 1) := by decide +kernel
theorem dX12_work_43 : decode cX12_work 43 = .ok (.aload_n 0, 1) := by decide +kernel
theorem dX12_work_44 : decode cX12_work 44 = .ok (.iload_n 2, 1) := by decide +kernel
theorem dX12_work_45 : decode cX12_work 45 = .ok (.ifCond .eq 7, 3) := by decide +kernel
theorem dX12_work_48 : decode cX12_work 48 = .ok (.iconst 0, 1) := by decide +kernel
theorem dX12_work_49 : decode cX12_work 49 = .ok (.goto 4, 3) := by decide +kernel
theorem dX12_work_52 : decode cX12_work 52 = .ok (.iconst 1, 1) := by decide +kernel
theorem dX12_work_53 : decode cX12_work 53 = .ok (.invokevirtual 342, 3) := by decide +kernel
theorem dX12_work_56 : decode cX12_work 56 = .ok (.imul, 1) := by decide +kernel
theorem dX12_work_57 : decode cX12_work 57 = .ok (.bipush 100, 2) := by decide +kernel
theorem dX12_work_59 : decode cX12_work 59 = .ok (.idiv, 1) := by decide +kernel
theorem dX12_work_60 : decode cX12_work 60 = .ok (.istore 4, 2) := by decide +kernel
theorem dX12_work_62 : decode cX12_work 62 = .ok (.iload_n 3, 1) := by decide +kernel
theorem dX12_work_63 : decode cX12_work 63 = .ok (.iload 4, 2) := by decide +kernel
theorem dX12_work_65 : decode cX12_work 65 = .ok (.isub, 1) := by decide +kernel
theorem dX12_work_66 : decode cX12_work 66 = .ok (.istore 5, 2) := by decide +kernel
theorem dX12_work_68 : decode cX12_work 68 = .ok (.iload 4, 2) := by decide +kernel
theorem dX12_work_70 : decode cX12_work 70 = .ok (.ifCond .le 14, 3) := by decide +kernel
theorem dX12_work_73 : decode cX12_work 73 = .ok (.aload_n 0, 1) := by decide +kernel
theorem dX12_work_74 : decode cX12_work 74 = .ok (.getfield 27, 3) := by decide +kernel
theorem dX12_work_77 : decode cX12_work 77 = .ok (.iconst 2, 1) := by decide +kernel
theorem dX12_work_78 : decode cX12_work 78 = .ok (.iaload, 1) := by decide +kernel
theorem dX12_work_79 : decode cX12_work 79 = .ok (.iload 4, 2) := by decide +kernel
theorem dX12_work_81 : decode cX12_work 81 = .ok (.if_icmp .lt 19, 3) := by decide +kernel
theorem dX12_work_84 : decode cX12_work 84 = .ok (.iload 5, 2) := by decide +kernel
theorem dX12_work_86 : decode cX12_work 86 = .ok (.ifCond .le 16, 3) := by decide +kernel
theorem dX12_work_89 : decode cX12_work 89 = .ok (.aload_n 0, 1) := by decide +kernel
theorem dX12_work_90 : decode cX12_work 90 = .ok (.getfield 27, 3) := by decide +kernel
theorem dX12_work_93 : decode cX12_work 93 = .ok (.iconst 1, 1) := by decide +kernel
theorem dX12_work_94 : decode cX12_work 94 = .ok (.iaload, 1) := by decide +kernel
theorem dX12_work_95 : decode cX12_work 95 = .ok (.iload 5, 2) := by decide +kernel
theorem dX12_work_97 : decode cX12_work 97 = .ok (.if_icmp .ge 5, 3) := by decide +kernel
theorem dX12_work_100 : decode cX12_work 100 = .ok (.iconst 0, 1) := by decide +kernel
theorem dX12_work_101 : decode cX12_work 101 = .ok (.ireturn, 1) := by decide +kernel
theorem dX12_work_102 : decode cX12_work 102 = .ok (.aload_n 0, 1) := by decide +kernel
theorem dX12_work_103 : decode cX12_work 103 = .ok (.iload 4, 2) := by decide +kernel
theorem dX12_work_105 : decode cX12_work 105 = .ok (.ineg, 1) := by decide +kernel
theorem dX12_work_106 : decode cX12_work 106 = .ok (.i2l, 1) := by decide +kernel
theorem dX12_work_107 : decode cX12_work 107 = .ok (.invokevirtual 351, 3) := by decide +kernel
theorem dX12_work_110 : decode cX12_work 110 = .ok (.aload_n 0, 1) := by decide +kernel
theorem dX12_work_111 : decode cX12_work 111 = .ok (.iload 5, 2) := by decide +kernel
theorem dX12_work_113 : decode cX12_work 113 = .ok (.ineg, 1) := by decide +kernel
theorem dX12_work_114 : decode cX12_work 114 = .ok (.i2l, 1) := by decide +kernel
theorem dX12_work_115 : decode cX12_work 115 = .ok (.invokevirtual 355, 3) := by decide +kernel
theorem dX12_work_118 : decode cX12_work 118 = .ok (.aload_n 0, 1) := by decide +kernel
theorem dX12_work_119 : decode cX12_work 119 = .ok (.getfield 27, 3) := by decide +kernel
theorem dX12_work_122 : decode cX12_work 122 = .ok (.iload_n 1, 1) := by decide +kernel
theorem dX12_work_123 : decode cX12_work 123 = .ok (.iload_n 2, 1) := by decide +kernel
theorem dX12_work_124 : decode cX12_work 124 = .ok (.ifCond .eq 7, 3) := by decide +kernel
theorem dX12_work_127 : decode cX12_work 127 = .ok (.iconst 5, 1) := by decide +kernel
theorem dX12_work_128 : decode cX12_work 128 = .ok (.goto 4, 3) := by decide +kernel
theorem dX12_work_131 : decode cX12_work 131 = .ok (.iconst 4, 1) := by decide +kernel
theorem dX12_work_132 : decode cX12_work 132 = .ok (.invokestatic 59, 3) := by decide +kernel
theorem dX12_work_135 : decode cX12_work 135 = .ok (.iload_n 2, 1) := by decide +kernel
theorem dX12_work_136 : decode cX12_work 136 = .ok (.ifCond .eq 8, 3) := by decide +kernel
theorem dX12_work_139 : decode cX12_work 139 = .ok (.bipush 6, 2) := by decide +kernel
theorem dX12_work_141 : decode cX12_work 141 = .ok (.goto 5, 3) := by decide +kernel
theorem dX12_work_144 : decode cX12_work 144 = .ok (.bipush 20, 2) := by decide +kernel
theorem dX12_work_146 : decode cX12_work 146 = .ok (.iastore, 1) := by decide +kernel
theorem dX12_work_147 : decode cX12_work 147 = .ok (.iconst 1, 1) := by decide +kernel
theorem dX12_work_148 : decode cX12_work 148 = .ok (.ireturn, 1) := by decide +kernel
noncomputable def E_X12_work : mE := (mX12_work, [(42, [(0, (.aload_n 0, 1, false, false, 0, 0, 0, 0, 0, 0, [])), (1, (.iconst 0, 2, false, false, 0, 0, 0, 0, 0, 0, [])), (2, (.putfield 3, 5, false, false, 15, 0, 0, 0, 0, 0, [])), (5, (.aload_n 0, 6, false, false, 0, 0, 0, 0, 0, 0, [])), (6, (.iload_n 1, 7, false, false, 1, 0, 0, 0, 0, 0, [])), (7, (.invokestatic 71, 10, false, false, 29, 1, 1, 0, 0, 0, [])), (10, (.iconst 1, 11, false, false, 0, 0, 0, 0, 1, 0, [])), (11, (.invokevirtual 75, 14, false, false, 30, 2, 1, 15, 0, 0, [])), (14, (.ifCond .ne 14, 17, false, false, 28, 0, 0, 0, 0, 0, [])), (17, (.aload_n 0, 18, false, false, 0, 0, 0, 0, 0, 0, [])), (18, (.iload_n 1, 19, false, false, 1, 0, 0, 0, 0, 0, [])), (19, (.bipush 11, 21, false, false, 0, 0, 0, 0, 11, 0, [])), (21, (.invokevirtual 79, 24, false, false, 31, 2, 1, 15, 0, 0, [])), (24, (.iconst 1, 25, false, false, 0, 0, 0, 0, 1, 0, [])), (25, (.if_icmp .ne 5, 28, false, false, 30, 0, 0, 0, 0, 0, [])), (28, (.iconst 0, 29, false, false, 0, 0, 0, 0, 0, 0, [])), (29, (.ireturn, 30, false, false, 0, 0, 1, 0, 0, 0, [])), (30, (.iload_n 2, 31, false, false, 2, 0, 0, 0, 0, 0, [])), (31, (.ifCond .eq 8, 34, false, false, 39, 0, 0, 0, 0, 0, [])), (34, (.bipush 8, 36, false, false, 0, 0, 0, 0, 8, 0, [])), (36, (.goto 5, 39, false, false, 41, 0, 0, 0, 0, 0, [])), (39, (.bipush 30, 41, false, false, 0, 0, 0, 0, 30, 0, [])), (41, (.istore_n 3, 42, false, false, 3, 0, 0, 0, 0, 0, [])), (42, (.iload_n 3, 43, false, false, 3, 0, 0, 0, 0, 0, []))]),
  (84, [(43, (.aload_n 0, 44, false, false, 0, 0, 0, 0, 0, 0, [])), (44, (.iload_n 2, 45, false, false, 2, 0, 0, 0, 0, 0, [])), (45, (.ifCond .eq 7, 48, false, false, 52, 0, 0, 0, 0, 0, [])), (48, (.iconst 0, 49, false, false, 0, 0, 0, 0, 0, 0, [])), (49, (.goto 4, 52, false, true, 53, 0, 0, 0, 0, 0, [])), (52, (.iconst 1, 53, true, false, 0, 0, 0, 0, 1, 0, [])), (53, (.invokevirtual 342, 56, false, false, 247, 1, 1, 15, 0, 0, [])), (56, (.imul, 57, false, false, 0, 0, 0, 0, 0, 0, [])), (57, (.bipush 100, 59, false, false, 0, 0, 0, 0, 100, 0, [])), (59, (.idiv, 60, false, false, 0, 0, 0, 0, 0, 0, [])), (60, (.istore 4, 62, false, false, 4, 0, 0, 0, 0, 0, [])), (62, (.iload_n 3, 63, false, false, 3, 0, 0, 0, 0, 0, [])), (63, (.iload 4, 65, false, false, 4, 0, 0, 0, 0, 0, [])), (65, (.isub, 66, false, false, 0, 0, 0, 0, 0, 0, [])), (66, (.istore 5, 68, false, false, 5, 0, 0, 0, 0, 0, [])), (68, (.iload 4, 70, false, false, 4, 0, 0, 0, 0, 0, [])), (70, (.ifCond .le 14, 73, false, false, 84, 0, 0, 0, 0, 0, [])), (73, (.aload_n 0, 74, false, false, 0, 0, 0, 0, 0, 0, [])), (74, (.getfield 27, 77, false, false, 15, 1, 1, 0, 0, 0, [])), (77, (.iconst 2, 78, false, false, 0, 0, 0, 0, 2, 0, [])), (78, (.iaload, 79, false, false, 0, 0, 0, 0, 0, 0, [])), (79, (.iload 4, 81, false, false, 4, 0, 0, 0, 0, 0, [])), (81, (.if_icmp .lt 19, 84, false, false, 100, 0, 0, 0, 0, 0, [])), (84, (.iload 5, 86, false, false, 5, 0, 0, 0, 0, 0, []))]),
  (124, [(86, (.ifCond .le 16, 89, false, true, 102, 0, 0, 0, 0, 0, [])), (89, (.aload_n 0, 90, false, false, 0, 0, 0, 0, 0, 0, [])), (90, (.getfield 27, 93, false, false, 15, 1, 1, 0, 0, 0, [])), (93, (.iconst 1, 94, false, false, 0, 0, 0, 0, 1, 0, [])), (94, (.iaload, 95, false, false, 0, 0, 0, 0, 0, 0, [])), (95, (.iload 5, 97, false, false, 5, 0, 0, 0, 0, 0, [])), (97, (.if_icmp .ge 5, 100, false, true, 102, 0, 0, 0, 0, 0, [])), (100, (.iconst 0, 101, false, false, 0, 0, 0, 0, 0, 0, [])), (101, (.ireturn, 102, false, false, 0, 0, 1, 0, 0, 0, [])), (102, (.aload_n 0, 103, false, false, 0, 0, 0, 0, 0, 0, [])), (103, (.iload 4, 105, false, false, 4, 0, 0, 0, 0, 0, [])), (105, (.ineg, 106, false, false, 0, 0, 0, 0, 0, 0, [])), (106, (.i2l, 107, false, false, 0, 0, 0, 0, 0, 0, [])), (107, (.invokevirtual 351, 110, false, false, 248, 1, 0, 15, 0, 0, [])), (110, (.aload_n 0, 111, false, false, 0, 0, 0, 0, 0, 0, [])), (111, (.iload 5, 113, false, false, 5, 0, 0, 0, 0, 0, [])), (113, (.ineg, 114, false, false, 0, 0, 0, 0, 0, 0, [])), (114, (.i2l, 115, false, false, 0, 0, 0, 0, 0, 0, [])), (115, (.invokevirtual 355, 118, false, false, 235, 1, 0, 15, 0, 0, [])), (118, (.aload_n 0, 119, false, false, 0, 0, 0, 0, 0, 0, [])), (119, (.getfield 27, 122, false, false, 15, 1, 1, 0, 0, 0, [])), (122, (.iload_n 1, 123, false, false, 1, 0, 0, 0, 0, 0, [])), (123, (.iload_n 2, 124, false, false, 2, 0, 0, 0, 0, 0, [])), (124, (.ifCond .eq 7, 127, false, false, 131, 0, 0, 0, 0, 0, []))]),
  (148, [(127, (.iconst 5, 128, false, false, 0, 0, 0, 0, 5, 0, [])), (128, (.goto 4, 131, false, false, 132, 0, 0, 0, 0, 0, [])), (131, (.iconst 4, 132, false, false, 0, 0, 0, 0, 4, 0, [])), (132, (.invokestatic 59, 135, false, false, 12, 2, 1, 0, 0, 0, [])), (135, (.iload_n 2, 136, false, false, 2, 0, 0, 0, 0, 0, [])), (136, (.ifCond .eq 8, 139, false, false, 144, 0, 0, 0, 0, 0, [])), (139, (.bipush 6, 141, false, false, 0, 0, 0, 0, 6, 0, [])), (141, (.goto 5, 144, false, false, 146, 0, 0, 0, 0, 0, [])), (144, (.bipush 20, 146, false, false, 0, 0, 0, 0, 20, 0, [])), (146, (.iastore, 147, false, false, 0, 0, 0, 0, 0, 0, [])), (147, (.iconst 1, 148, false, false, 0, 0, 0, 0, 1, 0, [])), (148, (.ireturn, 149, false, false, 0, 0, 1, 0, 0, 0, []))])], 0, [])
set_option maxRecDepth 100000 in
theorem v_X12_work : VE MYT dflT E_X12_work := ⟨⟨⟨⟨⟨dX12_work_0, rfl⟩, rfl⟩, ⟨⟨dX12_work_1, rfl⟩, rfl⟩, ⟨⟨dX12_work_2, rfl⟩, Or.inl ⟨rfl, fX12_3⟩⟩, ⟨⟨dX12_work_5, rfl⟩, rfl⟩, ⟨⟨dX12_work_6, rfl⟩, rfl⟩, ⟨⟨dX12_work_7, rfl⟩, Or.inl ⟨rfl, _, my_29, sX12_71⟩⟩, ⟨⟨dX12_work_10, rfl⟩, rfl⟩, ⟨⟨dX12_work_11, rfl⟩, Or.inr ⟨by decide, ⟨_, my_30, sX12_75⟩, fun q => absurd q (by decide)⟩⟩, ⟨⟨dX12_work_14, rfl⟩, rfl⟩, ⟨⟨dX12_work_17, rfl⟩, rfl⟩, ⟨⟨dX12_work_18, rfl⟩, rfl⟩, ⟨⟨dX12_work_19, rfl⟩, rfl⟩, ⟨⟨dX12_work_21, rfl⟩, Or.inr ⟨by decide, ⟨_, my_31, sX12_79⟩, fun q => absurd q (by decide)⟩⟩, ⟨⟨dX12_work_24, rfl⟩, rfl⟩, ⟨⟨dX12_work_25, rfl⟩, rfl⟩, ⟨⟨dX12_work_28, rfl⟩, rfl⟩, ⟨⟨dX12_work_29, rfl⟩, Or.inr (Or.inl ⟨rfl, rfl⟩)⟩, ⟨⟨dX12_work_30, rfl⟩, rfl⟩, ⟨⟨dX12_work_31, rfl⟩, rfl⟩, ⟨⟨dX12_work_34, rfl⟩, rfl⟩, ⟨⟨dX12_work_36, rfl⟩, rfl⟩, ⟨⟨dX12_work_39, rfl⟩, rfl⟩, ⟨⟨dX12_work_41, rfl⟩, rfl⟩, ⟨⟨dX12_work_42, rfl⟩, rfl⟩, trivial⟩,
  ⟨⟨⟨dX12_work_43, rfl⟩, rfl⟩, ⟨⟨dX12_work_44, rfl⟩, rfl⟩, ⟨⟨dX12_work_45, rfl⟩, rfl⟩, ⟨⟨dX12_work_48, rfl⟩, rfl⟩, ⟨⟨dX12_work_49, rfl⟩, rfl⟩, ⟨⟨dX12_work_52, rfl⟩, rfl⟩, ⟨⟨dX12_work_53, rfl⟩, Or.inr ⟨by decide, ⟨_, my_247, sX12_342⟩, fun q => absurd q (by decide)⟩⟩, ⟨⟨dX12_work_56, rfl⟩, trivial⟩, ⟨⟨dX12_work_57, rfl⟩, rfl⟩, ⟨⟨dX12_work_59, rfl⟩, trivial⟩, ⟨⟨dX12_work_60, rfl⟩, rfl⟩, ⟨⟨dX12_work_62, rfl⟩, rfl⟩, ⟨⟨dX12_work_63, rfl⟩, rfl⟩, ⟨⟨dX12_work_65, rfl⟩, trivial⟩, ⟨⟨dX12_work_66, rfl⟩, rfl⟩, ⟨⟨dX12_work_68, rfl⟩, rfl⟩, ⟨⟨dX12_work_70, rfl⟩, rfl⟩, ⟨⟨dX12_work_73, rfl⟩, rfl⟩, ⟨⟨dX12_work_74, rfl⟩, Or.inl ⟨by decide, _, _, fX12_27⟩⟩, ⟨⟨dX12_work_77, rfl⟩, rfl⟩, ⟨⟨dX12_work_78, rfl⟩, trivial⟩, ⟨⟨dX12_work_79, rfl⟩, rfl⟩, ⟨⟨dX12_work_81, rfl⟩, rfl⟩, ⟨⟨dX12_work_84, rfl⟩, rfl⟩, trivial⟩,
  ⟨⟨⟨dX12_work_86, rfl⟩, rfl⟩, ⟨⟨dX12_work_89, rfl⟩, rfl⟩, ⟨⟨dX12_work_90, rfl⟩, Or.inl ⟨by decide, _, _, fX12_27⟩⟩, ⟨⟨dX12_work_93, rfl⟩, rfl⟩, ⟨⟨dX12_work_94, rfl⟩, trivial⟩, ⟨⟨dX12_work_95, rfl⟩, rfl⟩, ⟨⟨dX12_work_97, rfl⟩, rfl⟩, ⟨⟨dX12_work_100, rfl⟩, rfl⟩, ⟨⟨dX12_work_101, rfl⟩, Or.inr (Or.inl ⟨rfl, rfl⟩)⟩, ⟨⟨dX12_work_102, rfl⟩, rfl⟩, ⟨⟨dX12_work_103, rfl⟩, rfl⟩, ⟨⟨dX12_work_105, rfl⟩, trivial⟩, ⟨⟨dX12_work_106, rfl⟩, trivial⟩, ⟨⟨dX12_work_107, rfl⟩, Or.inr ⟨by decide, ⟨_, my_248, sX12_351⟩, fun q => absurd q (by decide)⟩⟩, ⟨⟨dX12_work_110, rfl⟩, rfl⟩, ⟨⟨dX12_work_111, rfl⟩, rfl⟩, ⟨⟨dX12_work_113, rfl⟩, trivial⟩, ⟨⟨dX12_work_114, rfl⟩, trivial⟩, ⟨⟨dX12_work_115, rfl⟩, Or.inr ⟨by decide, ⟨_, my_235, sX12_355⟩, fun q => absurd q (by decide)⟩⟩, ⟨⟨dX12_work_118, rfl⟩, rfl⟩, ⟨⟨dX12_work_119, rfl⟩, Or.inl ⟨by decide, _, _, fX12_27⟩⟩, ⟨⟨dX12_work_122, rfl⟩, rfl⟩, ⟨⟨dX12_work_123, rfl⟩, rfl⟩, ⟨⟨dX12_work_124, rfl⟩, rfl⟩, trivial⟩,
  ⟨⟨⟨dX12_work_127, rfl⟩, rfl⟩, ⟨⟨dX12_work_128, rfl⟩, rfl⟩, ⟨⟨dX12_work_131, rfl⟩, rfl⟩, ⟨⟨dX12_work_132, rfl⟩, Or.inl ⟨rfl, _, my_12, sX12_59⟩⟩, ⟨⟨dX12_work_135, rfl⟩, rfl⟩, ⟨⟨dX12_work_136, rfl⟩, rfl⟩, ⟨⟨dX12_work_139, rfl⟩, rfl⟩, ⟨⟨dX12_work_141, rfl⟩, rfl⟩, ⟨⟨dX12_work_144, rfl⟩, rfl⟩, ⟨⟨dX12_work_146, rfl⟩, trivial⟩, ⟨⟨dX12_work_147, rfl⟩, rfl⟩, ⟨⟨dX12_work_148, rfl⟩, Or.inr (Or.inl ⟨rfl, rfl⟩)⟩, trivial⟩, trivial⟩, by decide, Or.inl ⟨rfl, by decide, rfl⟩⟩
set_option maxRecDepth 100000 in
theorem g_X12_work_0 (S : sT) (call : cT) (n : Nat) (a0 : Nat) (x1 : Int32) (x2 : Int32) (h : pH) : bd S call dflT E_X12_work (n + 1) 0 [some (.ref a0), some (.int x1), some (.int x2), none, none, none] [] h = (pF h (.ref a0) 15 0 (.int 0) (fun h1 => cI (call 29 [.int x1] h1) (fun y3 h2 => rC h2 (.ref a0) 15 (cI (call 30 [.ref a0, .int y3, .int 1] h2) (fun y5 h4 => (if y5 = 0 then rC h4 (.ref a0) 15 (cI (call 31 [.ref a0, .int x1, .int 11] h4) (fun y7 h6 => (if y7 = 1 then zR 0 (some (.inl (some (.int 0)), h6)) else (if x2 = 0 then (if x2 = 0 then bd S call dflT E_X12_work n 53 [some (.ref a0), some (.int x1), some (.int x2), some (.int 30), none, none] [.int 1, .ref a0, .int 30] h6 else bd S call dflT E_X12_work n 53 [some (.ref a0), some (.int x1), some (.int x2), some (.int 30), none, none] [.int 0, .ref a0, .int 30] h6) else (if x2 = 0 then bd S call dflT E_X12_work n 53 [some (.ref a0), some (.int x1), some (.int x2), some (.int 8), none, none] [.int 1, .ref a0, .int 8] h6 else bd S call dflT E_X12_work n 53 [some (.ref a0), some (.int x1), some (.int x2), some (.int 8), none, none] [.int 0, .ref a0, .int 8] h6))))) else zR 0 (some (.inl (some (.int 0)), h4)))))))) := rfl
set_option maxRecDepth 100000 in
theorem g_X12_work_53 (S : sT) (call : cT) (n : Nat) (a0 : Nat) (x1 : Int32) (x2 : Int32) (x3 : Int32) (o4 : Option Value) (o5 : Option Value) (y0 : Int32) (u1 : Value) (y2 : Int32) (h : pH) : bd S call dflT E_X12_work (n + 1) 53 [some (.ref a0), some (.int x1), some (.int x2), some (.int x3), o4, o5] [.int y2, u1, .int y0] h = (rC h u1 15 (cI (call 247 [u1, .int y2] h) (fun y2 h1 => dv 100 ((if ((y0 * y2) / 100) ≤ 0 then (if (x3 - ((y0 * y2) / 100)) ≤ 0 then bd S call dflT E_X12_work n 102 [some (.ref a0), some (.int x1), some (.int x2), some (.int x3), some (.int ((y0 * y2) / 100)), some (.int (x3 - ((y0 * y2) / 100)))] [] h1 else gV h1 (.ref a0) 15 1 (fun w3 => aI h1 w3 0 1 (fun y4 => (if (x3 - ((y0 * y2) / 100)) ≤ y4 then bd S call dflT E_X12_work n 102 [some (.ref a0), some (.int x1), some (.int x2), some (.int x3), some (.int ((y0 * y2) / 100)), some (.int (x3 - ((y0 * y2) / 100)))] [] h1 else zR 0 (some (.inl (some (.int 0)), h1)))))) else gV h1 (.ref a0) 15 1 (fun w5 => aI h1 w5 0 2 (fun y6 => (if y6 < ((y0 * y2) / 100) then zR 0 (some (.inl (some (.int 0)), h1)) else (if (x3 - ((y0 * y2) / 100)) ≤ 0 then bd S call dflT E_X12_work n 102 [some (.ref a0), some (.int x1), some (.int x2), some (.int x3), some (.int ((y0 * y2) / 100)), some (.int (x3 - ((y0 * y2) / 100)))] [] h1 else gV h1 (.ref a0) 15 1 (fun w7 => aI h1 w7 0 1 (fun y8 => (if (x3 - ((y0 * y2) / 100)) ≤ y8 then bd S call dflT E_X12_work n 102 [some (.ref a0), some (.int x1), some (.int x2), some (.int x3), some (.int ((y0 * y2) / 100)), some (.int (x3 - ((y0 * y2) / 100)))] [] h1 else zR 0 (some (.inl (some (.int 0)), h1)))))))))))))) := rfl
set_option maxRecDepth 100000 in
theorem g_X12_work_102 (S : sT) (call : cT) (n : Nat) (a0 : Nat) (x1 : Int32) (x2 : Int32) (x3 : Int32) (x4 : Int32) (x5 : Int32) (h : pH) : bd S call dflT E_X12_work (n + 1) 102 [some (.ref a0), some (.int x1), some (.int x2), some (.int x3), some (.int x4), some (.int x5)] [] h = (rC h (.ref a0) 15 (cU (call 248 [.ref a0, .long (-x4).toInt64] h) (fun h1 => rC h1 (.ref a0) 15 (cU (call 235 [.ref a0, .long (-x5).toInt64] h1) (fun h2 => gV h2 (.ref a0) 15 1 (fun w3 => (if x2 = 0 then cI (call 12 [.int x1, .int 4] h2) (fun y5 h4 => (if x2 = 0 then sI h4 w3 0 y5 20 (fun h6 => zR 1 (some (.inl (some (.int 1)), h6))) else sI h4 w3 0 y5 6 (fun h7 => zR 1 (some (.inl (some (.int 1)), h7))))) else cI (call 12 [.int x1, .int 5] h2) (fun y9 h8 => (if x2 = 0 then sI h8 w3 0 y9 20 (fun h10 => zR 1 (some (.inl (some (.int 1)), h10))) else sI h8 w3 0 y9 6 (fun h11 => zR 1 (some (.inl (some (.int 1)), h11)))))))))))) := rfl
theorem dX12_sell_0 : decode cX12_sell 0 = .ok (.aload_n 0, 1) := by decide +kernel
theorem dX12_sell_1 : decode cX12_sell 1 = .ok (.iconst 0, 1) := by decide +kernel
theorem dX12_sell_2 : decode cX12_sell 2 = .ok (.putfield 3, 3) := by decide +kernel
theorem dX12_sell_5 : decode cX12_sell 5 = .ok (.aload_n 0, 1) := by decide +kernel
theorem dX12_sell_6 : decode cX12_sell 6 = .ok (.iload_n 1, 1) := by decide +kernel
theorem dX12_sell_7 : decode cX12_sell 7 = .ok (.invokestatic 71, 3) := by decide +kernel
theorem dX12_sell_10 : decode cX12_sell 10 = .ok (.iconst 1, 1) := by decide +kernel
theorem dX12_sell_11 : decode cX12_sell 11 = .ok (.invokevirtual 75, 3) := by decide +kernel
theorem dX12_sell_14 : decode cX12_sell 14 = .ok (.ifCond .ne 24, 3) := by decide +kernel
theorem dX12_sell_17 : decode cX12_sell 17 = .ok (.aload_n 0, 1) := by decide +kernel
theorem dX12_sell_18 : decode cX12_sell 18 = .ok (.iload_n 1, 1) := by decide +kernel
theorem dX12_sell_19 : decode cX12_sell 19 = .ok (.bipush 11, 2) := by decide +kernel
theorem dX12_sell_21 : decode cX12_sell 21 = .ok (.invokevirtual 79, 3) := by decide +kernel
theorem dX12_sell_24 : decode cX12_sell 24 = .ok (.iconst 1, 1) := by decide +kernel
theorem dX12_sell_25 : decode cX12_sell 25 = .ok (.if_icmp .eq 13, 3) := by decide +kernel
theorem dX12_sell_28 : decode cX12_sell 28 = .ok (.aload_n 0, 1) := by decide +kernel
theorem dX12_sell_29 : decode cX12_sell 29 = .ok (.iload_n 1, 1) := by decide +kernel
theorem dX12_sell_30 : decode cX12_sell 30 = .ok (.bipush 10, 2) := by decide +kernel
theorem dX12_sell_32 : decode cX12_sell 32 = .ok (.invokevirtual 79, 3) := by decide +kernel
theorem dX12_sell_35 : decode cX12_sell 35 = .ok (.ifCond .lt 16, 3) := by decide +kernel
theorem dX12_sell_38 : decode cX12_sell 38 = .ok (.aload_n 0, 1) := by decide +kernel
theorem dX12_sell_39 : decode cX12_sell 39 = .ok (.getfield 3, 3) := by decide +kernel
theorem dX12_sell_42 : decode cX12_sell 42 = .ok (.ifCond .eq 7, 3) := by decide +kernel
theorem dX12_sell_45 : decode cX12_sell 45 = .ok (.iconst 0, 1) := by decide +kernel
theorem dX12_sell_46 : decode cX12_sell 46 = .ok (.goto 4, 3) := by decide +kernel
theorem dX12_sell_49 : decode cX12_sell 49 = .ok (.iconst (-1), 1) := by decide +kernel
theorem dX12_sell_50 : decode cX12_sell 50 = .ok (.ireturn, 1) := by decide +kernel
theorem dX12_sell_51 : decode cX12_sell 51 = .ok (.aload_n 0, 1) := by decide +kernel
theorem dX12_sell_52 : decode cX12_sell 52 = .ok (.bipush 13, 2) := by decide +kernel
theorem dX12_sell_54 : decode cX12_sell 54 = .ok (.iload_n 1, 1) := by decide +kernel
theorem dX12_sell_55 : decode cX12_sell 55 = .ok (.invokevirtual 336, 3) := by decide +kernel
theorem dX12_sell_58 : decode cX12_sell 58 = .ok (.ifCond .lt 7, 3) := by decide +kernel
theorem dX12_sell_61 : decode cX12_sell 61 = .ok (.iconst 1, 1) := by decide +kernel
theorem dX12_sell_62 : decode cX12_sell 62 = .ok (.goto 4, 3) := by decide +kernel
theorem dX12_sell_65 : decode cX12_sell 65 = .ok (.iconst 0, 1) := by decide +kernel
theorem dX12_sell_66 : decode cX12_sell 66 = .ok (.istore_n 3, 1) := by decide +kernel
theorem dX12_sell_67 : decode cX12_sell 67 = .ok (.iload_n 3, 1) := by decide +kernel
theorem dX12_sell_68 : decode cX12_sell 68 = .ok (.ifCond .ne 9, 3) := by decide +kernel
theorem dX12_sell_71 : decode cX12_sell 71 = .ok (.iload_n 2, 1) := by decide +kernel
theorem dX12_sell_72 : decode cX12_sell 72 = .ok (.ifCond .ne 5, 3) := by decide +kernel
theorem dX12_sell_75 : decode cX12_sell 75 = .ok (.iconst (-1), 1) := by decide +kernel
theorem dX12_sell_76 : decode cX12_sell 76 = .ok (.ireturn, 1) := by decide +kernel
theorem dX12_sell_77 : decode cX12_sell 77 = .ok (.aload_n 0, 1) := by decide +kernel
theorem dX12_sell_78 : decode cX12_sell 78 = .ok (.iload_n 1, 1) := by decide +kernel
theorem dX12_sell_79 : decode cX12_sell 79 = .ok (.invokevirtual 102, 3) := by decide +kernel
theorem dX12_sell_82 : decode cX12_sell 82 = .ok (.istore 4, 2) := by decide +kernel
theorem dX12_sell_84 : decode cX12_sell 84 = .ok (.aload_n 0, 1) := by decide +kernel
theorem dX12_sell_85 : decode cX12_sell 85 = .ok (.iconst 4, 1) := by decide +kernel
theorem dX12_sell_86 : decode cX12_sell 86 = .ok (.iload 4, 2) := by decide +kernel
theorem dX12_sell_88 : decode cX12_sell 88 = .ok (.invokevirtual 422, 3) := by decide +kernel
theorem dX12_sell_91 : decode cX12_sell 91 = .ok (.aload_n 0, 1) := by decide +kernel
theorem dX12_sell_92 : decode cX12_sell 92 = .ok (.getfield 27, 3) := by decide +kernel
theorem dX12_sell_95 : decode cX12_sell 95 = .ok (.iload_n 1, 1) := by decide +kernel
theorem dX12_sell_96 : decode cX12_sell 96 = .ok (.bipush 11, 2) := by decide +kernel
theorem dX12_sell_98 : decode cX12_sell 98 = .ok (.invokestatic 59, 3) := by decide +kernel
theorem dX12_sell_101 : decode cX12_sell 101 = .ok (.iconst 1, 1) := by decide +kernel
theorem dX12_sell_102 : decode cX12_sell 102 = .ok (.iastore, 1) := by decide +kernel
theorem dX12_sell_103 : decode cX12_sell 103 = .ok (.iload_n 3, 1) := by decide +kernel
theorem dX12_sell_104 : decode cX12_sell 104 = .ok (.ifCond .ne 10, 3) := by decide +kernel
theorem dX12_sell_107 : decode cX12_sell 107 = .ok (.aload_n 0, 1) := by decide +kernel
theorem dX12_sell_108 : decode cX12_sell 108 = .ok (.iconst 3, 1) := by decide +kernel
theorem dX12_sell_109 : decode cX12_sell 109 = .ok (.iload 4, 2) := by decide +kernel
theorem dX12_sell_111 : decode cX12_sell 111 = .ok (.invokevirtual 377, 3) := by decide +kernel
theorem dX12_sell_114 : decode cX12_sell 114 = .ok (.iload 4, 2) := by decide +kernel
theorem dX12_sell_116 : decode cX12_sell 116 = .ok (.ireturn, 1) := by decide +kernel
noncomputable def E_X12_sell : mE := (mX12_sell, [(45, [(0, (.aload_n 0, 1, false, false, 0, 0, 0, 0, 0, 0, [])), (1, (.iconst 0, 2, false, false, 0, 0, 0, 0, 0, 0, [])), (2, (.putfield 3, 5, false, false, 15, 0, 0, 0, 0, 0, [])), (5, (.aload_n 0, 6, false, false, 0, 0, 0, 0, 0, 0, [])), (6, (.iload_n 1, 7, false, false, 1, 0, 0, 0, 0, 0, [])), (7, (.invokestatic 71, 10, false, false, 29, 1, 1, 0, 0, 0, [])), (10, (.iconst 1, 11, false, false, 0, 0, 0, 0, 1, 0, [])), (11, (.invokevirtual 75, 14, false, false, 30, 2, 1, 15, 0, 0, [])), (14, (.ifCond .ne 24, 17, false, false, 38, 0, 0, 0, 0, 0, [])), (17, (.aload_n 0, 18, false, false, 0, 0, 0, 0, 0, 0, [])), (18, (.iload_n 1, 19, false, false, 1, 0, 0, 0, 0, 0, [])), (19, (.bipush 11, 21, false, false, 0, 0, 0, 0, 11, 0, [])), (21, (.invokevirtual 79, 24, false, false, 31, 2, 1, 15, 0, 0, [])), (24, (.iconst 1, 25, false, false, 0, 0, 0, 0, 1, 0, [])), (25, (.if_icmp .eq 13, 28, false, false, 38, 0, 0, 0, 0, 0, [])), (28, (.aload_n 0, 29, false, false, 0, 0, 0, 0, 0, 0, [])), (29, (.iload_n 1, 30, false, false, 1, 0, 0, 0, 0, 0, [])), (30, (.bipush 10, 32, false, false, 0, 0, 0, 0, 10, 0, [])), (32, (.invokevirtual 79, 35, false, false, 31, 2, 1, 15, 0, 0, [])), (35, (.ifCond .lt 16, 38, false, false, 51, 0, 0, 0, 0, 0, [])), (38, (.aload_n 0, 39, false, false, 0, 0, 0, 0, 0, 0, [])), (39, (.getfield 3, 42, false, false, 15, 0, 0, 0, 0, 0, [])), (42, (.ifCond .eq 7, 45, false, false, 49, 0, 0, 0, 0, 0, [])), (45, (.iconst 0, 46, false, false, 0, 0, 0, 0, 0, 0, []))]),
  (85, [(46, (.goto 4, 49, false, false, 50, 0, 0, 0, 0, 0, [])), (49, (.iconst (-1), 50, false, false, 0, 0, 0, 0, -1, 0, [])), (50, (.ireturn, 51, false, false, 0, 0, 0, 0, 0, 0, [])), (51, (.aload_n 0, 52, false, false, 0, 0, 0, 0, 0, 0, [])), (52, (.bipush 13, 54, false, false, 0, 0, 0, 0, 13, 0, [])), (54, (.iload_n 1, 55, false, false, 1, 0, 0, 0, 0, 0, [])), (55, (.invokevirtual 336, 58, false, false, 292, 2, 1, 15, 0, 0, [])), (58, (.ifCond .lt 7, 61, false, false, 65, 0, 0, 0, 0, 0, [])), (61, (.iconst 1, 62, false, false, 0, 0, 0, 0, 1, 0, [])), (62, (.goto 4, 65, false, false, 66, 0, 0, 0, 0, 0, [])), (65, (.iconst 0, 66, false, false, 0, 0, 0, 0, 0, 0, [])), (66, (.istore_n 3, 67, false, false, 3, 0, 0, 0, 0, 0, [])), (67, (.iload_n 3, 68, false, false, 3, 0, 0, 0, 0, 0, [])), (68, (.ifCond .ne 9, 71, false, true, 77, 0, 0, 0, 0, 0, [])), (71, (.iload_n 2, 72, false, false, 2, 0, 0, 0, 0, 0, [])), (72, (.ifCond .ne 5, 75, false, true, 77, 0, 0, 0, 0, 0, [])), (75, (.iconst (-1), 76, false, false, 0, 0, 0, 0, -1, 0, [])), (76, (.ireturn, 77, false, false, 0, 0, 0, 0, 0, 0, [])), (77, (.aload_n 0, 78, false, false, 0, 0, 0, 0, 0, 0, [])), (78, (.iload_n 1, 79, false, false, 1, 0, 0, 0, 0, 0, [])), (79, (.invokevirtual 102, 82, false, false, 262, 1, 1, 15, 0, 0, [])), (82, (.istore 4, 84, false, false, 4, 0, 0, 0, 0, 0, [])), (84, (.aload_n 0, 85, false, false, 0, 0, 0, 0, 0, 0, [])), (85, (.iconst 4, 86, false, false, 0, 0, 0, 0, 4, 0, []))]),
  (116, [(86, (.iload 4, 88, false, false, 4, 0, 0, 0, 0, 0, [])), (88, (.invokevirtual 422, 91, false, false, 249, 2, 0, 15, 0, 0, [])), (91, (.aload_n 0, 92, false, false, 0, 0, 0, 0, 0, 0, [])), (92, (.getfield 27, 95, false, false, 15, 1, 1, 0, 0, 0, [])), (95, (.iload_n 1, 96, false, false, 1, 0, 0, 0, 0, 0, [])), (96, (.bipush 11, 98, false, false, 0, 0, 0, 0, 11, 0, [])), (98, (.invokestatic 59, 101, false, false, 12, 2, 1, 0, 0, 0, [])), (101, (.iconst 1, 102, false, false, 0, 0, 0, 0, 1, 0, [])), (102, (.iastore, 103, false, false, 0, 0, 0, 0, 0, 0, [])), (103, (.iload_n 3, 104, false, false, 3, 0, 0, 0, 0, 0, [])), (104, (.ifCond .ne 10, 107, false, false, 114, 0, 0, 0, 0, 0, [])), (107, (.aload_n 0, 108, false, false, 0, 0, 0, 0, 0, 0, [])), (108, (.iconst 3, 109, false, false, 0, 0, 0, 0, 3, 0, [])), (109, (.iload 4, 111, false, false, 4, 0, 0, 0, 0, 0, [])), (111, (.invokevirtual 377, 114, false, false, 154, 2, 0, 15, 0, 0, [])), (114, (.iload 4, 116, false, false, 4, 0, 0, 0, 0, 0, [])), (116, (.ireturn, 117, false, false, 0, 0, 0, 0, 0, 0, []))])], 0, [])
set_option maxRecDepth 100000 in
theorem v_X12_sell : VE MYT dflT E_X12_sell := ⟨⟨⟨⟨⟨dX12_sell_0, rfl⟩, rfl⟩, ⟨⟨dX12_sell_1, rfl⟩, rfl⟩, ⟨⟨dX12_sell_2, rfl⟩, Or.inl ⟨rfl, fX12_3⟩⟩, ⟨⟨dX12_sell_5, rfl⟩, rfl⟩, ⟨⟨dX12_sell_6, rfl⟩, rfl⟩, ⟨⟨dX12_sell_7, rfl⟩, Or.inl ⟨rfl, _, my_29, sX12_71⟩⟩, ⟨⟨dX12_sell_10, rfl⟩, rfl⟩, ⟨⟨dX12_sell_11, rfl⟩, Or.inr ⟨by decide, ⟨_, my_30, sX12_75⟩, fun q => absurd q (by decide)⟩⟩, ⟨⟨dX12_sell_14, rfl⟩, rfl⟩, ⟨⟨dX12_sell_17, rfl⟩, rfl⟩, ⟨⟨dX12_sell_18, rfl⟩, rfl⟩, ⟨⟨dX12_sell_19, rfl⟩, rfl⟩, ⟨⟨dX12_sell_21, rfl⟩, Or.inr ⟨by decide, ⟨_, my_31, sX12_79⟩, fun q => absurd q (by decide)⟩⟩, ⟨⟨dX12_sell_24, rfl⟩, rfl⟩, ⟨⟨dX12_sell_25, rfl⟩, rfl⟩, ⟨⟨dX12_sell_28, rfl⟩, rfl⟩, ⟨⟨dX12_sell_29, rfl⟩, rfl⟩, ⟨⟨dX12_sell_30, rfl⟩, rfl⟩, ⟨⟨dX12_sell_32, rfl⟩, Or.inr ⟨by decide, ⟨_, my_31, sX12_79⟩, fun q => absurd q (by decide)⟩⟩, ⟨⟨dX12_sell_35, rfl⟩, rfl⟩, ⟨⟨dX12_sell_38, rfl⟩, rfl⟩, ⟨⟨dX12_sell_39, rfl⟩, Or.inl ⟨by decide, _, _, fX12_3⟩⟩, ⟨⟨dX12_sell_42, rfl⟩, rfl⟩, ⟨⟨dX12_sell_45, rfl⟩, rfl⟩, trivial⟩,
  ⟨⟨⟨dX12_sell_46, rfl⟩, rfl⟩, ⟨⟨dX12_sell_49, rfl⟩, rfl⟩, ⟨⟨dX12_sell_50, rfl⟩, Or.inl ⟨rfl, rfl⟩⟩, ⟨⟨dX12_sell_51, rfl⟩, rfl⟩, ⟨⟨dX12_sell_52, rfl⟩, rfl⟩, ⟨⟨dX12_sell_54, rfl⟩, rfl⟩, ⟨⟨dX12_sell_55, rfl⟩, Or.inr ⟨by decide, ⟨_, my_292, sX12_336⟩, fun q => absurd q (by decide)⟩⟩, ⟨⟨dX12_sell_58, rfl⟩, rfl⟩, ⟨⟨dX12_sell_61, rfl⟩, rfl⟩, ⟨⟨dX12_sell_62, rfl⟩, rfl⟩, ⟨⟨dX12_sell_65, rfl⟩, rfl⟩, ⟨⟨dX12_sell_66, rfl⟩, rfl⟩, ⟨⟨dX12_sell_67, rfl⟩, rfl⟩, ⟨⟨dX12_sell_68, rfl⟩, rfl⟩, ⟨⟨dX12_sell_71, rfl⟩, rfl⟩, ⟨⟨dX12_sell_72, rfl⟩, rfl⟩, ⟨⟨dX12_sell_75, rfl⟩, rfl⟩, ⟨⟨dX12_sell_76, rfl⟩, Or.inl ⟨rfl, rfl⟩⟩, ⟨⟨dX12_sell_77, rfl⟩, rfl⟩, ⟨⟨dX12_sell_78, rfl⟩, rfl⟩, ⟨⟨dX12_sell_79, rfl⟩, Or.inr ⟨by decide, ⟨_, my_262, sX12_102⟩, fun q => absurd q (by decide)⟩⟩, ⟨⟨dX12_sell_82, rfl⟩, rfl⟩, ⟨⟨dX12_sell_84, rfl⟩, rfl⟩, ⟨⟨dX12_sell_85, rfl⟩, rfl⟩, trivial⟩,
  ⟨⟨⟨dX12_sell_86, rfl⟩, rfl⟩, ⟨⟨dX12_sell_88, rfl⟩, Or.inr ⟨by decide, ⟨_, my_249, sX12_422⟩, fun q => absurd q (by decide)⟩⟩, ⟨⟨dX12_sell_91, rfl⟩, rfl⟩, ⟨⟨dX12_sell_92, rfl⟩, Or.inl ⟨by decide, _, _, fX12_27⟩⟩, ⟨⟨dX12_sell_95, rfl⟩, rfl⟩, ⟨⟨dX12_sell_96, rfl⟩, rfl⟩, ⟨⟨dX12_sell_98, rfl⟩, Or.inl ⟨rfl, _, my_12, sX12_59⟩⟩, ⟨⟨dX12_sell_101, rfl⟩, rfl⟩, ⟨⟨dX12_sell_102, rfl⟩, trivial⟩, ⟨⟨dX12_sell_103, rfl⟩, rfl⟩, ⟨⟨dX12_sell_104, rfl⟩, rfl⟩, ⟨⟨dX12_sell_107, rfl⟩, rfl⟩, ⟨⟨dX12_sell_108, rfl⟩, rfl⟩, ⟨⟨dX12_sell_109, rfl⟩, rfl⟩, ⟨⟨dX12_sell_111, rfl⟩, Or.inr ⟨by decide, ⟨_, my_154, sX12_377⟩, fun q => absurd q (by decide)⟩⟩, ⟨⟨dX12_sell_114, rfl⟩, rfl⟩, ⟨⟨dX12_sell_116, rfl⟩, Or.inl ⟨rfl, rfl⟩⟩, trivial⟩, trivial⟩, by decide, Or.inl ⟨rfl, by decide, rfl⟩⟩
set_option maxRecDepth 100000 in
theorem g_X12_sell_0 (S : sT) (call : cT) (n : Nat) (a0 : Nat) (x1 : Int32) (x2 : Int32) (h : pH) : bd S call dflT E_X12_sell (n + 1) 0 [some (.ref a0), some (.int x1), some (.int x2), none, none] [] h = (pF h (.ref a0) 15 0 (.int 0) (fun h1 => cI (call 29 [.int x1] h1) (fun y3 h2 => rC h2 (.ref a0) 15 (cI (call 30 [.ref a0, .int y3, .int 1] h2) (fun y5 h4 => (if y5 = 0 then rC h4 (.ref a0) 15 (cI (call 31 [.ref a0, .int x1, .int 11] h4) (fun y8 h7 => (if y8 = 1 then gI h7 (.ref a0) 15 0 (fun y9 => (if y9 = 0 then some (.inl (some (.int (-1))), h7) else some (.inl (some (.int 0)), h7))) else rC h7 (.ref a0) 15 (cI (call 31 [.ref a0, .int x1, .int 10] h7) (fun y11 h10 => (if y11 < 0 then rC h10 (.ref a0) 15 (cI (call 292 [.ref a0, .int 13, .int x1] h10) (fun y13 h12 => (if y13 < 0 then (if (0 : Int32) = 0 then (if x2 = 0 then some (.inl (some (.int (-1))), h12) else bd S call dflT E_X12_sell n 77 [some (.ref a0), some (.int x1), some (.int x2), some (.int 0), none] [] h12) else bd S call dflT E_X12_sell n 77 [some (.ref a0), some (.int x1), some (.int x2), some (.int 0), none] [] h12) else (if (1 : Int32) = 0 then (if x2 = 0 then some (.inl (some (.int (-1))), h12) else bd S call dflT E_X12_sell n 77 [some (.ref a0), some (.int x1), some (.int x2), some (.int 1), none] [] h12) else bd S call dflT E_X12_sell n 77 [some (.ref a0), some (.int x1), some (.int x2), some (.int 1), none] [] h12)))) else gI h10 (.ref a0) 15 0 (fun y14 => (if y14 = 0 then some (.inl (some (.int (-1))), h10) else some (.inl (some (.int 0)), h10))))))))) else gI h4 (.ref a0) 15 0 (fun y6 => (if y6 = 0 then some (.inl (some (.int (-1))), h4) else some (.inl (some (.int 0)), h4))))))))) := rfl
set_option maxRecDepth 100000 in
theorem g_X12_sell_77 (S : sT) (call : cT) (n : Nat) (a0 : Nat) (x1 : Int32) (x2 : Int32) (x3 : Int32) (o4 : Option Value) (h : pH) : bd S call dflT E_X12_sell (n + 1) 77 [some (.ref a0), some (.int x1), some (.int x2), some (.int x3), o4] [] h = (rC h (.ref a0) 15 (cI (call 262 [.ref a0, .int x1] h) (fun y2 h1 => rC h1 (.ref a0) 15 (cU (call 249 [.ref a0, .int 4, .int y2] h1) (fun h3 => gV h3 (.ref a0) 15 1 (fun w4 => cI (call 12 [.int x1, .int 11] h3) (fun y6 h5 => sI h5 w4 0 y6 1 (fun h7 => (if x3 = 0 then rC h7 (.ref a0) 15 (cU (call 154 [.ref a0, .int 3, .int y2] h7) (fun h8 => some (.inl (some (.int y2)), h8))) else some (.inl (some (.int y2)), h7)))))))))) := rfl
theorem dX12_heir_0 : decode cX12_heir 0 = .ok (.aload_n 0, 1) := by decide +kernel
theorem dX12_heir_1 : decode cX12_heir 1 = .ok (.iconst 0, 1) := by decide +kernel
theorem dX12_heir_2 : decode cX12_heir 2 = .ok (.putfield 3, 3) := by decide +kernel
theorem dX12_heir_5 : decode cX12_heir 5 = .ok (.iconst 0, 1) := by decide +kernel
theorem dX12_heir_6 : decode cX12_heir 6 = .ok (.aload_n 0, 1) := by decide +kernel
theorem dX12_heir_7 : decode cX12_heir 7 = .ok (.getfield 27, 3) := by decide +kernel
theorem dX12_heir_10 : decode cX12_heir 10 = .ok (.iconst 1, 1) := by decide +kernel
theorem dX12_heir_11 : decode cX12_heir 11 = .ok (.iaload, 1) := by decide +kernel
theorem dX12_heir_12 : decode cX12_heir 12 = .ok (.invokestatic 100, 3) := by decide +kernel
theorem dX12_heir_15 : decode cX12_heir 15 = .ok (.istore_n 1, 1) := by decide +kernel
theorem dX12_heir_16 : decode cX12_heir 16 = .ok (.aload_n 0, 1) := by decide +kernel
theorem dX12_heir_17 : decode cX12_heir 17 = .ok (.getfield 27, 3) := by decide +kernel
theorem dX12_heir_20 : decode cX12_heir 20 = .ok (.iconst 1, 1) := by decide +kernel
theorem dX12_heir_21 : decode cX12_heir 21 = .ok (.dup2, 1) := by decide +kernel
theorem dX12_heir_22 : decode cX12_heir 22 = .ok (.iaload, 1) := by decide +kernel
theorem dX12_heir_23 : decode cX12_heir 23 = .ok (.iload_n 1, 1) := by decide +kernel
theorem dX12_heir_24 : decode cX12_heir 24 = .ok (.isub, 1) := by decide +kernel
theorem dX12_heir_25 : decode cX12_heir 25 = .ok (.iastore, 1) := by decide +kernel
theorem dX12_heir_26 : decode cX12_heir 26 = .ok (.aload_n 0, 1) := by decide +kernel
theorem dX12_heir_27 : decode cX12_heir 27 = .ok (.getfield 27, 3) := by decide +kernel
theorem dX12_heir_30 : decode cX12_heir 30 = .ok (.bipush 7, 2) := by decide +kernel
theorem dX12_heir_32 : decode cX12_heir 32 = .ok (.aload_n 0, 1) := by decide +kernel
theorem dX12_heir_33 : decode cX12_heir 33 = .ok (.getfield 27, 3) := by decide +kernel
theorem dX12_heir_36 : decode cX12_heir 36 = .ok (.bipush 7, 2) := by decide +kernel
theorem dX12_heir_38 : decode cX12_heir 38 = .ok (.iaload, 1) := by decide +kernel
theorem dX12_heir_39 : decode cX12_heir 39 = .ok (.i2l, 1) := by decide +kernel
theorem dX12_heir_40 : decode cX12_heir 40 = .ok (.iload_n 1, 1) := by decide +kernel
theorem dX12_heir_41 : decode cX12_heir 41 = .ok (.i2l, 1) := by decide +kernel
theorem dX12_heir_42 : decode cX12_heir 42 = .ok (.ladd, 1) := by decide +kernel
theorem dX12_heir_43 : decode cX12_heir 43 = .ok (.invokestatic 345, 3) := by decide +kernel
theorem dX12_heir_46 : decode cX12_heir 46 = .ok (.iastore, 1) := by decide +kernel
theorem dX12_heir_47 : decode cX12_heir 47 = .ok (.aload_n 0, 1) := by decide +kernel
theorem dX12_heir_48 : decode cX12_heir 48 = .ok (.getfield 27, 3) := by decide +kernel
theorem dX12_heir_51 : decode cX12_heir 51 = .ok (.iconst 5, 1) := by decide +kernel
theorem dX12_heir_52 : decode cX12_heir 52 = .ok (.dup2, 1) := by decide +kernel
theorem dX12_heir_53 : decode cX12_heir 53 = .ok (.iaload, 1) := by decide +kernel
theorem dX12_heir_54 : decode cX12_heir 54 = .ok (.iconst 1, 1) := by decide +kernel
theorem dX12_heir_55 : decode cX12_heir 55 = .ok (.iadd, 1) := by decide +kernel
theorem dX12_heir_56 : decode cX12_heir 56 = .ok (.iastore, 1) := by decide +kernel
theorem dX12_heir_57 : decode cX12_heir 57 = .ok (.iload_n 1, 1) := by decide +kernel
theorem dX12_heir_58 : decode cX12_heir 58 = .ok (.ireturn, 1) := by decide +kernel
noncomputable def E_X12_heir : mE := (mX12_heir, [(36, [(0, (.aload_n 0, 1, false, false, 0, 0, 0, 0, 0, 0, [])), (1, (.iconst 0, 2, false, false, 0, 0, 0, 0, 0, 0, [])), (2, (.putfield 3, 5, false, false, 15, 0, 0, 0, 0, 0, [])), (5, (.iconst 0, 6, false, false, 0, 0, 0, 0, 0, 0, [])), (6, (.aload_n 0, 7, false, false, 0, 0, 0, 0, 0, 0, [])), (7, (.getfield 27, 10, false, false, 15, 1, 1, 0, 0, 0, [])), (10, (.iconst 1, 11, false, false, 0, 0, 0, 0, 1, 0, [])), (11, (.iaload, 12, false, false, 0, 0, 0, 0, 0, 0, [])), (12, (.invokestatic 100, 15, false, false, 0, 2, 1, 5, 0, 0, [])), (15, (.istore_n 1, 16, false, false, 1, 0, 0, 0, 0, 0, [])), (16, (.aload_n 0, 17, false, false, 0, 0, 0, 0, 0, 0, [])), (17, (.getfield 27, 20, false, false, 15, 1, 1, 0, 0, 0, [])), (20, (.iconst 1, 21, false, false, 0, 0, 0, 0, 1, 0, [])), (21, (.dup2, 22, false, false, 0, 0, 0, 0, 0, 0, [])), (22, (.iaload, 23, false, false, 0, 0, 0, 0, 0, 0, [])), (23, (.iload_n 1, 24, false, false, 1, 0, 0, 0, 0, 0, [])), (24, (.isub, 25, false, false, 0, 0, 0, 0, 0, 0, [])), (25, (.iastore, 26, false, false, 0, 0, 0, 0, 0, 0, [])), (26, (.aload_n 0, 27, false, false, 0, 0, 0, 0, 0, 0, [])), (27, (.getfield 27, 30, false, false, 15, 1, 1, 0, 0, 0, [])), (30, (.bipush 7, 32, false, false, 0, 0, 0, 0, 7, 0, [])), (32, (.aload_n 0, 33, false, false, 0, 0, 0, 0, 0, 0, [])), (33, (.getfield 27, 36, false, false, 15, 1, 1, 0, 0, 0, [])), (36, (.bipush 7, 38, false, false, 0, 0, 0, 0, 7, 0, []))]),
  (58, [(38, (.iaload, 39, false, false, 0, 0, 0, 0, 0, 0, [])), (39, (.i2l, 40, false, false, 0, 0, 0, 0, 0, 0, [])), (40, (.iload_n 1, 41, false, false, 1, 0, 0, 0, 0, 0, [])), (41, (.i2l, 42, false, false, 0, 0, 0, 0, 0, 0, [])), (42, (.ladd, 43, false, false, 0, 0, 0, 0, 0, 0, [])), (43, (.invokestatic 345, 46, false, false, 150, 1, 1, 0, 0, 0, [])), (46, (.iastore, 47, false, false, 0, 0, 0, 0, 0, 0, [])), (47, (.aload_n 0, 48, false, false, 0, 0, 0, 0, 0, 0, [])), (48, (.getfield 27, 51, false, false, 15, 1, 1, 0, 0, 0, [])), (51, (.iconst 5, 52, false, false, 0, 0, 0, 0, 5, 0, [])), (52, (.dup2, 53, false, false, 0, 0, 0, 0, 0, 0, [])), (53, (.iaload, 54, false, false, 0, 0, 0, 0, 0, 0, [])), (54, (.iconst 1, 55, false, false, 0, 0, 0, 0, 1, 0, [])), (55, (.iadd, 56, false, false, 0, 0, 0, 0, 0, 0, [])), (56, (.iastore, 57, false, false, 0, 0, 0, 0, 0, 0, [])), (57, (.iload_n 1, 58, false, false, 1, 0, 0, 0, 0, 0, [])), (58, (.ireturn, 59, false, false, 0, 0, 0, 0, 0, 0, []))])], 0, [])
set_option maxRecDepth 100000 in
theorem v_X12_heir : VE MYT dflT E_X12_heir := ⟨⟨⟨⟨⟨dX12_heir_0, rfl⟩, rfl⟩, ⟨⟨dX12_heir_1, rfl⟩, rfl⟩, ⟨⟨dX12_heir_2, rfl⟩, Or.inl ⟨rfl, fX12_3⟩⟩, ⟨⟨dX12_heir_5, rfl⟩, rfl⟩, ⟨⟨dX12_heir_6, rfl⟩, rfl⟩, ⟨⟨dX12_heir_7, rfl⟩, Or.inl ⟨by decide, _, _, fX12_27⟩⟩, ⟨⟨dX12_heir_10, rfl⟩, rfl⟩, ⟨⟨dX12_heir_11, rfl⟩, trivial⟩, ⟨⟨dX12_heir_12, rfl⟩, Or.inr (Or.inr (Or.inr (Or.inr (Or.inl ⟨rfl, sX12_100⟩))))⟩, ⟨⟨dX12_heir_15, rfl⟩, rfl⟩, ⟨⟨dX12_heir_16, rfl⟩, rfl⟩, ⟨⟨dX12_heir_17, rfl⟩, Or.inl ⟨by decide, _, _, fX12_27⟩⟩, ⟨⟨dX12_heir_20, rfl⟩, rfl⟩, ⟨⟨dX12_heir_21, rfl⟩, trivial⟩, ⟨⟨dX12_heir_22, rfl⟩, trivial⟩, ⟨⟨dX12_heir_23, rfl⟩, rfl⟩, ⟨⟨dX12_heir_24, rfl⟩, trivial⟩, ⟨⟨dX12_heir_25, rfl⟩, trivial⟩, ⟨⟨dX12_heir_26, rfl⟩, rfl⟩, ⟨⟨dX12_heir_27, rfl⟩, Or.inl ⟨by decide, _, _, fX12_27⟩⟩, ⟨⟨dX12_heir_30, rfl⟩, rfl⟩, ⟨⟨dX12_heir_32, rfl⟩, rfl⟩, ⟨⟨dX12_heir_33, rfl⟩, Or.inl ⟨by decide, _, _, fX12_27⟩⟩, ⟨⟨dX12_heir_36, rfl⟩, rfl⟩, trivial⟩,
  ⟨⟨⟨dX12_heir_38, rfl⟩, trivial⟩, ⟨⟨dX12_heir_39, rfl⟩, trivial⟩, ⟨⟨dX12_heir_40, rfl⟩, rfl⟩, ⟨⟨dX12_heir_41, rfl⟩, trivial⟩, ⟨⟨dX12_heir_42, rfl⟩, trivial⟩, ⟨⟨dX12_heir_43, rfl⟩, Or.inl ⟨rfl, _, my_150, sX12_345⟩⟩, ⟨⟨dX12_heir_46, rfl⟩, trivial⟩, ⟨⟨dX12_heir_47, rfl⟩, rfl⟩, ⟨⟨dX12_heir_48, rfl⟩, Or.inl ⟨by decide, _, _, fX12_27⟩⟩, ⟨⟨dX12_heir_51, rfl⟩, rfl⟩, ⟨⟨dX12_heir_52, rfl⟩, trivial⟩, ⟨⟨dX12_heir_53, rfl⟩, trivial⟩, ⟨⟨dX12_heir_54, rfl⟩, rfl⟩, ⟨⟨dX12_heir_55, rfl⟩, trivial⟩, ⟨⟨dX12_heir_56, rfl⟩, trivial⟩, ⟨⟨dX12_heir_57, rfl⟩, rfl⟩, ⟨⟨dX12_heir_58, rfl⟩, Or.inl ⟨rfl, rfl⟩⟩, trivial⟩, trivial⟩, by decide, Or.inl ⟨rfl, by decide, rfl⟩⟩
set_option maxRecDepth 100000 in
theorem g_X12_heir_0 (S : sT) (call : cT) (n : Nat) (a0 : Nat) (h : pH) : bd S call dflT E_X12_heir (n + 1) 0 [some (.ref a0), none] [] h = (pF h (.ref a0) 15 0 (.int 0) (fun h1 => gV h1 (.ref a0) 15 1 (fun w2 => aI h1 w2 0 1 (fun y3 => gV h1 (.ref a0) 15 1 (fun w4 => nl w4 (aI h1 w4 0 1 (fun y5 => sI h1 w4 0 1 (y5 - (if (0 : Int32) < y3 then y3 else (0 : Int32))) (fun h6 => gV h6 (.ref a0) 15 1 (fun w7 => gV h6 (.ref a0) 15 1 (fun w8 => aI h6 w8 0 7 (fun y9 => cI (call 150 [.long (y9.toInt64 + (if (0 : Int32) < y3 then y3 else (0 : Int32)).toInt64)] h6) (fun y11 h10 => sI h10 w7 0 7 y11 (fun h12 => gV h12 (.ref a0) 15 1 (fun w13 => nl w13 (aI h12 w13 0 5 (fun y14 => sI h12 w13 0 5 (y14 + 1) (fun h15 => some (.inl (some (.int (if (0 : Int32) < y3 then y3 else (0 : Int32)))), h15)))))))))))))))))) := rfl
theorem dX12_wrong_0 : decode cX12_wrong 0 = .ok (.aload_n 0, 1) := by decide +kernel
theorem dX12_wrong_1 : decode cX12_wrong 1 = .ok (.iconst 0, 1) := by decide +kernel
theorem dX12_wrong_2 : decode cX12_wrong 2 = .ok (.putfield 3, 3) := by decide +kernel
theorem dX12_wrong_5 : decode cX12_wrong 5 = .ok (.aload_n 0, 1) := by decide +kernel
theorem dX12_wrong_6 : decode cX12_wrong 6 = .ok (.iload_n 1, 1) := by decide +kernel
theorem dX12_wrong_7 : decode cX12_wrong 7 = .ok (.iconst 0, 1) := by decide +kernel
theorem dX12_wrong_8 : decode cX12_wrong 8 = .ok (.bipush 60, 2) := by decide +kernel
theorem dX12_wrong_10 : decode cX12_wrong 10 = .ok (.aload_n 0, 1) := by decide +kernel
theorem dX12_wrong_11 : decode cX12_wrong 11 = .ok (.getfield 27, 3) := by decide +kernel
theorem dX12_wrong_14 : decode cX12_wrong 14 = .ok (.bipush 6, 2) := by decide +kernel
theorem dX12_wrong_16 : decode cX12_wrong 16 = .ok (.iaload, 1) := by decide +kernel
theorem dX12_wrong_17 : decode cX12_wrong 17 = .ok (.invokestatic 358, 3) := by decide +kernel
theorem dX12_wrong_20 : decode cX12_wrong 20 = .ok (.iconst 1, 1) := by decide +kernel
theorem dX12_wrong_21 : decode cX12_wrong 21 = .ok (.isub, 1) := by decide +kernel
theorem dX12_wrong_22 : decode cX12_wrong 22 = .ok (.invokestatic 63, 3) := by decide +kernel
theorem dX12_wrong_25 : decode cX12_wrong 25 = .ok (.ifCond .eq 12, 3) := by decide +kernel
theorem dX12_wrong_28 : decode cX12_wrong 28 = .ok (.iload_n 2, 1) := by decide +kernel
theorem dX12_wrong_29 : decode cX12_wrong 29 = .ok (.iconst 0, 1) := by decide +kernel
theorem dX12_wrong_30 : decode cX12_wrong 30 = .ok (.iconst 3, 1) := by decide +kernel
theorem dX12_wrong_31 : decode cX12_wrong 31 = .ok (.invokestatic 63, 3) := by decide +kernel
theorem dX12_wrong_34 : decode cX12_wrong 34 = .ok (.ifCond .ne 7, 3) := by decide +kernel
theorem dX12_wrong_37 : decode cX12_wrong 37 = .ok (.iconst 1, 1) := by decide +kernel
theorem dX12_wrong_38 : decode cX12_wrong 38 = .ok (.goto 4, 3) := by decide +kernel
theorem dX12_wrong_41 : decode cX12_wrong 41 = .ok (.iconst 0, 1) := by decide +kernel
theorem dX12_wrong_42 : decode cX12_wrong 42 = .ok (.iconst 1, 1) := by decide +kernel
theorem dX12_wrong_43 : decode cX12_wrong 43 = .ok (.invokevirtual 75, 3) := by decide +kernel
theorem dX12_wrong_46 : decode cX12_wrong 46 = .ok (.ifCond .eq 7, 3) := by decide +kernel
theorem dX12_wrong_49 : decode cX12_wrong 49 = .ok (.iconst 0, 1) := by decide +kernel
theorem dX12_wrong_50 : decode cX12_wrong 50 = .ok (.goto 17, 3) := by decide +kernel
theorem dX12_wrong_53 : decode cX12_wrong 53 = .ok (.aload_n 0, 1) := by decide +kernel
theorem dX12_wrong_54 : decode cX12_wrong 54 = .ok (.getfield 27, 3) := by decide +kernel
theorem dX12_wrong_57 : decode cX12_wrong 57 = .ok (.sipush 1997, 3) := by decide +kernel
theorem dX12_wrong_60 : decode cX12_wrong 60 = .ok (.iconst 4, 1) := by decide +kernel
theorem dX12_wrong_61 : decode cX12_wrong 61 = .ok (.iload_n 1, 1) := by decide +kernel
theorem dX12_wrong_62 : decode cX12_wrong 62 = .ok (.imul, 1) := by decide +kernel
theorem dX12_wrong_63 : decode cX12_wrong 63 = .ok (.iadd, 1) := by decide +kernel
theorem dX12_wrong_64 : decode cX12_wrong 64 = .ok (.iload_n 2, 1) := by decide +kernel
theorem dX12_wrong_65 : decode cX12_wrong 65 = .ok (.iadd, 1) := by decide +kernel
theorem dX12_wrong_66 : decode cX12_wrong 66 = .ok (.iaload, 1) := by decide +kernel
theorem dX12_wrong_67 : decode cX12_wrong 67 = .ok (.ireturn, 1) := by decide +kernel
noncomputable def E_X12_wrong : mE := (mX12_wrong, [(41, [(0, (.aload_n 0, 1, false, false, 0, 0, 0, 0, 0, 0, [])), (1, (.iconst 0, 2, false, false, 0, 0, 0, 0, 0, 0, [])), (2, (.putfield 3, 5, false, false, 15, 0, 0, 0, 0, 0, [])), (5, (.aload_n 0, 6, false, false, 0, 0, 0, 0, 0, 0, [])), (6, (.iload_n 1, 7, false, false, 1, 0, 0, 0, 0, 0, [])), (7, (.iconst 0, 8, false, false, 0, 0, 0, 0, 0, 0, [])), (8, (.bipush 60, 10, false, false, 0, 0, 0, 0, 60, 0, [])), (10, (.aload_n 0, 11, false, false, 0, 0, 0, 0, 0, 0, [])), (11, (.getfield 27, 14, false, false, 15, 1, 1, 0, 0, 0, [])), (14, (.bipush 6, 16, false, false, 0, 0, 0, 0, 6, 0, [])), (16, (.iaload, 17, false, false, 0, 0, 0, 0, 0, 0, [])), (17, (.invokestatic 358, 20, false, false, 0, 2, 1, 6, 0, 0, [])), (20, (.iconst 1, 21, false, false, 0, 0, 0, 0, 1, 0, [])), (21, (.isub, 22, false, false, 0, 0, 0, 0, 0, 0, [])), (22, (.invokestatic 63, 25, false, false, 28, 3, 1, 0, 0, 0, [])), (25, (.ifCond .eq 12, 28, false, false, 37, 0, 0, 0, 0, 0, [])), (28, (.iload_n 2, 29, false, false, 2, 0, 0, 0, 0, 0, [])), (29, (.iconst 0, 30, false, false, 0, 0, 0, 0, 0, 0, [])), (30, (.iconst 3, 31, false, false, 0, 0, 0, 0, 3, 0, [])), (31, (.invokestatic 63, 34, false, false, 28, 3, 1, 0, 0, 0, [])), (34, (.ifCond .ne 7, 37, false, false, 41, 0, 0, 0, 0, 0, [])), (37, (.iconst 1, 38, false, false, 0, 0, 0, 0, 1, 0, [])), (38, (.goto 4, 41, false, true, 42, 0, 0, 0, 0, 0, [])), (41, (.iconst 0, 42, true, false, 0, 0, 0, 0, 0, 0, []))]),
  (67, [(42, (.iconst 1, 43, false, false, 0, 0, 0, 0, 1, 0, [])), (43, (.invokevirtual 75, 46, false, false, 30, 2, 1, 15, 0, 0, [])), (46, (.ifCond .eq 7, 49, false, false, 53, 0, 0, 0, 0, 0, [])), (49, (.iconst 0, 50, false, false, 0, 0, 0, 0, 0, 0, [])), (50, (.goto 17, 53, false, false, 67, 0, 0, 0, 0, 0, [])), (53, (.aload_n 0, 54, false, false, 0, 0, 0, 0, 0, 0, [])), (54, (.getfield 27, 57, false, false, 15, 1, 1, 0, 0, 0, [])), (57, (.sipush 1997, 60, false, false, 0, 0, 0, 0, 1997, 0, [])), (60, (.iconst 4, 61, false, false, 0, 0, 0, 0, 4, 0, [])), (61, (.iload_n 1, 62, false, false, 1, 0, 0, 0, 0, 0, [])), (62, (.imul, 63, false, false, 0, 0, 0, 0, 0, 0, [])), (63, (.iadd, 64, false, false, 0, 0, 0, 0, 0, 0, [])), (64, (.iload_n 2, 65, false, false, 2, 0, 0, 0, 0, 0, [])), (65, (.iadd, 66, false, false, 0, 0, 0, 0, 0, 0, [])), (66, (.iaload, 67, false, false, 0, 0, 0, 0, 0, 0, [])), (67, (.ireturn, 68, false, false, 0, 0, 0, 0, 0, 0, []))])], 0, [])
set_option maxRecDepth 100000 in
theorem v_X12_wrong : VE MYT dflT E_X12_wrong := ⟨⟨⟨⟨⟨dX12_wrong_0, rfl⟩, rfl⟩, ⟨⟨dX12_wrong_1, rfl⟩, rfl⟩, ⟨⟨dX12_wrong_2, rfl⟩, Or.inl ⟨rfl, fX12_3⟩⟩, ⟨⟨dX12_wrong_5, rfl⟩, rfl⟩, ⟨⟨dX12_wrong_6, rfl⟩, rfl⟩, ⟨⟨dX12_wrong_7, rfl⟩, rfl⟩, ⟨⟨dX12_wrong_8, rfl⟩, rfl⟩, ⟨⟨dX12_wrong_10, rfl⟩, rfl⟩, ⟨⟨dX12_wrong_11, rfl⟩, Or.inl ⟨by decide, _, _, fX12_27⟩⟩, ⟨⟨dX12_wrong_14, rfl⟩, rfl⟩, ⟨⟨dX12_wrong_16, rfl⟩, trivial⟩, ⟨⟨dX12_wrong_17, rfl⟩, Or.inr (Or.inr (Or.inr (Or.inr (Or.inr (Or.inl ⟨rfl, sX12_358⟩)))))⟩, ⟨⟨dX12_wrong_20, rfl⟩, rfl⟩, ⟨⟨dX12_wrong_21, rfl⟩, trivial⟩, ⟨⟨dX12_wrong_22, rfl⟩, Or.inl ⟨rfl, _, my_28, sX12_63⟩⟩, ⟨⟨dX12_wrong_25, rfl⟩, rfl⟩, ⟨⟨dX12_wrong_28, rfl⟩, rfl⟩, ⟨⟨dX12_wrong_29, rfl⟩, rfl⟩, ⟨⟨dX12_wrong_30, rfl⟩, rfl⟩, ⟨⟨dX12_wrong_31, rfl⟩, Or.inl ⟨rfl, _, my_28, sX12_63⟩⟩, ⟨⟨dX12_wrong_34, rfl⟩, rfl⟩, ⟨⟨dX12_wrong_37, rfl⟩, rfl⟩, ⟨⟨dX12_wrong_38, rfl⟩, rfl⟩, ⟨⟨dX12_wrong_41, rfl⟩, rfl⟩, trivial⟩,
  ⟨⟨⟨dX12_wrong_42, rfl⟩, rfl⟩, ⟨⟨dX12_wrong_43, rfl⟩, Or.inr ⟨by decide, ⟨_, my_30, sX12_75⟩, fun q => absurd q (by decide)⟩⟩, ⟨⟨dX12_wrong_46, rfl⟩, rfl⟩, ⟨⟨dX12_wrong_49, rfl⟩, rfl⟩, ⟨⟨dX12_wrong_50, rfl⟩, rfl⟩, ⟨⟨dX12_wrong_53, rfl⟩, rfl⟩, ⟨⟨dX12_wrong_54, rfl⟩, Or.inl ⟨by decide, _, _, fX12_27⟩⟩, ⟨⟨dX12_wrong_57, rfl⟩, rfl⟩, ⟨⟨dX12_wrong_60, rfl⟩, rfl⟩, ⟨⟨dX12_wrong_61, rfl⟩, rfl⟩, ⟨⟨dX12_wrong_62, rfl⟩, trivial⟩, ⟨⟨dX12_wrong_63, rfl⟩, trivial⟩, ⟨⟨dX12_wrong_64, rfl⟩, rfl⟩, ⟨⟨dX12_wrong_65, rfl⟩, trivial⟩, ⟨⟨dX12_wrong_66, rfl⟩, trivial⟩, ⟨⟨dX12_wrong_67, rfl⟩, Or.inl ⟨rfl, rfl⟩⟩, trivial⟩, trivial⟩, by decide, Or.inl ⟨rfl, by decide, rfl⟩⟩
set_option maxRecDepth 100000 in
theorem g_X12_wrong_0 (S : sT) (call : cT) (n : Nat) (a0 : Nat) (x1 : Int32) (x2 : Int32) (h : pH) : bd S call dflT E_X12_wrong (n + 1) 0 [some (.ref a0), some (.int x1), some (.int x2)] [] h = (pF h (.ref a0) 15 0 (.int 0) (fun h1 => gV h1 (.ref a0) 15 1 (fun w2 => aI h1 w2 0 6 (fun y3 => cI (call 28 [.int x1, .int 0, .int ((if y3 < (60 : Int32) then y3 else (60 : Int32)) - 1)] h1) (fun y5 h4 => (if y5 = 0 then bd S call dflT E_X12_wrong n 42 [some (.ref a0), some (.int x1), some (.int x2)] [.int 1, .ref a0] h4 else cI (call 28 [.int x2, .int 0, .int 3] h4) (fun y7 h6 => (if y7 = 0 then bd S call dflT E_X12_wrong n 42 [some (.ref a0), some (.int x1), some (.int x2)] [.int 1, .ref a0] h6 else bd S call dflT E_X12_wrong n 42 [some (.ref a0), some (.int x1), some (.int x2)] [.int 0, .ref a0] h6)))))))) := rfl
set_option maxRecDepth 100000 in
theorem g_X12_wrong_42 (S : sT) (call : cT) (n : Nat) (a0 : Nat) (x1 : Int32) (x2 : Int32) (u0 : Value) (y1 : Int32) (h : pH) : bd S call dflT E_X12_wrong (n + 1) 42 [some (.ref a0), some (.int x1), some (.int x2)] [.int y1, u0] h = (rC h u0 15 (cI (call 30 [u0, .int y1, .int 1] h) (fun y2 h1 => (if y2 = 0 then gV h1 (.ref a0) 15 1 (fun w3 => aI h1 w3 0 ((1997 + (4 * x1)) + x2) (fun y4 => some (.inl (some (.int y4)), h1))) else some (.inl (some (.int 0)), h1))))) := rfl
theorem dX12_job_0 : decode cX12_job 0 = .ok (.aload_n 0, 1) := by decide +kernel
theorem dX12_job_1 : decode cX12_job 1 = .ok (.iconst 0, 1) := by decide +kernel
theorem dX12_job_2 : decode cX12_job 2 = .ok (.putfield 3, 3) := by decide +kernel
theorem dX12_job_5 : decode cX12_job 5 = .ok (.aload_n 0, 1) := by decide +kernel
theorem dX12_job_6 : decode cX12_job 6 = .ok (.iload_n 1, 1) := by decide +kernel
theorem dX12_job_7 : decode cX12_job 7 = .ok (.iconst 0, 1) := by decide +kernel
theorem dX12_job_8 : decode cX12_job 8 = .ok (.ldc_w 366, 3) := by decide +kernel
theorem dX12_job_11 : decode cX12_job 11 = .ok (.invokestatic 63, 3) := by decide +kernel
theorem dX12_job_14 : decode cX12_job 14 = .ok (.ifCond .eq 24, 3) := by decide +kernel
theorem dX12_job_17 : decode cX12_job 17 = .ok (.iload_n 2, 1) := by decide +kernel
theorem dX12_job_18 : decode cX12_job 18 = .ok (.iconst 0, 1) := by decide +kernel
theorem dX12_job_19 : decode cX12_job 19 = .ok (.sipush 10000, 3) := by decide +kernel
theorem dX12_job_22 : decode cX12_job 22 = .ok (.invokestatic 63, 3) := by decide +kernel
theorem dX12_job_25 : decode cX12_job 25 = .ok (.ifCond .eq 13, 3) := by decide +kernel
theorem dX12_job_28 : decode cX12_job 28 = .ok (.iload_n 3, 1) := by decide +kernel
theorem dX12_job_29 : decode cX12_job 29 = .ok (.iconst 0, 1) := by decide +kernel
theorem dX12_job_30 : decode cX12_job 30 = .ok (.bipush 29, 2) := by decide +kernel
theorem dX12_job_32 : decode cX12_job 32 = .ok (.invokestatic 63, 3) := by decide +kernel
theorem dX12_job_35 : decode cX12_job 35 = .ok (.ifCond .ne 7, 3) := by decide +kernel
theorem dX12_job_38 : decode cX12_job 38 = .ok (.iconst 1, 1) := by decide +kernel
theorem dX12_job_39 : decode cX12_job 39 = .ok (.goto 4, 3) := by decide +kernel
theorem dX12_job_42 : decode cX12_job 42 = .ok (.iconst 0, 1) := by decide +kernel
theorem dX12_job_43 : decode cX12_job 43 = .ok (.iconst 1, 1) := by decide +kernel
theorem dX12_job_44 : decode cX12_job 44 = .ok (.invokevirtual 75, 3) := by decide +kernel
theorem dX12_job_47 : decode cX12_job 47 = .ok (.ifCond .eq 5, 3) := by decide +kernel
theorem dX12_job_50 : decode cX12_job 50 = .ok (.iconst 0, 1) := by decide +kernel
theorem dX12_job_51 : decode cX12_job 51 = .ok (.ireturn, 1) := by decide +kernel
theorem dX12_job_52 : decode cX12_job 52 = .ok (.aload_n 0, 1) := by decide +kernel
theorem dX12_job_53 : decode cX12_job 53 = .ok (.getfield 27, 3) := by decide +kernel
theorem dX12_job_56 : decode cX12_job 56 = .ok (.sipush 2237, 3) := by decide +kernel
theorem dX12_job_59 : decode cX12_job 59 = .ok (.iaload, 1) := by decide +kernel
theorem dX12_job_60 : decode cX12_job 60 = .ok (.istore 4, 2) := by decide +kernel
theorem dX12_job_62 : decode cX12_job 62 = .ok (.iload 4, 2) := by decide +kernel
theorem dX12_job_64 : decode cX12_job 64 = .ok (.bipush 6, 2) := by decide +kernel
theorem dX12_job_66 : decode cX12_job 66 = .ok (.if_icmp .ne 5, 3) := by decide +kernel
theorem dX12_job_69 : decode cX12_job 69 = .ok (.iconst (-1), 1) := by decide +kernel
theorem dX12_job_70 : decode cX12_job 70 = .ok (.ireturn, 1) := by decide +kernel
theorem dX12_job_71 : decode cX12_job 71 = .ok (.aload_n 0, 1) := by decide +kernel
theorem dX12_job_72 : decode cX12_job 72 = .ok (.getfield 27, 3) := by decide +kernel
theorem dX12_job_75 : decode cX12_job 75 = .ok (.sipush 2238, 3) := by decide +kernel
theorem dX12_job_78 : decode cX12_job 78 = .ok (.iconst 3, 1) := by decide +kernel
theorem dX12_job_79 : decode cX12_job 79 = .ok (.iload 4, 2) := by decide +kernel
theorem dX12_job_81 : decode cX12_job 81 = .ok (.imul, 1) := by decide +kernel
theorem dX12_job_82 : decode cX12_job 82 = .ok (.iadd, 1) := by decide +kernel
theorem dX12_job_83 : decode cX12_job 83 = .ok (.iload_n 1, 1) := by decide +kernel
theorem dX12_job_84 : decode cX12_job 84 = .ok (.iastore, 1) := by decide +kernel
theorem dX12_job_85 : decode cX12_job 85 = .ok (.aload_n 0, 1) := by decide +kernel
theorem dX12_job_86 : decode cX12_job 86 = .ok (.getfield 27, 3) := by decide +kernel
theorem dX12_job_89 : decode cX12_job 89 = .ok (.sipush 2238, 3) := by decide +kernel
theorem dX12_job_92 : decode cX12_job 92 = .ok (.iconst 3, 1) := by decide +kernel
theorem dX12_job_93 : decode cX12_job 93 = .ok (.iload 4, 2) := by decide +kernel
theorem dX12_job_95 : decode cX12_job 95 = .ok (.imul, 1) := by decide +kernel
theorem dX12_job_96 : decode cX12_job 96 = .ok (.iadd, 1) := by decide +kernel
theorem dX12_job_97 : decode cX12_job 97 = .ok (.iconst 1, 1) := by decide +kernel
theorem dX12_job_98 : decode cX12_job 98 = .ok (.iadd, 1) := by decide +kernel
theorem dX12_job_99 : decode cX12_job 99 = .ok (.iload_n 2, 1) := by decide +kernel
theorem dX12_job_100 : decode cX12_job 100 = .ok (.iastore, 1) := by decide +kernel
theorem dX12_job_101 : decode cX12_job 101 = .ok (.aload_n 0, 1) := by decide +kernel
theorem dX12_job_102 : decode cX12_job 102 = .ok (.getfield 27, 3) := by decide +kernel
theorem dX12_job_105 : decode cX12_job 105 = .ok (.sipush 2238, 3) := by decide +kernel
theorem dX12_job_108 : decode cX12_job 108 = .ok (.iconst 3, 1) := by decide +kernel
theorem dX12_job_109 : decode cX12_job 109 = .ok (.iload 4, 2) := by decide +kernel
theorem dX12_job_111 : decode cX12_job 111 = .ok (.imul, 1) := by decide +kernel
theorem dX12_job_112 : decode cX12_job 112 = .ok (.iadd, 1) := by decide +kernel
theorem dX12_job_113 : decode cX12_job 113 = .ok (.iconst 2, 1) := by decide +kernel
theorem dX12_job_114 : decode cX12_job 114 = .ok (.iadd, 1) := by decide +kernel
theorem dX12_job_115 : decode cX12_job 115 = .ok (.iload_n 3, 1) := by decide +kernel
theorem dX12_job_116 : decode cX12_job 116 = .ok (.iastore, 1) := by decide +kernel
theorem dX12_job_117 : decode cX12_job 117 = .ok (.aload_n 0, 1) := by decide +kernel
theorem dX12_job_118 : decode cX12_job 118 = .ok (.getfield 27, 3) := by decide +kernel
theorem dX12_job_121 : decode cX12_job 121 = .ok (.sipush 2237, 3) := by decide +kernel
theorem dX12_job_124 : decode cX12_job 124 = .ok (.dup2, 1) := by decide +kernel
theorem dX12_job_125 : decode cX12_job 125 = .ok (.iaload, 1) := by decide +kernel
theorem dX12_job_126 : decode cX12_job 126 = .ok (.iconst 1, 1) := by decide +kernel
theorem dX12_job_127 : decode cX12_job 127 = .ok (.iadd, 1) := by decide +kernel
theorem dX12_job_128 : decode cX12_job 128 = .ok (.iastore, 1) := by decide +kernel
theorem dX12_job_129 : decode cX12_job 129 = .ok (.iload 4, 2) := by decide +kernel
theorem dX12_job_131 : decode cX12_job 131 = .ok (.iconst 1, 1) := by decide +kernel
theorem dX12_job_132 : decode cX12_job 132 = .ok (.iadd, 1) := by decide +kernel
theorem dX12_job_133 : decode cX12_job 133 = .ok (.ireturn, 1) := by decide +kernel
noncomputable def E_X12_job : mE := (mX12_job, [(44, [(0, (.aload_n 0, 1, false, false, 0, 0, 0, 0, 0, 0, [])), (1, (.iconst 0, 2, false, false, 0, 0, 0, 0, 0, 0, [])), (2, (.putfield 3, 5, false, false, 15, 0, 0, 0, 0, 0, [])), (5, (.aload_n 0, 6, false, false, 0, 0, 0, 0, 0, 0, [])), (6, (.iload_n 1, 7, false, false, 1, 0, 0, 0, 0, 0, [])), (7, (.iconst 0, 8, false, false, 0, 0, 0, 0, 0, 0, [])), (8, (.ldc_w 366, 11, false, false, 0, 0, 0, 0, 100000, 0, [])), (11, (.invokestatic 63, 14, false, false, 28, 3, 1, 0, 0, 0, [])), (14, (.ifCond .eq 24, 17, false, false, 38, 0, 0, 0, 0, 0, [])), (17, (.iload_n 2, 18, false, false, 2, 0, 0, 0, 0, 0, [])), (18, (.iconst 0, 19, false, false, 0, 0, 0, 0, 0, 0, [])), (19, (.sipush 10000, 22, false, false, 0, 0, 0, 0, 10000, 0, [])), (22, (.invokestatic 63, 25, false, false, 28, 3, 1, 0, 0, 0, [])), (25, (.ifCond .eq 13, 28, false, false, 38, 0, 0, 0, 0, 0, [])), (28, (.iload_n 3, 29, false, false, 3, 0, 0, 0, 0, 0, [])), (29, (.iconst 0, 30, false, false, 0, 0, 0, 0, 0, 0, [])), (30, (.bipush 29, 32, false, false, 0, 0, 0, 0, 29, 0, [])), (32, (.invokestatic 63, 35, false, false, 28, 3, 1, 0, 0, 0, [])), (35, (.ifCond .ne 7, 38, false, false, 42, 0, 0, 0, 0, 0, [])), (38, (.iconst 1, 39, false, false, 0, 0, 0, 0, 1, 0, [])), (39, (.goto 4, 42, false, true, 43, 0, 0, 0, 0, 0, [])), (42, (.iconst 0, 43, true, false, 0, 0, 0, 0, 0, 0, [])), (43, (.iconst 1, 44, false, false, 0, 0, 0, 0, 1, 0, [])), (44, (.invokevirtual 75, 47, false, false, 30, 2, 1, 15, 0, 0, []))]),
  (86, [(47, (.ifCond .eq 5, 50, false, false, 52, 0, 0, 0, 0, 0, [])), (50, (.iconst 0, 51, false, false, 0, 0, 0, 0, 0, 0, [])), (51, (.ireturn, 52, false, false, 0, 0, 0, 0, 0, 0, [])), (52, (.aload_n 0, 53, false, false, 0, 0, 0, 0, 0, 0, [])), (53, (.getfield 27, 56, false, false, 15, 1, 1, 0, 0, 0, [])), (56, (.sipush 2237, 59, false, false, 0, 0, 0, 0, 2237, 0, [])), (59, (.iaload, 60, false, false, 0, 0, 0, 0, 0, 0, [])), (60, (.istore 4, 62, false, false, 4, 0, 0, 0, 0, 0, [])), (62, (.iload 4, 64, false, false, 4, 0, 0, 0, 0, 0, [])), (64, (.bipush 6, 66, false, false, 0, 0, 0, 0, 6, 0, [])), (66, (.if_icmp .ne 5, 69, false, false, 71, 0, 0, 0, 0, 0, [])), (69, (.iconst (-1), 70, false, false, 0, 0, 0, 0, -1, 0, [])), (70, (.ireturn, 71, false, false, 0, 0, 0, 0, 0, 0, [])), (71, (.aload_n 0, 72, false, false, 0, 0, 0, 0, 0, 0, [])), (72, (.getfield 27, 75, false, false, 15, 1, 1, 0, 0, 0, [])), (75, (.sipush 2238, 78, false, false, 0, 0, 0, 0, 2238, 0, [])), (78, (.iconst 3, 79, false, false, 0, 0, 0, 0, 3, 0, [])), (79, (.iload 4, 81, false, false, 4, 0, 0, 0, 0, 0, [])), (81, (.imul, 82, false, false, 0, 0, 0, 0, 0, 0, [])), (82, (.iadd, 83, false, false, 0, 0, 0, 0, 0, 0, [])), (83, (.iload_n 1, 84, false, false, 1, 0, 0, 0, 0, 0, [])), (84, (.iastore, 85, false, false, 0, 0, 0, 0, 0, 0, [])), (85, (.aload_n 0, 86, false, false, 0, 0, 0, 0, 0, 0, [])), (86, (.getfield 27, 89, false, false, 15, 1, 1, 0, 0, 0, []))]),
  (124, [(89, (.sipush 2238, 92, false, false, 0, 0, 0, 0, 2238, 0, [])), (92, (.iconst 3, 93, false, false, 0, 0, 0, 0, 3, 0, [])), (93, (.iload 4, 95, false, false, 4, 0, 0, 0, 0, 0, [])), (95, (.imul, 96, false, false, 0, 0, 0, 0, 0, 0, [])), (96, (.iadd, 97, false, false, 0, 0, 0, 0, 0, 0, [])), (97, (.iconst 1, 98, false, false, 0, 0, 0, 0, 1, 0, [])), (98, (.iadd, 99, false, false, 0, 0, 0, 0, 0, 0, [])), (99, (.iload_n 2, 100, false, false, 2, 0, 0, 0, 0, 0, [])), (100, (.iastore, 101, false, false, 0, 0, 0, 0, 0, 0, [])), (101, (.aload_n 0, 102, false, false, 0, 0, 0, 0, 0, 0, [])), (102, (.getfield 27, 105, false, false, 15, 1, 1, 0, 0, 0, [])), (105, (.sipush 2238, 108, false, false, 0, 0, 0, 0, 2238, 0, [])), (108, (.iconst 3, 109, false, false, 0, 0, 0, 0, 3, 0, [])), (109, (.iload 4, 111, false, false, 4, 0, 0, 0, 0, 0, [])), (111, (.imul, 112, false, false, 0, 0, 0, 0, 0, 0, [])), (112, (.iadd, 113, false, false, 0, 0, 0, 0, 0, 0, [])), (113, (.iconst 2, 114, false, false, 0, 0, 0, 0, 2, 0, [])), (114, (.iadd, 115, false, false, 0, 0, 0, 0, 0, 0, [])), (115, (.iload_n 3, 116, false, false, 3, 0, 0, 0, 0, 0, [])), (116, (.iastore, 117, false, false, 0, 0, 0, 0, 0, 0, [])), (117, (.aload_n 0, 118, false, false, 0, 0, 0, 0, 0, 0, [])), (118, (.getfield 27, 121, false, false, 15, 1, 1, 0, 0, 0, [])), (121, (.sipush 2237, 124, false, false, 0, 0, 0, 0, 2237, 0, [])), (124, (.dup2, 125, false, false, 0, 0, 0, 0, 0, 0, []))]),
  (133, [(125, (.iaload, 126, false, false, 0, 0, 0, 0, 0, 0, [])), (126, (.iconst 1, 127, false, false, 0, 0, 0, 0, 1, 0, [])), (127, (.iadd, 128, false, false, 0, 0, 0, 0, 0, 0, [])), (128, (.iastore, 129, false, false, 0, 0, 0, 0, 0, 0, [])), (129, (.iload 4, 131, false, false, 4, 0, 0, 0, 0, 0, [])), (131, (.iconst 1, 132, false, false, 0, 0, 0, 0, 1, 0, [])), (132, (.iadd, 133, false, false, 0, 0, 0, 0, 0, 0, [])), (133, (.ireturn, 134, false, false, 0, 0, 0, 0, 0, 0, []))])], 0, [])
set_option maxRecDepth 100000 in
theorem v_X12_job : VE MYT dflT E_X12_job := ⟨⟨⟨⟨⟨dX12_job_0, rfl⟩, rfl⟩, ⟨⟨dX12_job_1, rfl⟩, rfl⟩, ⟨⟨dX12_job_2, rfl⟩, Or.inl ⟨rfl, fX12_3⟩⟩, ⟨⟨dX12_job_5, rfl⟩, rfl⟩, ⟨⟨dX12_job_6, rfl⟩, rfl⟩, ⟨⟨dX12_job_7, rfl⟩, rfl⟩, ⟨⟨dX12_job_8, rfl⟩, Or.inl ⟨rfl, kX12_366⟩⟩, ⟨⟨dX12_job_11, rfl⟩, Or.inl ⟨rfl, _, my_28, sX12_63⟩⟩, ⟨⟨dX12_job_14, rfl⟩, rfl⟩, ⟨⟨dX12_job_17, rfl⟩, rfl⟩, ⟨⟨dX12_job_18, rfl⟩, rfl⟩, ⟨⟨dX12_job_19, rfl⟩, rfl⟩, ⟨⟨dX12_job_22, rfl⟩, Or.inl ⟨rfl, _, my_28, sX12_63⟩⟩, ⟨⟨dX12_job_25, rfl⟩, rfl⟩, ⟨⟨dX12_job_28, rfl⟩, rfl⟩, ⟨⟨dX12_job_29, rfl⟩, rfl⟩, ⟨⟨dX12_job_30, rfl⟩, rfl⟩, ⟨⟨dX12_job_32, rfl⟩, Or.inl ⟨rfl, _, my_28, sX12_63⟩⟩, ⟨⟨dX12_job_35, rfl⟩, rfl⟩, ⟨⟨dX12_job_38, rfl⟩, rfl⟩, ⟨⟨dX12_job_39, rfl⟩, rfl⟩, ⟨⟨dX12_job_42, rfl⟩, rfl⟩, ⟨⟨dX12_job_43, rfl⟩, rfl⟩, ⟨⟨dX12_job_44, rfl⟩, Or.inr ⟨by decide, ⟨_, my_30, sX12_75⟩, fun q => absurd q (by decide)⟩⟩, trivial⟩,
  ⟨⟨⟨dX12_job_47, rfl⟩, rfl⟩, ⟨⟨dX12_job_50, rfl⟩, rfl⟩, ⟨⟨dX12_job_51, rfl⟩, Or.inl ⟨rfl, rfl⟩⟩, ⟨⟨dX12_job_52, rfl⟩, rfl⟩, ⟨⟨dX12_job_53, rfl⟩, Or.inl ⟨by decide, _, _, fX12_27⟩⟩, ⟨⟨dX12_job_56, rfl⟩, rfl⟩, ⟨⟨dX12_job_59, rfl⟩, trivial⟩, ⟨⟨dX12_job_60, rfl⟩, rfl⟩, ⟨⟨dX12_job_62, rfl⟩, rfl⟩, ⟨⟨dX12_job_64, rfl⟩, rfl⟩, ⟨⟨dX12_job_66, rfl⟩, rfl⟩, ⟨⟨dX12_job_69, rfl⟩, rfl⟩, ⟨⟨dX12_job_70, rfl⟩, Or.inl ⟨rfl, rfl⟩⟩, ⟨⟨dX12_job_71, rfl⟩, rfl⟩, ⟨⟨dX12_job_72, rfl⟩, Or.inl ⟨by decide, _, _, fX12_27⟩⟩, ⟨⟨dX12_job_75, rfl⟩, rfl⟩, ⟨⟨dX12_job_78, rfl⟩, rfl⟩, ⟨⟨dX12_job_79, rfl⟩, rfl⟩, ⟨⟨dX12_job_81, rfl⟩, trivial⟩, ⟨⟨dX12_job_82, rfl⟩, trivial⟩, ⟨⟨dX12_job_83, rfl⟩, rfl⟩, ⟨⟨dX12_job_84, rfl⟩, trivial⟩, ⟨⟨dX12_job_85, rfl⟩, rfl⟩, ⟨⟨dX12_job_86, rfl⟩, Or.inl ⟨by decide, _, _, fX12_27⟩⟩, trivial⟩,
  ⟨⟨⟨dX12_job_89, rfl⟩, rfl⟩, ⟨⟨dX12_job_92, rfl⟩, rfl⟩, ⟨⟨dX12_job_93, rfl⟩, rfl⟩, ⟨⟨dX12_job_95, rfl⟩, trivial⟩, ⟨⟨dX12_job_96, rfl⟩, trivial⟩, ⟨⟨dX12_job_97, rfl⟩, rfl⟩, ⟨⟨dX12_job_98, rfl⟩, trivial⟩, ⟨⟨dX12_job_99, rfl⟩, rfl⟩, ⟨⟨dX12_job_100, rfl⟩, trivial⟩, ⟨⟨dX12_job_101, rfl⟩, rfl⟩, ⟨⟨dX12_job_102, rfl⟩, Or.inl ⟨by decide, _, _, fX12_27⟩⟩, ⟨⟨dX12_job_105, rfl⟩, rfl⟩, ⟨⟨dX12_job_108, rfl⟩, rfl⟩, ⟨⟨dX12_job_109, rfl⟩, rfl⟩, ⟨⟨dX12_job_111, rfl⟩, trivial⟩, ⟨⟨dX12_job_112, rfl⟩, trivial⟩, ⟨⟨dX12_job_113, rfl⟩, rfl⟩, ⟨⟨dX12_job_114, rfl⟩, trivial⟩, ⟨⟨dX12_job_115, rfl⟩, rfl⟩, ⟨⟨dX12_job_116, rfl⟩, trivial⟩, ⟨⟨dX12_job_117, rfl⟩, rfl⟩, ⟨⟨dX12_job_118, rfl⟩, Or.inl ⟨by decide, _, _, fX12_27⟩⟩, ⟨⟨dX12_job_121, rfl⟩, rfl⟩, ⟨⟨dX12_job_124, rfl⟩, trivial⟩, trivial⟩,
  ⟨⟨⟨dX12_job_125, rfl⟩, trivial⟩, ⟨⟨dX12_job_126, rfl⟩, rfl⟩, ⟨⟨dX12_job_127, rfl⟩, trivial⟩, ⟨⟨dX12_job_128, rfl⟩, trivial⟩, ⟨⟨dX12_job_129, rfl⟩, rfl⟩, ⟨⟨dX12_job_131, rfl⟩, rfl⟩, ⟨⟨dX12_job_132, rfl⟩, trivial⟩, ⟨⟨dX12_job_133, rfl⟩, Or.inl ⟨rfl, rfl⟩⟩, trivial⟩, trivial⟩, by decide, Or.inl ⟨rfl, by decide, rfl⟩⟩
set_option maxRecDepth 100000 in
theorem g_X12_job_0 (S : sT) (call : cT) (n : Nat) (a0 : Nat) (x1 : Int32) (x2 : Int32) (x3 : Int32) (h : pH) : bd S call dflT E_X12_job (n + 1) 0 [some (.ref a0), some (.int x1), some (.int x2), some (.int x3), none] [] h = (pF h (.ref a0) 15 0 (.int 0) (fun h1 => cI (call 28 [.int x1, .int 0, .int 100000] h1) (fun y3 h2 => (if y3 = 0 then bd S call dflT E_X12_job n 43 [some (.ref a0), some (.int x1), some (.int x2), some (.int x3), none] [.int 1, .ref a0] h2 else cI (call 28 [.int x2, .int 0, .int 10000] h2) (fun y5 h4 => (if y5 = 0 then bd S call dflT E_X12_job n 43 [some (.ref a0), some (.int x1), some (.int x2), some (.int x3), none] [.int 1, .ref a0] h4 else cI (call 28 [.int x3, .int 0, .int 29] h4) (fun y7 h6 => (if y7 = 0 then bd S call dflT E_X12_job n 43 [some (.ref a0), some (.int x1), some (.int x2), some (.int x3), none] [.int 1, .ref a0] h6 else bd S call dflT E_X12_job n 43 [some (.ref a0), some (.int x1), some (.int x2), some (.int x3), none] [.int 0, .ref a0] h6)))))))) := rfl
set_option maxRecDepth 100000 in
theorem g_X12_job_43 (S : sT) (call : cT) (n : Nat) (a0 : Nat) (x1 : Int32) (x2 : Int32) (x3 : Int32) (o4 : Option Value) (u0 : Value) (y1 : Int32) (h : pH) : bd S call dflT E_X12_job (n + 1) 43 [some (.ref a0), some (.int x1), some (.int x2), some (.int x3), o4] [.int y1, u0] h = (rC h u0 15 (cI (call 30 [u0, .int y1, .int 1] h) (fun y2 h1 => (if y2 = 0 then gV h1 (.ref a0) 15 1 (fun w3 => aI h1 w3 0 2237 (fun y4 => (if y4 = 6 then some (.inl (some (.int (-1))), h1) else gV h1 (.ref a0) 15 1 (fun w5 => sI h1 w5 0 (2238 + (3 * y4)) x1 (fun h6 => gV h6 (.ref a0) 15 1 (fun w7 => sI h6 w7 0 ((2238 + (3 * y4)) + 1) x2 (fun h8 => gV h8 (.ref a0) 15 1 (fun w9 => sI h8 w9 0 ((2238 + (3 * y4)) + 2) x3 (fun h10 => gV h10 (.ref a0) 15 1 (fun w11 => nl w11 (aI h10 w11 0 2237 (fun y12 => sI h10 w11 0 2237 (y12 + 1) (fun h13 => some (.inl (some (.int (y4 + 1))), h13)))))))))))))) else some (.inl (some (.int 0)), h1))))) := rfl
theorem dX12_trouble_0 : decode cX12_trouble 0 = .ok (.aload_n 0, 1) := by decide +kernel
theorem dX12_trouble_1 : decode cX12_trouble 1 = .ok (.iconst 0, 1) := by decide +kernel
theorem dX12_trouble_2 : decode cX12_trouble 2 = .ok (.putfield 3, 3) := by decide +kernel
theorem dX12_trouble_5 : decode cX12_trouble 5 = .ok (.aload_n 0, 1) := by decide +kernel
theorem dX12_trouble_6 : decode cX12_trouble 6 = .ok (.iload_n 1, 1) := by decide +kernel
theorem dX12_trouble_7 : decode cX12_trouble 7 = .ok (.ldc_w 456, 3) := by decide +kernel
theorem dX12_trouble_10 : decode cX12_trouble 10 = .ok (.ldc_w 366, 3) := by decide +kernel
theorem dX12_trouble_13 : decode cX12_trouble 13 = .ok (.invokestatic 63, 3) := by decide +kernel
theorem dX12_trouble_16 : decode cX12_trouble 16 = .ok (.ifCond .eq 16, 3) := by decide +kernel
theorem dX12_trouble_19 : decode cX12_trouble 19 = .ok (.iload_n 2, 1) := by decide +kernel
theorem dX12_trouble_20 : decode cX12_trouble 20 = .ok (.sipush (-1000), 3) := by decide +kernel
theorem dX12_trouble_23 : decode cX12_trouble 23 = .ok (.sipush 1000, 3) := by decide +kernel
theorem dX12_trouble_26 : decode cX12_trouble 26 = .ok (.invokestatic 63, 3) := by decide +kernel
theorem dX12_trouble_29 : decode cX12_trouble 29 = .ok (.ifCond .ne 7, 3) := by decide +kernel
theorem dX12_trouble_32 : decode cX12_trouble 32 = .ok (.iconst 1, 1) := by decide +kernel
theorem dX12_trouble_33 : decode cX12_trouble 33 = .ok (.goto 4, 3) := by decide +kernel
theorem dX12_trouble_36 : decode cX12_trouble 36 = .ok (.iconst 0, 1) := by decide +kernel
theorem dX12_trouble_37 : decode cX12_trouble 37 = .ok (.iconst 1, 1) := by decide +kernel
theorem dX12_trouble_38 : decode cX12_trouble 38 = .ok (.invokevirtual 75, 3) := by decide +kernel
theorem dX12_trouble_41 : decode cX12_trouble 41 = .ok (.ifCond .eq 5, 3) := by decide +kernel
theorem dX12_trouble_44 : decode cX12_trouble 44 = .ok (.iconst 0, 1) := by decide +kernel
theorem dX12_trouble_45 : decode cX12_trouble 45 = .ok (.ireturn, 1) := by decide +kernel
theorem dX12_trouble_46 : decode cX12_trouble 46 = .ok (.aload_n 0, 1) := by decide +kernel
theorem dX12_trouble_47 : decode cX12_trouble 47 = .ok (.getfield 27, 3) := by decide +kernel
theorem dX12_trouble_50 : decode cX12_trouble 50 = .ok (.sipush 2256, 3) := by decide +kernel
theorem dX12_trouble_53 : decode cX12_trouble 53 = .ok (.iaload, 1) := by decide +kernel
theorem dX12_trouble_54 : decode cX12_trouble 54 = .ok (.istore_n 3, 1) := by decide +kernel
theorem dX12_trouble_55 : decode cX12_trouble 55 = .ok (.iload_n 3, 1) := by decide +kernel
theorem dX12_trouble_56 : decode cX12_trouble 56 = .ok (.iconst 4, 1) := by decide +kernel
theorem dX12_trouble_57 : decode cX12_trouble 57 = .ok (.if_icmp .ne 5, 3) := by decide +kernel
theorem dX12_trouble_60 : decode cX12_trouble 60 = .ok (.iconst (-1), 1) := by decide +kernel
theorem dX12_trouble_61 : decode cX12_trouble 61 = .ok (.ireturn, 1) := by decide +kernel
theorem dX12_trouble_62 : decode cX12_trouble 62 = .ok (.aload_n 0, 1) := by decide +kernel
theorem dX12_trouble_63 : decode cX12_trouble 63 = .ok (.getfield 27, 3) := by decide +kernel
theorem dX12_trouble_66 : decode cX12_trouble 66 = .ok (.sipush 2257, 3) := by decide +kernel
theorem dX12_trouble_69 : decode cX12_trouble 69 = .ok (.iconst 2, 1) := by decide +kernel
theorem dX12_trouble_70 : decode cX12_trouble 70 = .ok (.iload_n 3, 1) := by decide +kernel
theorem dX12_trouble_71 : decode cX12_trouble 71 = .ok (.imul, 1) := by decide +kernel
theorem dX12_trouble_72 : decode cX12_trouble 72 = .ok (.iadd, 1) := by decide +kernel
theorem dX12_trouble_73 : decode cX12_trouble 73 = .ok (.iload_n 1, 1) := by decide +kernel
theorem dX12_trouble_74 : decode cX12_trouble 74 = .ok (.iastore, 1) := by decide +kernel
theorem dX12_trouble_75 : decode cX12_trouble 75 = .ok (.aload_n 0, 1) := by decide +kernel
theorem dX12_trouble_76 : decode cX12_trouble 76 = .ok (.getfield 27, 3) := by decide +kernel
theorem dX12_trouble_79 : decode cX12_trouble 79 = .ok (.sipush 2257, 3) := by decide +kernel
theorem dX12_trouble_82 : decode cX12_trouble 82 = .ok (.iconst 2, 1) := by decide +kernel
theorem dX12_trouble_83 : decode cX12_trouble 83 = .ok (.iload_n 3, 1) := by decide +kernel
theorem dX12_trouble_84 : decode cX12_trouble 84 = .ok (.imul, 1) := by decide +kernel
theorem dX12_trouble_85 : decode cX12_trouble 85 = .ok (.iadd, 1) := by decide +kernel
theorem dX12_trouble_86 : decode cX12_trouble 86 = .ok (.iconst 1, 1) := by decide +kernel
theorem dX12_trouble_87 : decode cX12_trouble 87 = .ok (.iadd, 1) := by decide +kernel
theorem dX12_trouble_88 : decode cX12_trouble 88 = .ok (.iload_n 2, 1) := by decide +kernel
theorem dX12_trouble_89 : decode cX12_trouble 89 = .ok (.iastore, 1) := by decide +kernel
theorem dX12_trouble_90 : decode cX12_trouble 90 = .ok (.aload_n 0, 1) := by decide +kernel
theorem dX12_trouble_91 : decode cX12_trouble 91 = .ok (.getfield 27, 3) := by decide +kernel
theorem dX12_trouble_94 : decode cX12_trouble 94 = .ok (.sipush 2256, 3) := by decide +kernel
theorem dX12_trouble_97 : decode cX12_trouble 97 = .ok (.dup2, 1) := by decide +kernel
theorem dX12_trouble_98 : decode cX12_trouble 98 = .ok (.iaload, 1) := by decide +kernel
theorem dX12_trouble_99 : decode cX12_trouble 99 = .ok (.iconst 1, 1) := by decide +kernel
theorem dX12_trouble_100 : decode cX12_trouble 100 = .ok (.iadd, 1) := by decide +kernel
theorem dX12_trouble_101 : decode cX12_trouble 101 = .ok (.iastore, 1) := by decide +kernel
theorem dX12_trouble_102 : decode cX12_trouble 102 = .ok (.iload_n 3, 1) := by decide +kernel
theorem dX12_trouble_103 : decode cX12_trouble 103 = .ok (.iconst 1, 1) := by decide +kernel
theorem dX12_trouble_104 : decode cX12_trouble 104 = .ok (.iadd, 1) := by decide +kernel
theorem dX12_trouble_105 : decode cX12_trouble 105 = .ok (.ireturn, 1) := by decide +kernel
noncomputable def E_X12_trouble : mE := (mX12_trouble, [(47, [(0, (.aload_n 0, 1, false, false, 0, 0, 0, 0, 0, 0, [])), (1, (.iconst 0, 2, false, false, 0, 0, 0, 0, 0, 0, [])), (2, (.putfield 3, 5, false, false, 15, 0, 0, 0, 0, 0, [])), (5, (.aload_n 0, 6, false, false, 0, 0, 0, 0, 0, 0, [])), (6, (.iload_n 1, 7, false, false, 1, 0, 0, 0, 0, 0, [])), (7, (.ldc_w 456, 10, false, false, 0, 0, 0, 0, -100000, 0, [])), (10, (.ldc_w 366, 13, false, false, 0, 0, 0, 0, 100000, 0, [])), (13, (.invokestatic 63, 16, false, false, 28, 3, 1, 0, 0, 0, [])), (16, (.ifCond .eq 16, 19, false, false, 32, 0, 0, 0, 0, 0, [])), (19, (.iload_n 2, 20, false, false, 2, 0, 0, 0, 0, 0, [])), (20, (.sipush (-1000), 23, false, false, 0, 0, 0, 0, -1000, 0, [])), (23, (.sipush 1000, 26, false, false, 0, 0, 0, 0, 1000, 0, [])), (26, (.invokestatic 63, 29, false, false, 28, 3, 1, 0, 0, 0, [])), (29, (.ifCond .ne 7, 32, false, false, 36, 0, 0, 0, 0, 0, [])), (32, (.iconst 1, 33, false, false, 0, 0, 0, 0, 1, 0, [])), (33, (.goto 4, 36, false, true, 37, 0, 0, 0, 0, 0, [])), (36, (.iconst 0, 37, true, false, 0, 0, 0, 0, 0, 0, [])), (37, (.iconst 1, 38, false, false, 0, 0, 0, 0, 1, 0, [])), (38, (.invokevirtual 75, 41, false, false, 30, 2, 1, 15, 0, 0, [])), (41, (.ifCond .eq 5, 44, false, false, 46, 0, 0, 0, 0, 0, [])), (44, (.iconst 0, 45, false, false, 0, 0, 0, 0, 0, 0, [])), (45, (.ireturn, 46, false, false, 0, 0, 0, 0, 0, 0, [])), (46, (.aload_n 0, 47, false, false, 0, 0, 0, 0, 0, 0, [])), (47, (.getfield 27, 50, false, false, 15, 1, 1, 0, 0, 0, []))]),
  (85, [(50, (.sipush 2256, 53, false, false, 0, 0, 0, 0, 2256, 0, [])), (53, (.iaload, 54, false, false, 0, 0, 0, 0, 0, 0, [])), (54, (.istore_n 3, 55, false, false, 3, 0, 0, 0, 0, 0, [])), (55, (.iload_n 3, 56, false, false, 3, 0, 0, 0, 0, 0, [])), (56, (.iconst 4, 57, false, false, 0, 0, 0, 0, 4, 0, [])), (57, (.if_icmp .ne 5, 60, false, false, 62, 0, 0, 0, 0, 0, [])), (60, (.iconst (-1), 61, false, false, 0, 0, 0, 0, -1, 0, [])), (61, (.ireturn, 62, false, false, 0, 0, 0, 0, 0, 0, [])), (62, (.aload_n 0, 63, false, false, 0, 0, 0, 0, 0, 0, [])), (63, (.getfield 27, 66, false, false, 15, 1, 1, 0, 0, 0, [])), (66, (.sipush 2257, 69, false, false, 0, 0, 0, 0, 2257, 0, [])), (69, (.iconst 2, 70, false, false, 0, 0, 0, 0, 2, 0, [])), (70, (.iload_n 3, 71, false, false, 3, 0, 0, 0, 0, 0, [])), (71, (.imul, 72, false, false, 0, 0, 0, 0, 0, 0, [])), (72, (.iadd, 73, false, false, 0, 0, 0, 0, 0, 0, [])), (73, (.iload_n 1, 74, false, false, 1, 0, 0, 0, 0, 0, [])), (74, (.iastore, 75, false, false, 0, 0, 0, 0, 0, 0, [])), (75, (.aload_n 0, 76, false, false, 0, 0, 0, 0, 0, 0, [])), (76, (.getfield 27, 79, false, false, 15, 1, 1, 0, 0, 0, [])), (79, (.sipush 2257, 82, false, false, 0, 0, 0, 0, 2257, 0, [])), (82, (.iconst 2, 83, false, false, 0, 0, 0, 0, 2, 0, [])), (83, (.iload_n 3, 84, false, false, 3, 0, 0, 0, 0, 0, [])), (84, (.imul, 85, false, false, 0, 0, 0, 0, 0, 0, [])), (85, (.iadd, 86, false, false, 0, 0, 0, 0, 0, 0, []))]),
  (105, [(86, (.iconst 1, 87, false, false, 0, 0, 0, 0, 1, 0, [])), (87, (.iadd, 88, false, false, 0, 0, 0, 0, 0, 0, [])), (88, (.iload_n 2, 89, false, false, 2, 0, 0, 0, 0, 0, [])), (89, (.iastore, 90, false, false, 0, 0, 0, 0, 0, 0, [])), (90, (.aload_n 0, 91, false, false, 0, 0, 0, 0, 0, 0, [])), (91, (.getfield 27, 94, false, false, 15, 1, 1, 0, 0, 0, [])), (94, (.sipush 2256, 97, false, false, 0, 0, 0, 0, 2256, 0, [])), (97, (.dup2, 98, false, false, 0, 0, 0, 0, 0, 0, [])), (98, (.iaload, 99, false, false, 0, 0, 0, 0, 0, 0, [])), (99, (.iconst 1, 100, false, false, 0, 0, 0, 0, 1, 0, [])), (100, (.iadd, 101, false, false, 0, 0, 0, 0, 0, 0, [])), (101, (.iastore, 102, false, false, 0, 0, 0, 0, 0, 0, [])), (102, (.iload_n 3, 103, false, false, 3, 0, 0, 0, 0, 0, [])), (103, (.iconst 1, 104, false, false, 0, 0, 0, 0, 1, 0, [])), (104, (.iadd, 105, false, false, 0, 0, 0, 0, 0, 0, [])), (105, (.ireturn, 106, false, false, 0, 0, 0, 0, 0, 0, []))])], 0, [])
set_option maxRecDepth 100000 in
theorem v_X12_trouble : VE MYT dflT E_X12_trouble := ⟨⟨⟨⟨⟨dX12_trouble_0, rfl⟩, rfl⟩, ⟨⟨dX12_trouble_1, rfl⟩, rfl⟩, ⟨⟨dX12_trouble_2, rfl⟩, Or.inl ⟨rfl, fX12_3⟩⟩, ⟨⟨dX12_trouble_5, rfl⟩, rfl⟩, ⟨⟨dX12_trouble_6, rfl⟩, rfl⟩, ⟨⟨dX12_trouble_7, rfl⟩, Or.inl ⟨rfl, kX12_456⟩⟩, ⟨⟨dX12_trouble_10, rfl⟩, Or.inl ⟨rfl, kX12_366⟩⟩, ⟨⟨dX12_trouble_13, rfl⟩, Or.inl ⟨rfl, _, my_28, sX12_63⟩⟩, ⟨⟨dX12_trouble_16, rfl⟩, rfl⟩, ⟨⟨dX12_trouble_19, rfl⟩, rfl⟩, ⟨⟨dX12_trouble_20, rfl⟩, rfl⟩, ⟨⟨dX12_trouble_23, rfl⟩, rfl⟩, ⟨⟨dX12_trouble_26, rfl⟩, Or.inl ⟨rfl, _, my_28, sX12_63⟩⟩, ⟨⟨dX12_trouble_29, rfl⟩, rfl⟩, ⟨⟨dX12_trouble_32, rfl⟩, rfl⟩, ⟨⟨dX12_trouble_33, rfl⟩, rfl⟩, ⟨⟨dX12_trouble_36, rfl⟩, rfl⟩, ⟨⟨dX12_trouble_37, rfl⟩, rfl⟩, ⟨⟨dX12_trouble_38, rfl⟩, Or.inr ⟨by decide, ⟨_, my_30, sX12_75⟩, fun q => absurd q (by decide)⟩⟩, ⟨⟨dX12_trouble_41, rfl⟩, rfl⟩, ⟨⟨dX12_trouble_44, rfl⟩, rfl⟩, ⟨⟨dX12_trouble_45, rfl⟩, Or.inl ⟨rfl, rfl⟩⟩, ⟨⟨dX12_trouble_46, rfl⟩, rfl⟩, ⟨⟨dX12_trouble_47, rfl⟩, Or.inl ⟨by decide, _, _, fX12_27⟩⟩, trivial⟩,
  ⟨⟨⟨dX12_trouble_50, rfl⟩, rfl⟩, ⟨⟨dX12_trouble_53, rfl⟩, trivial⟩, ⟨⟨dX12_trouble_54, rfl⟩, rfl⟩, ⟨⟨dX12_trouble_55, rfl⟩, rfl⟩, ⟨⟨dX12_trouble_56, rfl⟩, rfl⟩, ⟨⟨dX12_trouble_57, rfl⟩, rfl⟩, ⟨⟨dX12_trouble_60, rfl⟩, rfl⟩, ⟨⟨dX12_trouble_61, rfl⟩, Or.inl ⟨rfl, rfl⟩⟩, ⟨⟨dX12_trouble_62, rfl⟩, rfl⟩, ⟨⟨dX12_trouble_63, rfl⟩, Or.inl ⟨by decide, _, _, fX12_27⟩⟩, ⟨⟨dX12_trouble_66, rfl⟩, rfl⟩, ⟨⟨dX12_trouble_69, rfl⟩, rfl⟩, ⟨⟨dX12_trouble_70, rfl⟩, rfl⟩, ⟨⟨dX12_trouble_71, rfl⟩, trivial⟩, ⟨⟨dX12_trouble_72, rfl⟩, trivial⟩, ⟨⟨dX12_trouble_73, rfl⟩, rfl⟩, ⟨⟨dX12_trouble_74, rfl⟩, trivial⟩, ⟨⟨dX12_trouble_75, rfl⟩, rfl⟩, ⟨⟨dX12_trouble_76, rfl⟩, Or.inl ⟨by decide, _, _, fX12_27⟩⟩, ⟨⟨dX12_trouble_79, rfl⟩, rfl⟩, ⟨⟨dX12_trouble_82, rfl⟩, rfl⟩, ⟨⟨dX12_trouble_83, rfl⟩, rfl⟩, ⟨⟨dX12_trouble_84, rfl⟩, trivial⟩, ⟨⟨dX12_trouble_85, rfl⟩, trivial⟩, trivial⟩,
  ⟨⟨⟨dX12_trouble_86, rfl⟩, rfl⟩, ⟨⟨dX12_trouble_87, rfl⟩, trivial⟩, ⟨⟨dX12_trouble_88, rfl⟩, rfl⟩, ⟨⟨dX12_trouble_89, rfl⟩, trivial⟩, ⟨⟨dX12_trouble_90, rfl⟩, rfl⟩, ⟨⟨dX12_trouble_91, rfl⟩, Or.inl ⟨by decide, _, _, fX12_27⟩⟩, ⟨⟨dX12_trouble_94, rfl⟩, rfl⟩, ⟨⟨dX12_trouble_97, rfl⟩, trivial⟩, ⟨⟨dX12_trouble_98, rfl⟩, trivial⟩, ⟨⟨dX12_trouble_99, rfl⟩, rfl⟩, ⟨⟨dX12_trouble_100, rfl⟩, trivial⟩, ⟨⟨dX12_trouble_101, rfl⟩, trivial⟩, ⟨⟨dX12_trouble_102, rfl⟩, rfl⟩, ⟨⟨dX12_trouble_103, rfl⟩, rfl⟩, ⟨⟨dX12_trouble_104, rfl⟩, trivial⟩, ⟨⟨dX12_trouble_105, rfl⟩, Or.inl ⟨rfl, rfl⟩⟩, trivial⟩, trivial⟩, by decide, Or.inl ⟨rfl, by decide, rfl⟩⟩
set_option maxRecDepth 100000 in
theorem g_X12_trouble_0 (S : sT) (call : cT) (n : Nat) (a0 : Nat) (x1 : Int32) (x2 : Int32) (h : pH) : bd S call dflT E_X12_trouble (n + 1) 0 [some (.ref a0), some (.int x1), some (.int x2), none] [] h = (pF h (.ref a0) 15 0 (.int 0) (fun h1 => cI (call 28 [.int x1, .int (-100000), .int 100000] h1) (fun y3 h2 => (if y3 = 0 then bd S call dflT E_X12_trouble n 37 [some (.ref a0), some (.int x1), some (.int x2), none] [.int 1, .ref a0] h2 else cI (call 28 [.int x2, .int (-1000), .int 1000] h2) (fun y5 h4 => (if y5 = 0 then bd S call dflT E_X12_trouble n 37 [some (.ref a0), some (.int x1), some (.int x2), none] [.int 1, .ref a0] h4 else bd S call dflT E_X12_trouble n 37 [some (.ref a0), some (.int x1), some (.int x2), none] [.int 0, .ref a0] h4)))))) := rfl
set_option maxRecDepth 100000 in
theorem g_X12_trouble_37 (S : sT) (call : cT) (n : Nat) (a0 : Nat) (x1 : Int32) (x2 : Int32) (o3 : Option Value) (u0 : Value) (y1 : Int32) (h : pH) : bd S call dflT E_X12_trouble (n + 1) 37 [some (.ref a0), some (.int x1), some (.int x2), o3] [.int y1, u0] h = (rC h u0 15 (cI (call 30 [u0, .int y1, .int 1] h) (fun y2 h1 => (if y2 = 0 then gV h1 (.ref a0) 15 1 (fun w3 => aI h1 w3 0 2256 (fun y4 => (if y4 = 4 then some (.inl (some (.int (-1))), h1) else gV h1 (.ref a0) 15 1 (fun w5 => sI h1 w5 0 (2257 + (2 * y4)) x1 (fun h6 => gV h6 (.ref a0) 15 1 (fun w7 => sI h6 w7 0 ((2257 + (2 * y4)) + 1) x2 (fun h8 => gV h8 (.ref a0) 15 1 (fun w9 => nl w9 (aI h8 w9 0 2256 (fun y10 => sI h8 w9 0 2256 (y10 + 1) (fun h11 => some (.inl (some (.int (y4 + 1))), h11)))))))))))) else some (.inl (some (.int 0)), h1))))) := rfl
theorem dX12_noPlan_0 : decode cX12_noPlan 0 = .ok (.iload_n 1, 1) := by decide +kernel
theorem dX12_noPlan_1 : decode cX12_noPlan 1 = .ok (.iconst 0, 1) := by decide +kernel
theorem dX12_noPlan_2 : decode cX12_noPlan 2 = .ok (.ldc_w 463, 3) := by decide +kernel
theorem dX12_noPlan_5 : decode cX12_noPlan 5 = .ok (.invokestatic 63, 3) := by decide +kernel
theorem dX12_noPlan_8 : decode cX12_noPlan 8 = .ok (.ifCond .eq 14, 3) := by decide +kernel
theorem dX12_noPlan_11 : decode cX12_noPlan 11 = .ok (.iload_n 2, 1) := by decide +kernel
theorem dX12_noPlan_12 : decode cX12_noPlan 12 = .ok (.iconst 0, 1) := by decide +kernel
theorem dX12_noPlan_13 : decode cX12_noPlan 13 = .ok (.ldc_w 366, 3) := by decide +kernel
theorem dX12_noPlan_16 : decode cX12_noPlan 16 = .ok (.invokestatic 63, 3) := by decide +kernel
theorem dX12_noPlan_19 : decode cX12_noPlan 19 = .ok (.ifCond .ne 7, 3) := by decide +kernel
theorem dX12_noPlan_22 : decode cX12_noPlan 22 = .ok (.iconst 1, 1) := by decide +kernel
theorem dX12_noPlan_23 : decode cX12_noPlan 23 = .ok (.goto 4, 3) := by decide +kernel
theorem dX12_noPlan_26 : decode cX12_noPlan 26 = .ok (.iconst 0, 1) := by decide +kernel
theorem dX12_noPlan_27 : decode cX12_noPlan 27 = .ok (.ireturn, 1) := by decide +kernel
noncomputable def E_X12_noPlan : mE := (mX12_noPlan, [(27, [(0, (.iload_n 1, 1, false, false, 1, 0, 0, 0, 0, 0, [])), (1, (.iconst 0, 2, false, false, 0, 0, 0, 0, 0, 0, [])), (2, (.ldc_w 463, 5, false, false, 0, 0, 0, 0, 1000000, 0, [])), (5, (.invokestatic 63, 8, false, false, 28, 3, 1, 0, 0, 0, [])), (8, (.ifCond .eq 14, 11, false, false, 22, 0, 0, 0, 0, 0, [])), (11, (.iload_n 2, 12, false, false, 2, 0, 0, 0, 0, 0, [])), (12, (.iconst 0, 13, false, false, 0, 0, 0, 0, 0, 0, [])), (13, (.ldc_w 366, 16, false, false, 0, 0, 0, 0, 100000, 0, [])), (16, (.invokestatic 63, 19, false, false, 28, 3, 1, 0, 0, 0, [])), (19, (.ifCond .ne 7, 22, false, false, 26, 0, 0, 0, 0, 0, [])), (22, (.iconst 1, 23, false, false, 0, 0, 0, 0, 1, 0, [])), (23, (.goto 4, 26, false, false, 27, 0, 0, 0, 0, 0, [])), (26, (.iconst 0, 27, false, false, 0, 0, 0, 0, 0, 0, [])), (27, (.ireturn, 28, false, false, 0, 0, 1, 0, 0, 0, []))])], 0, [])
set_option maxRecDepth 100000 in
theorem v_X12_noPlan : VE MYT dflT E_X12_noPlan := ⟨⟨⟨⟨⟨dX12_noPlan_0, rfl⟩, rfl⟩, ⟨⟨dX12_noPlan_1, rfl⟩, rfl⟩, ⟨⟨dX12_noPlan_2, rfl⟩, Or.inl ⟨rfl, kX12_463⟩⟩, ⟨⟨dX12_noPlan_5, rfl⟩, Or.inl ⟨rfl, _, my_28, sX12_63⟩⟩, ⟨⟨dX12_noPlan_8, rfl⟩, rfl⟩, ⟨⟨dX12_noPlan_11, rfl⟩, rfl⟩, ⟨⟨dX12_noPlan_12, rfl⟩, rfl⟩, ⟨⟨dX12_noPlan_13, rfl⟩, Or.inl ⟨rfl, kX12_366⟩⟩, ⟨⟨dX12_noPlan_16, rfl⟩, Or.inl ⟨rfl, _, my_28, sX12_63⟩⟩, ⟨⟨dX12_noPlan_19, rfl⟩, rfl⟩, ⟨⟨dX12_noPlan_22, rfl⟩, rfl⟩, ⟨⟨dX12_noPlan_23, rfl⟩, rfl⟩, ⟨⟨dX12_noPlan_26, rfl⟩, rfl⟩, ⟨⟨dX12_noPlan_27, rfl⟩, Or.inr (Or.inl ⟨rfl, rfl⟩)⟩, trivial⟩, trivial⟩, by decide, Or.inl ⟨rfl, by decide, rfl⟩⟩
set_option maxRecDepth 100000 in
theorem g_X12_noPlan_0 (S : sT) (call : cT) (n : Nat) (a0 : Nat) (x1 : Int32) (x2 : Int32) (h : pH) : bd S call dflT E_X12_noPlan (n + 1) 0 [some (.ref a0), some (.int x1), some (.int x2)] [] h = (cI (call 28 [.int x1, .int 0, .int 1000000] h) (fun y2 h1 => (if y2 = 0 then zR 1 (some (.inl (some (.int 1)), h1)) else cI (call 28 [.int x2, .int 0, .int 100000] h1) (fun y4 h3 => (if y4 = 0 then zR 1 (some (.inl (some (.int 1)), h3)) else zR 0 (some (.inl (some (.int 0)), h3))))))) := rfl
theorem dX12_endsWith_0 : decode cX12_endsWith 0 = .ok (.iload_n 1, 1) := by decide +kernel
theorem dX12_endsWith_1 : decode cX12_endsWith 1 = .ok (.istore 6, 2) := by decide +kernel
theorem dX12_endsWith_3 : decode cX12_endsWith 3 = .ok (.iconst 0, 1) := by decide +kernel
theorem dX12_endsWith_4 : decode cX12_endsWith 4 = .ok (.istore 7, 2) := by decide +kernel
theorem dX12_endsWith_6 : decode cX12_endsWith 6 = .ok (.iload 7, 2) := by decide +kernel
theorem dX12_endsWith_8 : decode cX12_endsWith 8 = .ok (.bipush 30, 2) := by decide +kernel
theorem dX12_endsWith_10 : decode cX12_endsWith 10 = .ok (.if_icmp .ge 139, 3) := by decide +kernel
theorem dX12_endsWith_13 : decode cX12_endsWith 13 = .ok (.iload 6, 2) := by decide +kernel
theorem dX12_endsWith_15 : decode cX12_endsWith 15 = .ok (.iload 4, 2) := by decide +kernel
theorem dX12_endsWith_17 : decode cX12_endsWith 17 = .ok (.iload 5, 2) := by decide +kernel
theorem dX12_endsWith_19 : decode cX12_endsWith 19 = .ok (.iload 7, 2) := by decide +kernel
theorem dX12_endsWith_21 : decode cX12_endsWith 21 = .ok (.imul, 1) := by decide +kernel
theorem dX12_endsWith_22 : decode cX12_endsWith 22 = .ok (.iadd, 1) := by decide +kernel
theorem dX12_endsWith_23 : decode cX12_endsWith 23 = .ok (.iload_n 2, 1) := by decide +kernel
theorem dX12_endsWith_24 : decode cX12_endsWith 24 = .ok (.isub, 1) := by decide +kernel
theorem dX12_endsWith_25 : decode cX12_endsWith 25 = .ok (.iadd, 1) := by decide +kernel
theorem dX12_endsWith_26 : decode cX12_endsWith 26 = .ok (.istore 6, 2) := by decide +kernel
theorem dX12_endsWith_28 : decode cX12_endsWith 28 = .ok (.iconst 0, 1) := by decide +kernel
theorem dX12_endsWith_29 : decode cX12_endsWith 29 = .ok (.istore 8, 2) := by decide +kernel
theorem dX12_endsWith_31 : decode cX12_endsWith 31 = .ok (.iload 8, 2) := by decide +kernel
theorem dX12_endsWith_33 : decode cX12_endsWith 33 = .ok (.aload_n 0, 1) := by decide +kernel
theorem dX12_endsWith_34 : decode cX12_endsWith 34 = .ok (.getfield 27, 3) := by decide +kernel
theorem dX12_endsWith_37 : decode cX12_endsWith 37 = .ok (.sipush 2237, 3) := by decide +kernel
theorem dX12_endsWith_40 : decode cX12_endsWith 40 = .ok (.iaload, 1) := by decide +kernel
theorem dX12_endsWith_41 : decode cX12_endsWith 41 = .ok (.if_icmp .ge 93, 3) := by decide +kernel
theorem dX12_endsWith_44 : decode cX12_endsWith 44 = .ok (.iload_n 3, 1) := by decide +kernel
theorem dX12_endsWith_45 : decode cX12_endsWith 45 = .ok (.iload 8, 2) := by decide +kernel
theorem dX12_endsWith_47 : decode cX12_endsWith 47 = .ok (.ishr, 1) := by decide +kernel
theorem dX12_endsWith_48 : decode cX12_endsWith 48 = .ok (.iconst 1, 1) := by decide +kernel
theorem dX12_endsWith_49 : decode cX12_endsWith 49 = .ok (.iand, 1) := by decide +kernel
theorem dX12_endsWith_50 : decode cX12_endsWith 50 = .ok (.ifCond .ne 6, 3) := by decide +kernel
theorem dX12_endsWith_53 : decode cX12_endsWith 53 = .ok (.goto 75, 3) := by decide +kernel
theorem dX12_endsWith_56 : decode cX12_endsWith 56 = .ok (.aload_n 0, 1) := by decide +kernel
theorem dX12_endsWith_57 : decode cX12_endsWith 57 = .ok (.getfield 27, 3) := by decide +kernel
theorem dX12_endsWith_60 : decode cX12_endsWith 60 = .ok (.sipush 2238, 3) := by decide +kernel
theorem dX12_endsWith_63 : decode cX12_endsWith 63 = .ok (.iconst 3, 1) := by decide +kernel
theorem dX12_endsWith_64 : decode cX12_endsWith 64 = .ok (.iload 8, 2) := by decide +kernel
theorem dX12_endsWith_66 : decode cX12_endsWith 66 = .ok (.imul, 1) := by decide +kernel
theorem dX12_endsWith_67 : decode cX12_endsWith 67 = .ok (.iadd, 1) := by decide +kernel
theorem dX12_endsWith_68 : decode cX12_endsWith 68 = .ok (.iconst 2, 1) := by decide +kernel
theorem dX12_endsWith_69 : decode cX12_endsWith 69 = .ok (.iadd, 1) := by decide +kernel
theorem dX12_endsWith_70 : decode cX12_endsWith 70 = .ok (.iaload, 1) := by decide +kernel
theorem dX12_endsWith_71 : decode cX12_endsWith 71 = .ok (.istore 9, 2) := by decide +kernel
theorem dX12_endsWith_73 : decode cX12_endsWith 73 = .ok (.iload 6, 2) := by decide +kernel
theorem dX12_endsWith_75 : decode cX12_endsWith 75 = .ok (.iload 9, 2) := by decide +kernel
theorem dX12_endsWith_77 : decode cX12_endsWith 77 = .ok (.iload 7, 2) := by decide +kernel
theorem dX12_endsWith_79 : decode cX12_endsWith 79 = .ok (.if_icmp .ge 21, 3) := by decide +kernel
theorem dX12_endsWith_82 : decode cX12_endsWith 82 = .ok (.aload_n 0, 1) := by decide +kernel
theorem dX12_endsWith_83 : decode cX12_endsWith 83 = .ok (.getfield 27, 3) := by decide +kernel
theorem dX12_endsWith_86 : decode cX12_endsWith 86 = .ok (.sipush 2238, 3) := by decide +kernel
theorem dX12_endsWith_89 : decode cX12_endsWith 89 = .ok (.iconst 3, 1) := by decide +kernel
theorem dX12_endsWith_90 : decode cX12_endsWith 90 = .ok (.iload 8, 2) := by decide +kernel
theorem dX12_endsWith_92 : decode cX12_endsWith 92 = .ok (.imul, 1) := by decide +kernel
theorem dX12_endsWith_93 : decode cX12_endsWith 93 = .ok (.iadd, 1) := by decide +kernel
theorem dX12_endsWith_94 : decode cX12_endsWith 94 = .ok (.iconst 1, 1) := by decide +kernel
theorem dX12_endsWith_95 : decode cX12_endsWith 95 = .ok (.iadd, 1) := by decide +kernel
theorem dX12_endsWith_96 : decode cX12_endsWith 96 = .ok (.iaload, 1) := by decide +kernel
theorem dX12_endsWith_97 : decode cX12_endsWith 97 = .ok (.goto 28, 3) := by decide +kernel
theorem dX12_endsWith_100 : decode cX12_endsWith 100 = .ok (.iload 9, 2) := by decide +kernel
theorem dX12_endsWith_102 : decode cX12_endsWith 102 = .ok (.iload 7, 2) := by decide +kernel
theorem dX12_endsWith_104 : decode cX12_endsWith 104 = .ok (.if_icmp .ne 20, 3) := by decide +kernel
theorem dX12_endsWith_107 : decode cX12_endsWith 107 = .ok (.aload_n 0, 1) := by decide +kernel
theorem dX12_endsWith_108 : decode cX12_endsWith 108 = .ok (.getfield 27, 3) := by decide +kernel
theorem dX12_endsWith_111 : decode cX12_endsWith 111 = .ok (.sipush 2238, 3) := by decide +kernel
theorem dX12_endsWith_114 : decode cX12_endsWith 114 = .ok (.iconst 3, 1) := by decide +kernel
theorem dX12_endsWith_115 : decode cX12_endsWith 115 = .ok (.iload 8, 2) := by decide +kernel
theorem dX12_endsWith_117 : decode cX12_endsWith 117 = .ok (.imul, 1) := by decide +kernel
theorem dX12_endsWith_118 : decode cX12_endsWith 118 = .ok (.iadd, 1) := by decide +kernel
theorem dX12_endsWith_119 : decode cX12_endsWith 119 = .ok (.iaload, 1) := by decide +kernel
theorem dX12_endsWith_120 : decode cX12_endsWith 120 = .ok (.ineg, 1) := by decide +kernel
theorem dX12_endsWith_121 : decode cX12_endsWith 121 = .ok (.goto 4, 3) := by decide +kernel
theorem dX12_endsWith_124 : decode cX12_endsWith 124 = .ok (.iconst 0, 1) := by decide +kernel
theorem dX12_endsWith_125 : decode cX12_endsWith 125 = .ok (.iadd, 1) := by decide +kernel
theorem dX12_endsWith_126 : decode cX12_endsWith 126 = .ok (.istore 6, 2) := by decide +kernel
theorem dX12_endsWith_128 : decode cX12_endsWith 128 = .ok (.iinc 8 1, 3) := by decide +kernel
theorem dX12_endsWith_131 : decode cX12_endsWith 131 = .ok (.goto (-100), 3) := by decide +kernel
theorem dX12_endsWith_134 : decode cX12_endsWith 134 = .ok (.iload 6, 2) := by decide +kernel
theorem dX12_endsWith_136 : decode cX12_endsWith 136 = .ok (.ifCond .ge 7, 3) := by decide +kernel
theorem dX12_endsWith_139 : decode cX12_endsWith 139 = .ok (.ldc_w 457, 3) := by decide +kernel
theorem dX12_endsWith_142 : decode cX12_endsWith 142 = .ok (.ireturn, 1) := by decide +kernel
theorem dX12_endsWith_143 : decode cX12_endsWith 143 = .ok (.iinc 7 1, 3) := by decide +kernel
theorem dX12_endsWith_146 : decode cX12_endsWith 146 = .ok (.goto (-140), 3) := by decide +kernel
theorem dX12_endsWith_149 : decode cX12_endsWith 149 = .ok (.iload 6, 2) := by decide +kernel
theorem dX12_endsWith_151 : decode cX12_endsWith 151 = .ok (.ireturn, 1) := by decide +kernel
noncomputable def E_X12_endsWith : mE := (mX12_endsWith, [(40, [(0, (.iload_n 1, 1, false, false, 1, 0, 0, 0, 0, 0, [])), (1, (.istore 6, 3, false, false, 6, 0, 0, 0, 0, 0, [])), (3, (.iconst 0, 4, false, false, 0, 0, 0, 0, 0, 0, [])), (4, (.istore 7, 6, true, false, 7, 0, 0, 0, 0, 0, [])), (6, (.iload 7, 8, false, false, 7, 0, 0, 0, 0, 0, [])), (8, (.bipush 30, 10, false, false, 0, 0, 0, 0, 30, 0, [])), (10, (.if_icmp .ge 139, 13, false, false, 149, 0, 0, 0, 0, 0, [])), (13, (.iload 6, 15, false, false, 6, 0, 0, 0, 0, 0, [])), (15, (.iload 4, 17, false, false, 4, 0, 0, 0, 0, 0, [])), (17, (.iload 5, 19, false, false, 5, 0, 0, 0, 0, 0, [])), (19, (.iload 7, 21, false, false, 7, 0, 0, 0, 0, 0, [])), (21, (.imul, 22, false, false, 0, 0, 0, 0, 0, 0, [])), (22, (.iadd, 23, false, false, 0, 0, 0, 0, 0, 0, [])), (23, (.iload_n 2, 24, false, false, 2, 0, 0, 0, 0, 0, [])), (24, (.isub, 25, false, false, 0, 0, 0, 0, 0, 0, [])), (25, (.iadd, 26, false, false, 0, 0, 0, 0, 0, 0, [])), (26, (.istore 6, 28, false, false, 6, 0, 0, 0, 0, 0, [])), (28, (.iconst 0, 29, false, false, 0, 0, 0, 0, 0, 0, [])), (29, (.istore 8, 31, true, false, 8, 0, 0, 0, 0, 0, [])), (31, (.iload 8, 33, false, false, 8, 0, 0, 0, 0, 0, [])), (33, (.aload_n 0, 34, false, false, 0, 0, 0, 0, 0, 0, [])), (34, (.getfield 27, 37, false, false, 15, 1, 1, 0, 0, 0, [])), (37, (.sipush 2237, 40, false, false, 0, 0, 0, 0, 2237, 0, [])), (40, (.iaload, 41, false, false, 0, 0, 0, 0, 0, 0, []))]),
  (82, [(41, (.if_icmp .ge 93, 44, false, false, 134, 0, 0, 0, 0, 0, [])), (44, (.iload_n 3, 45, false, false, 3, 0, 0, 0, 0, 0, [])), (45, (.iload 8, 47, false, false, 8, 0, 0, 0, 0, 0, [])), (47, (.ishr, 48, false, false, 0, 0, 0, 0, 0, 0, [])), (48, (.iconst 1, 49, false, false, 0, 0, 0, 0, 1, 0, [])), (49, (.iand, 50, false, false, 0, 0, 0, 0, 0, 0, [])), (50, (.ifCond .ne 6, 53, false, false, 56, 0, 0, 0, 0, 0, [])), (53, (.goto 75, 56, false, false, 128, 0, 0, 0, 0, 0, [])), (56, (.aload_n 0, 57, false, false, 0, 0, 0, 0, 0, 0, [])), (57, (.getfield 27, 60, false, false, 15, 1, 1, 0, 0, 0, [])), (60, (.sipush 2238, 63, false, false, 0, 0, 0, 0, 2238, 0, [])), (63, (.iconst 3, 64, false, false, 0, 0, 0, 0, 3, 0, [])), (64, (.iload 8, 66, false, false, 8, 0, 0, 0, 0, 0, [])), (66, (.imul, 67, false, false, 0, 0, 0, 0, 0, 0, [])), (67, (.iadd, 68, false, false, 0, 0, 0, 0, 0, 0, [])), (68, (.iconst 2, 69, false, false, 0, 0, 0, 0, 2, 0, [])), (69, (.iadd, 70, false, false, 0, 0, 0, 0, 0, 0, [])), (70, (.iaload, 71, false, false, 0, 0, 0, 0, 0, 0, [])), (71, (.istore 9, 73, false, false, 9, 0, 0, 0, 0, 0, [])), (73, (.iload 6, 75, false, false, 6, 0, 0, 0, 0, 0, [])), (75, (.iload 9, 77, false, false, 9, 0, 0, 0, 0, 0, [])), (77, (.iload 7, 79, false, false, 7, 0, 0, 0, 0, 0, [])), (79, (.if_icmp .ge 21, 82, false, false, 100, 0, 0, 0, 0, 0, [])), (82, (.aload_n 0, 83, false, false, 0, 0, 0, 0, 0, 0, []))]),
  (124, [(83, (.getfield 27, 86, false, false, 15, 1, 1, 0, 0, 0, [])), (86, (.sipush 2238, 89, false, false, 0, 0, 0, 0, 2238, 0, [])), (89, (.iconst 3, 90, false, false, 0, 0, 0, 0, 3, 0, [])), (90, (.iload 8, 92, false, false, 8, 0, 0, 0, 0, 0, [])), (92, (.imul, 93, false, false, 0, 0, 0, 0, 0, 0, [])), (93, (.iadd, 94, false, false, 0, 0, 0, 0, 0, 0, [])), (94, (.iconst 1, 95, false, false, 0, 0, 0, 0, 1, 0, [])), (95, (.iadd, 96, false, false, 0, 0, 0, 0, 0, 0, [])), (96, (.iaload, 97, false, false, 0, 0, 0, 0, 0, 0, [])), (97, (.goto 28, 100, false, false, 125, 0, 0, 0, 0, 0, [])), (100, (.iload 9, 102, false, false, 9, 0, 0, 0, 0, 0, [])), (102, (.iload 7, 104, false, false, 7, 0, 0, 0, 0, 0, [])), (104, (.if_icmp .ne 20, 107, false, false, 124, 0, 0, 0, 0, 0, [])), (107, (.aload_n 0, 108, false, false, 0, 0, 0, 0, 0, 0, [])), (108, (.getfield 27, 111, false, false, 15, 1, 1, 0, 0, 0, [])), (111, (.sipush 2238, 114, false, false, 0, 0, 0, 0, 2238, 0, [])), (114, (.iconst 3, 115, false, false, 0, 0, 0, 0, 3, 0, [])), (115, (.iload 8, 117, false, false, 8, 0, 0, 0, 0, 0, [])), (117, (.imul, 118, false, false, 0, 0, 0, 0, 0, 0, [])), (118, (.iadd, 119, false, false, 0, 0, 0, 0, 0, 0, [])), (119, (.iaload, 120, false, false, 0, 0, 0, 0, 0, 0, [])), (120, (.ineg, 121, false, false, 0, 0, 0, 0, 0, 0, [])), (121, (.goto 4, 124, false, false, 125, 0, 0, 0, 0, 0, [])), (124, (.iconst 0, 125, false, false, 0, 0, 0, 0, 0, 0, []))]),
  (151, [(125, (.iadd, 126, false, false, 0, 0, 0, 0, 0, 0, [])), (126, (.istore 6, 128, false, false, 6, 0, 0, 0, 0, 0, [])), (128, (.iinc 8 1, 131, false, false, 8, 0, 0, 0, 1, 0, [])), (131, (.goto (-100), 134, false, true, 31, 0, 0, 0, 0, 0, [])), (134, (.iload 6, 136, false, false, 6, 0, 0, 0, 0, 0, [])), (136, (.ifCond .ge 7, 139, false, false, 143, 0, 0, 0, 0, 0, [])), (139, (.ldc_w 457, 142, false, false, 0, 0, 0, 0, -1000000000, 0, [])), (142, (.ireturn, 143, false, false, 0, 0, 0, 0, 0, 0, [])), (143, (.iinc 7 1, 146, false, false, 7, 0, 0, 0, 1, 0, [])), (146, (.goto (-140), 149, false, true, 6, 0, 0, 0, 0, 0, [])), (149, (.iload 6, 151, false, false, 6, 0, 0, 0, 0, 0, [])), (151, (.ireturn, 152, false, false, 0, 0, 0, 0, 0, 0, []))])], 0, [])
set_option maxRecDepth 100000 in
theorem v_X12_endsWith : VE MYT dflT E_X12_endsWith := ⟨⟨⟨⟨⟨dX12_endsWith_0, rfl⟩, rfl⟩, ⟨⟨dX12_endsWith_1, rfl⟩, rfl⟩, ⟨⟨dX12_endsWith_3, rfl⟩, rfl⟩, ⟨⟨dX12_endsWith_4, rfl⟩, rfl⟩, ⟨⟨dX12_endsWith_6, rfl⟩, rfl⟩, ⟨⟨dX12_endsWith_8, rfl⟩, rfl⟩, ⟨⟨dX12_endsWith_10, rfl⟩, rfl⟩, ⟨⟨dX12_endsWith_13, rfl⟩, rfl⟩, ⟨⟨dX12_endsWith_15, rfl⟩, rfl⟩, ⟨⟨dX12_endsWith_17, rfl⟩, rfl⟩, ⟨⟨dX12_endsWith_19, rfl⟩, rfl⟩, ⟨⟨dX12_endsWith_21, rfl⟩, trivial⟩, ⟨⟨dX12_endsWith_22, rfl⟩, trivial⟩, ⟨⟨dX12_endsWith_23, rfl⟩, rfl⟩, ⟨⟨dX12_endsWith_24, rfl⟩, trivial⟩, ⟨⟨dX12_endsWith_25, rfl⟩, trivial⟩, ⟨⟨dX12_endsWith_26, rfl⟩, rfl⟩, ⟨⟨dX12_endsWith_28, rfl⟩, rfl⟩, ⟨⟨dX12_endsWith_29, rfl⟩, rfl⟩, ⟨⟨dX12_endsWith_31, rfl⟩, rfl⟩, ⟨⟨dX12_endsWith_33, rfl⟩, rfl⟩, ⟨⟨dX12_endsWith_34, rfl⟩, Or.inl ⟨by decide, _, _, fX12_27⟩⟩, ⟨⟨dX12_endsWith_37, rfl⟩, rfl⟩, ⟨⟨dX12_endsWith_40, rfl⟩, trivial⟩, trivial⟩,
  ⟨⟨⟨dX12_endsWith_41, rfl⟩, rfl⟩, ⟨⟨dX12_endsWith_44, rfl⟩, rfl⟩, ⟨⟨dX12_endsWith_45, rfl⟩, rfl⟩, ⟨⟨dX12_endsWith_47, rfl⟩, trivial⟩, ⟨⟨dX12_endsWith_48, rfl⟩, rfl⟩, ⟨⟨dX12_endsWith_49, rfl⟩, trivial⟩, ⟨⟨dX12_endsWith_50, rfl⟩, rfl⟩, ⟨⟨dX12_endsWith_53, rfl⟩, rfl⟩, ⟨⟨dX12_endsWith_56, rfl⟩, rfl⟩, ⟨⟨dX12_endsWith_57, rfl⟩, Or.inl ⟨by decide, _, _, fX12_27⟩⟩, ⟨⟨dX12_endsWith_60, rfl⟩, rfl⟩, ⟨⟨dX12_endsWith_63, rfl⟩, rfl⟩, ⟨⟨dX12_endsWith_64, rfl⟩, rfl⟩, ⟨⟨dX12_endsWith_66, rfl⟩, trivial⟩, ⟨⟨dX12_endsWith_67, rfl⟩, trivial⟩, ⟨⟨dX12_endsWith_68, rfl⟩, rfl⟩, ⟨⟨dX12_endsWith_69, rfl⟩, trivial⟩, ⟨⟨dX12_endsWith_70, rfl⟩, trivial⟩, ⟨⟨dX12_endsWith_71, rfl⟩, rfl⟩, ⟨⟨dX12_endsWith_73, rfl⟩, rfl⟩, ⟨⟨dX12_endsWith_75, rfl⟩, rfl⟩, ⟨⟨dX12_endsWith_77, rfl⟩, rfl⟩, ⟨⟨dX12_endsWith_79, rfl⟩, rfl⟩, ⟨⟨dX12_endsWith_82, rfl⟩, rfl⟩, trivial⟩,
  ⟨⟨⟨dX12_endsWith_83, rfl⟩, Or.inl ⟨by decide, _, _, fX12_27⟩⟩, ⟨⟨dX12_endsWith_86, rfl⟩, rfl⟩, ⟨⟨dX12_endsWith_89, rfl⟩, rfl⟩, ⟨⟨dX12_endsWith_90, rfl⟩, rfl⟩, ⟨⟨dX12_endsWith_92, rfl⟩, trivial⟩, ⟨⟨dX12_endsWith_93, rfl⟩, trivial⟩, ⟨⟨dX12_endsWith_94, rfl⟩, rfl⟩, ⟨⟨dX12_endsWith_95, rfl⟩, trivial⟩, ⟨⟨dX12_endsWith_96, rfl⟩, trivial⟩, ⟨⟨dX12_endsWith_97, rfl⟩, rfl⟩, ⟨⟨dX12_endsWith_100, rfl⟩, rfl⟩, ⟨⟨dX12_endsWith_102, rfl⟩, rfl⟩, ⟨⟨dX12_endsWith_104, rfl⟩, rfl⟩, ⟨⟨dX12_endsWith_107, rfl⟩, rfl⟩, ⟨⟨dX12_endsWith_108, rfl⟩, Or.inl ⟨by decide, _, _, fX12_27⟩⟩, ⟨⟨dX12_endsWith_111, rfl⟩, rfl⟩, ⟨⟨dX12_endsWith_114, rfl⟩, rfl⟩, ⟨⟨dX12_endsWith_115, rfl⟩, rfl⟩, ⟨⟨dX12_endsWith_117, rfl⟩, trivial⟩, ⟨⟨dX12_endsWith_118, rfl⟩, trivial⟩, ⟨⟨dX12_endsWith_119, rfl⟩, trivial⟩, ⟨⟨dX12_endsWith_120, rfl⟩, trivial⟩, ⟨⟨dX12_endsWith_121, rfl⟩, rfl⟩, ⟨⟨dX12_endsWith_124, rfl⟩, rfl⟩, trivial⟩,
  ⟨⟨⟨dX12_endsWith_125, rfl⟩, trivial⟩, ⟨⟨dX12_endsWith_126, rfl⟩, rfl⟩, ⟨⟨dX12_endsWith_128, rfl⟩, ⟨rfl, rfl⟩⟩, ⟨⟨dX12_endsWith_131, rfl⟩, rfl⟩, ⟨⟨dX12_endsWith_134, rfl⟩, rfl⟩, ⟨⟨dX12_endsWith_136, rfl⟩, rfl⟩, ⟨⟨dX12_endsWith_139, rfl⟩, Or.inl ⟨rfl, kX12_457⟩⟩, ⟨⟨dX12_endsWith_142, rfl⟩, Or.inl ⟨rfl, rfl⟩⟩, ⟨⟨dX12_endsWith_143, rfl⟩, ⟨rfl, rfl⟩⟩, ⟨⟨dX12_endsWith_146, rfl⟩, rfl⟩, ⟨⟨dX12_endsWith_149, rfl⟩, rfl⟩, ⟨⟨dX12_endsWith_151, rfl⟩, Or.inl ⟨rfl, rfl⟩⟩, trivial⟩, trivial⟩, by decide, Or.inl ⟨rfl, by decide, rfl⟩⟩
set_option maxRecDepth 100000 in
theorem g_X12_endsWith_0 (S : sT) (call : cT) (n : Nat) (a0 : Nat) (x1 : Int32) (x2 : Int32) (x3 : Int32) (x4 : Int32) (x5 : Int32) (h : pH) : bd S call dflT E_X12_endsWith (n + 1) 0 [some (.ref a0), some (.int x1), some (.int x2), some (.int x3), some (.int x4), some (.int x5), none, none, none, none] [] h = (bd S call dflT E_X12_endsWith n 6 [some (.ref a0), some (.int x1), some (.int x2), some (.int x3), some (.int x4), some (.int x5), some (.int x1), some (.int 0), none, none] [] h) := rfl
set_option maxRecDepth 100000 in
theorem g_X12_endsWith_6 (S : sT) (call : cT) (n : Nat) (a0 : Nat) (x1 : Int32) (x2 : Int32) (x3 : Int32) (x4 : Int32) (x5 : Int32) (x6 : Int32) (x7 : Int32) (o8 : Option Value) (o9 : Option Value) (h : pH) : bd S call dflT E_X12_endsWith (n + 1) 6 [some (.ref a0), some (.int x1), some (.int x2), some (.int x3), some (.int x4), some (.int x5), some (.int x6), some (.int x7), o8, o9] [] h = ((if 30 ≤ x7 then some (.inl (some (.int x6)), h) else bd S call dflT E_X12_endsWith n 31 [some (.ref a0), some (.int x1), some (.int x2), some (.int x3), some (.int x4), some (.int x5), some (.int (x6 + ((x4 + (x5 * x7)) - x2))), some (.int x7), some (.int 0), o9] [] h)) := rfl
set_option maxRecDepth 100000 in
theorem g_X12_endsWith_31 (S : sT) (call : cT) (n : Nat) (a0 : Nat) (x1 : Int32) (x2 : Int32) (x3 : Int32) (x4 : Int32) (x5 : Int32) (x6 : Int32) (x7 : Int32) (x8 : Int32) (o9 : Option Value) (h : pH) : bd S call dflT E_X12_endsWith (n + 1) 31 [some (.ref a0), some (.int x1), some (.int x2), some (.int x3), some (.int x4), some (.int x5), some (.int x6), some (.int x7), some (.int x8), o9] [] h = (gV h (.ref a0) 15 1 (fun w1 => aI h w1 0 2237 (fun y2 => (if y2 ≤ x8 then (if 0 ≤ x6 then bd S call dflT E_X12_endsWith n 6 [some (.ref a0), some (.int x1), some (.int x2), some (.int x3), some (.int x4), some (.int x5), some (.int x6), some (.int (x7 + 1)), some (.int x8), o9] [] h else some (.inl (some (.int (-1000000000))), h)) else (if ((x3 >>> (x8 &&& 31)) &&& 1) = 0 then bd S call dflT E_X12_endsWith n 31 [some (.ref a0), some (.int x1), some (.int x2), some (.int x3), some (.int x4), some (.int x5), some (.int x6), some (.int x7), some (.int (x8 + 1)), o9] [] h else gV h (.ref a0) 15 1 (fun w3 => aI h w3 0 ((2238 + (3 * x8)) + 2) (fun y4 => (if x7 ≤ y4 then (if y4 = x7 then gV h (.ref a0) 15 1 (fun w5 => aI h w5 0 (2238 + (3 * x8)) (fun y6 => bd S call dflT E_X12_endsWith n 31 [some (.ref a0), some (.int x1), some (.int x2), some (.int x3), some (.int x4), some (.int x5), some (.int (x6 + (-y6))), some (.int x7), some (.int (x8 + 1)), some (.int y4)] [] h)) else bd S call dflT E_X12_endsWith n 31 [some (.ref a0), some (.int x1), some (.int x2), some (.int x3), some (.int x4), some (.int x5), some (.int (x6 + 0)), some (.int x7), some (.int (x8 + 1)), some (.int y4)] [] h) else gV h (.ref a0) 15 1 (fun w7 => aI h w7 0 ((2238 + (3 * x8)) + 1) (fun y8 => bd S call dflT E_X12_endsWith n 31 [some (.ref a0), some (.int x1), some (.int x2), some (.int x3), some (.int x4), some (.int x5), some (.int (x6 + y8)), some (.int x7), some (.int (x8 + 1)), some (.int y4)] [] h)))))))))) := rfl
theorem dX12_worthOfSet_0 : decode cX12_worthOfSet 0 = .ok (.aload_n 0, 1) := by decide +kernel
theorem dX12_worthOfSet_1 : decode cX12_worthOfSet 1 = .ok (.getfield 27, 3) := by decide +kernel
theorem dX12_worthOfSet_4 : decode cX12_worthOfSet 4 = .ok (.sipush 2256, 3) := by decide +kernel
theorem dX12_worthOfSet_7 : decode cX12_worthOfSet 7 = .ok (.iaload, 1) := by decide +kernel
theorem dX12_worthOfSet_8 : decode cX12_worthOfSet 8 = .ok (.ifCond .ne 13, 3) := by decide +kernel
theorem dX12_worthOfSet_11 : decode cX12_worthOfSet 11 = .ok (.aload_n 0, 1) := by decide +kernel
theorem dX12_worthOfSet_12 : decode cX12_worthOfSet 12 = .ok (.iload_n 1, 1) := by decide +kernel
theorem dX12_worthOfSet_13 : decode cX12_worthOfSet 13 = .ok (.iload_n 2, 1) := by decide +kernel
theorem dX12_worthOfSet_14 : decode cX12_worthOfSet 14 = .ok (.iload_n 3, 1) := by decide +kernel
theorem dX12_worthOfSet_15 : decode cX12_worthOfSet 15 = .ok (.iconst 0, 1) := by decide +kernel
theorem dX12_worthOfSet_16 : decode cX12_worthOfSet 16 = .ok (.iconst 0, 1) := by decide +kernel
theorem dX12_worthOfSet_17 : decode cX12_worthOfSet 17 = .ok (.invokevirtual 458, 3) := by decide +kernel
theorem dX12_worthOfSet_20 : decode cX12_worthOfSet 20 = .ok (.ireturn, 1) := by decide +kernel
theorem dX12_worthOfSet_21 : decode cX12_worthOfSet 21 = .ok (.ldc_w 462, 3) := by decide +kernel
theorem dX12_worthOfSet_24 : decode cX12_worthOfSet 24 = .ok (.istore 4, 2) := by decide +kernel
theorem dX12_worthOfSet_26 : decode cX12_worthOfSet 26 = .ok (.iconst 0, 1) := by decide +kernel
theorem dX12_worthOfSet_27 : decode cX12_worthOfSet 27 = .ok (.istore 5, 2) := by decide +kernel
theorem dX12_worthOfSet_29 : decode cX12_worthOfSet 29 = .ok (.iload 5, 2) := by decide +kernel
theorem dX12_worthOfSet_31 : decode cX12_worthOfSet 31 = .ok (.aload_n 0, 1) := by decide +kernel
theorem dX12_worthOfSet_32 : decode cX12_worthOfSet 32 = .ok (.getfield 27, 3) := by decide +kernel
theorem dX12_worthOfSet_35 : decode cX12_worthOfSet 35 = .ok (.sipush 2256, 3) := by decide +kernel
theorem dX12_worthOfSet_38 : decode cX12_worthOfSet 38 = .ok (.iaload, 1) := by decide +kernel
theorem dX12_worthOfSet_39 : decode cX12_worthOfSet 39 = .ok (.if_icmp .ge 51, 3) := by decide +kernel
theorem dX12_worthOfSet_42 : decode cX12_worthOfSet 42 = .ok (.iload 4, 2) := by decide +kernel
theorem dX12_worthOfSet_44 : decode cX12_worthOfSet 44 = .ok (.aload_n 0, 1) := by decide +kernel
theorem dX12_worthOfSet_45 : decode cX12_worthOfSet 45 = .ok (.iload_n 1, 1) := by decide +kernel
theorem dX12_worthOfSet_46 : decode cX12_worthOfSet 46 = .ok (.iload_n 2, 1) := by decide +kernel
theorem dX12_worthOfSet_47 : decode cX12_worthOfSet 47 = .ok (.iload_n 3, 1) := by decide +kernel
theorem dX12_worthOfSet_48 : decode cX12_worthOfSet 48 = .ok (.aload_n 0, 1) := by decide +kernel
theorem dX12_worthOfSet_49 : decode cX12_worthOfSet 49 = .ok (.getfield 27, 3) := by decide +kernel
theorem dX12_worthOfSet_52 : decode cX12_worthOfSet 52 = .ok (.sipush 2257, 3) := by decide +kernel
theorem dX12_worthOfSet_55 : decode cX12_worthOfSet 55 = .ok (.iconst 2, 1) := by decide +kernel
theorem dX12_worthOfSet_56 : decode cX12_worthOfSet 56 = .ok (.iload 5, 2) := by decide +kernel
theorem dX12_worthOfSet_58 : decode cX12_worthOfSet 58 = .ok (.imul, 1) := by decide +kernel
theorem dX12_worthOfSet_59 : decode cX12_worthOfSet 59 = .ok (.iadd, 1) := by decide +kernel
theorem dX12_worthOfSet_60 : decode cX12_worthOfSet 60 = .ok (.iaload, 1) := by decide +kernel
theorem dX12_worthOfSet_61 : decode cX12_worthOfSet 61 = .ok (.aload_n 0, 1) := by decide +kernel
theorem dX12_worthOfSet_62 : decode cX12_worthOfSet 62 = .ok (.getfield 27, 3) := by decide +kernel
theorem dX12_worthOfSet_65 : decode cX12_worthOfSet 65 = .ok (.sipush 2257, 3) := by decide +kernel
theorem dX12_worthOfSet_68 : decode cX12_worthOfSet 68 = .ok (.iconst 2, 1) := by decide +kernel
theorem dX12_worthOfSet_69 : decode cX12_worthOfSet 69 = .ok (.iload 5, 2) := by decide +kernel
theorem dX12_worthOfSet_71 : decode cX12_worthOfSet 71 = .ok (.imul, 1) := by decide +kernel
theorem dX12_worthOfSet_72 : decode cX12_worthOfSet 72 = .ok (.iadd, 1) := by decide +kernel
theorem dX12_worthOfSet_73 : decode cX12_worthOfSet 73 = .ok (.iconst 1, 1) := by decide +kernel
theorem dX12_worthOfSet_74 : decode cX12_worthOfSet 74 = .ok (.iadd, 1) := by decide +kernel
theorem dX12_worthOfSet_75 : decode cX12_worthOfSet 75 = .ok (.iaload, 1) := by decide +kernel
theorem dX12_worthOfSet_76 : decode cX12_worthOfSet 76 = .ok (.invokevirtual 458, 3) := by decide +kernel
theorem dX12_worthOfSet_79 : decode cX12_worthOfSet 79 = .ok (.invokestatic 358, 3) := by decide +kernel
theorem dX12_worthOfSet_82 : decode cX12_worthOfSet 82 = .ok (.istore 4, 2) := by decide +kernel
theorem dX12_worthOfSet_84 : decode cX12_worthOfSet 84 = .ok (.iinc 5 1, 3) := by decide +kernel
theorem dX12_worthOfSet_87 : decode cX12_worthOfSet 87 = .ok (.goto (-58), 3) := by decide +kernel
theorem dX12_worthOfSet_90 : decode cX12_worthOfSet 90 = .ok (.iload 4, 2) := by decide +kernel
theorem dX12_worthOfSet_92 : decode cX12_worthOfSet 92 = .ok (.ireturn, 1) := by decide +kernel
noncomputable def E_X12_worthOfSet : mE := (mX12_worthOfSet, [(42, [(0, (.aload_n 0, 1, false, false, 0, 0, 0, 0, 0, 0, [])), (1, (.getfield 27, 4, false, false, 15, 1, 1, 0, 0, 0, [])), (4, (.sipush 2256, 7, false, false, 0, 0, 0, 0, 2256, 0, [])), (7, (.iaload, 8, false, false, 0, 0, 0, 0, 0, 0, [])), (8, (.ifCond .ne 13, 11, false, false, 21, 0, 0, 0, 0, 0, [])), (11, (.aload_n 0, 12, false, false, 0, 0, 0, 0, 0, 0, [])), (12, (.iload_n 1, 13, false, false, 1, 0, 0, 0, 0, 0, [])), (13, (.iload_n 2, 14, false, false, 2, 0, 0, 0, 0, 0, [])), (14, (.iload_n 3, 15, false, false, 3, 0, 0, 0, 0, 0, [])), (15, (.iconst 0, 16, false, false, 0, 0, 0, 0, 0, 0, [])), (16, (.iconst 0, 17, false, false, 0, 0, 0, 0, 0, 0, [])), (17, (.invokevirtual 458, 20, false, false, 338, 5, 1, 15, 0, 0, [])), (20, (.ireturn, 21, false, false, 0, 0, 0, 0, 0, 0, [])), (21, (.ldc_w 462, 24, false, false, 0, 0, 0, 0, 2000000000, 0, [])), (24, (.istore 4, 26, false, false, 4, 0, 0, 0, 0, 0, [])), (26, (.iconst 0, 27, false, false, 0, 0, 0, 0, 0, 0, [])), (27, (.istore 5, 29, true, false, 5, 0, 0, 0, 0, 0, [])), (29, (.iload 5, 31, false, false, 5, 0, 0, 0, 0, 0, [])), (31, (.aload_n 0, 32, false, false, 0, 0, 0, 0, 0, 0, [])), (32, (.getfield 27, 35, false, false, 15, 1, 1, 0, 0, 0, [])), (35, (.sipush 2256, 38, false, false, 0, 0, 0, 0, 2256, 0, [])), (38, (.iaload, 39, false, false, 0, 0, 0, 0, 0, 0, [])), (39, (.if_icmp .ge 51, 42, false, false, 90, 0, 0, 0, 0, 0, [])), (42, (.iload 4, 44, false, false, 4, 0, 0, 0, 0, 0, []))]),
  (79, [(44, (.aload_n 0, 45, false, false, 0, 0, 0, 0, 0, 0, [])), (45, (.iload_n 1, 46, false, false, 1, 0, 0, 0, 0, 0, [])), (46, (.iload_n 2, 47, false, false, 2, 0, 0, 0, 0, 0, [])), (47, (.iload_n 3, 48, false, false, 3, 0, 0, 0, 0, 0, [])), (48, (.aload_n 0, 49, false, false, 0, 0, 0, 0, 0, 0, [])), (49, (.getfield 27, 52, false, false, 15, 1, 1, 0, 0, 0, [])), (52, (.sipush 2257, 55, false, false, 0, 0, 0, 0, 2257, 0, [])), (55, (.iconst 2, 56, false, false, 0, 0, 0, 0, 2, 0, [])), (56, (.iload 5, 58, false, false, 5, 0, 0, 0, 0, 0, [])), (58, (.imul, 59, false, false, 0, 0, 0, 0, 0, 0, [])), (59, (.iadd, 60, false, false, 0, 0, 0, 0, 0, 0, [])), (60, (.iaload, 61, false, false, 0, 0, 0, 0, 0, 0, [])), (61, (.aload_n 0, 62, false, false, 0, 0, 0, 0, 0, 0, [])), (62, (.getfield 27, 65, false, false, 15, 1, 1, 0, 0, 0, [])), (65, (.sipush 2257, 68, false, false, 0, 0, 0, 0, 2257, 0, [])), (68, (.iconst 2, 69, false, false, 0, 0, 0, 0, 2, 0, [])), (69, (.iload 5, 71, false, false, 5, 0, 0, 0, 0, 0, [])), (71, (.imul, 72, false, false, 0, 0, 0, 0, 0, 0, [])), (72, (.iadd, 73, false, false, 0, 0, 0, 0, 0, 0, [])), (73, (.iconst 1, 74, false, false, 0, 0, 0, 0, 1, 0, [])), (74, (.iadd, 75, false, false, 0, 0, 0, 0, 0, 0, [])), (75, (.iaload, 76, false, false, 0, 0, 0, 0, 0, 0, [])), (76, (.invokevirtual 458, 79, false, false, 338, 5, 1, 15, 0, 0, [])), (79, (.invokestatic 358, 82, false, false, 0, 2, 1, 6, 0, 0, []))]),
  (92, [(82, (.istore 4, 84, false, false, 4, 0, 0, 0, 0, 0, [])), (84, (.iinc 5 1, 87, false, false, 5, 0, 0, 0, 1, 0, [])), (87, (.goto (-58), 90, false, true, 29, 0, 0, 0, 0, 0, [])), (90, (.iload 4, 92, false, false, 4, 0, 0, 0, 0, 0, [])), (92, (.ireturn, 93, false, false, 0, 0, 0, 0, 0, 0, []))])], 0, [])
set_option maxRecDepth 100000 in
theorem v_X12_worthOfSet : VE MYT dflT E_X12_worthOfSet := ⟨⟨⟨⟨⟨dX12_worthOfSet_0, rfl⟩, rfl⟩, ⟨⟨dX12_worthOfSet_1, rfl⟩, Or.inl ⟨by decide, _, _, fX12_27⟩⟩, ⟨⟨dX12_worthOfSet_4, rfl⟩, rfl⟩, ⟨⟨dX12_worthOfSet_7, rfl⟩, trivial⟩, ⟨⟨dX12_worthOfSet_8, rfl⟩, rfl⟩, ⟨⟨dX12_worthOfSet_11, rfl⟩, rfl⟩, ⟨⟨dX12_worthOfSet_12, rfl⟩, rfl⟩, ⟨⟨dX12_worthOfSet_13, rfl⟩, rfl⟩, ⟨⟨dX12_worthOfSet_14, rfl⟩, rfl⟩, ⟨⟨dX12_worthOfSet_15, rfl⟩, rfl⟩, ⟨⟨dX12_worthOfSet_16, rfl⟩, rfl⟩, ⟨⟨dX12_worthOfSet_17, rfl⟩, Or.inr ⟨by decide, ⟨_, my_338, sX12_458⟩, fun q => absurd q (by decide)⟩⟩, ⟨⟨dX12_worthOfSet_20, rfl⟩, Or.inl ⟨rfl, rfl⟩⟩, ⟨⟨dX12_worthOfSet_21, rfl⟩, Or.inl ⟨rfl, kX12_462⟩⟩, ⟨⟨dX12_worthOfSet_24, rfl⟩, rfl⟩, ⟨⟨dX12_worthOfSet_26, rfl⟩, rfl⟩, ⟨⟨dX12_worthOfSet_27, rfl⟩, rfl⟩, ⟨⟨dX12_worthOfSet_29, rfl⟩, rfl⟩, ⟨⟨dX12_worthOfSet_31, rfl⟩, rfl⟩, ⟨⟨dX12_worthOfSet_32, rfl⟩, Or.inl ⟨by decide, _, _, fX12_27⟩⟩, ⟨⟨dX12_worthOfSet_35, rfl⟩, rfl⟩, ⟨⟨dX12_worthOfSet_38, rfl⟩, trivial⟩, ⟨⟨dX12_worthOfSet_39, rfl⟩, rfl⟩, ⟨⟨dX12_worthOfSet_42, rfl⟩, rfl⟩, trivial⟩,
  ⟨⟨⟨dX12_worthOfSet_44, rfl⟩, rfl⟩, ⟨⟨dX12_worthOfSet_45, rfl⟩, rfl⟩, ⟨⟨dX12_worthOfSet_46, rfl⟩, rfl⟩, ⟨⟨dX12_worthOfSet_47, rfl⟩, rfl⟩, ⟨⟨dX12_worthOfSet_48, rfl⟩, rfl⟩, ⟨⟨dX12_worthOfSet_49, rfl⟩, Or.inl ⟨by decide, _, _, fX12_27⟩⟩, ⟨⟨dX12_worthOfSet_52, rfl⟩, rfl⟩, ⟨⟨dX12_worthOfSet_55, rfl⟩, rfl⟩, ⟨⟨dX12_worthOfSet_56, rfl⟩, rfl⟩, ⟨⟨dX12_worthOfSet_58, rfl⟩, trivial⟩, ⟨⟨dX12_worthOfSet_59, rfl⟩, trivial⟩, ⟨⟨dX12_worthOfSet_60, rfl⟩, trivial⟩, ⟨⟨dX12_worthOfSet_61, rfl⟩, rfl⟩, ⟨⟨dX12_worthOfSet_62, rfl⟩, Or.inl ⟨by decide, _, _, fX12_27⟩⟩, ⟨⟨dX12_worthOfSet_65, rfl⟩, rfl⟩, ⟨⟨dX12_worthOfSet_68, rfl⟩, rfl⟩, ⟨⟨dX12_worthOfSet_69, rfl⟩, rfl⟩, ⟨⟨dX12_worthOfSet_71, rfl⟩, trivial⟩, ⟨⟨dX12_worthOfSet_72, rfl⟩, trivial⟩, ⟨⟨dX12_worthOfSet_73, rfl⟩, rfl⟩, ⟨⟨dX12_worthOfSet_74, rfl⟩, trivial⟩, ⟨⟨dX12_worthOfSet_75, rfl⟩, trivial⟩, ⟨⟨dX12_worthOfSet_76, rfl⟩, Or.inr ⟨by decide, ⟨_, my_338, sX12_458⟩, fun q => absurd q (by decide)⟩⟩, ⟨⟨dX12_worthOfSet_79, rfl⟩, Or.inr (Or.inr (Or.inr (Or.inr (Or.inr (Or.inl ⟨rfl, sX12_358⟩)))))⟩, trivial⟩,
  ⟨⟨⟨dX12_worthOfSet_82, rfl⟩, rfl⟩, ⟨⟨dX12_worthOfSet_84, rfl⟩, ⟨rfl, rfl⟩⟩, ⟨⟨dX12_worthOfSet_87, rfl⟩, rfl⟩, ⟨⟨dX12_worthOfSet_90, rfl⟩, rfl⟩, ⟨⟨dX12_worthOfSet_92, rfl⟩, Or.inl ⟨rfl, rfl⟩⟩, trivial⟩, trivial⟩, by decide, Or.inl ⟨rfl, by decide, rfl⟩⟩
set_option maxRecDepth 100000 in
theorem g_X12_worthOfSet_0 (S : sT) (call : cT) (n : Nat) (a0 : Nat) (x1 : Int32) (x2 : Int32) (x3 : Int32) (h : pH) : bd S call dflT E_X12_worthOfSet (n + 1) 0 [some (.ref a0), some (.int x1), some (.int x2), some (.int x3), none, none] [] h = (gV h (.ref a0) 15 1 (fun w1 => aI h w1 0 2256 (fun y2 => (if y2 = 0 then rC h (.ref a0) 15 (cI (call 338 [.ref a0, .int x1, .int x2, .int x3, .int 0, .int 0] h) (fun y4 h3 => some (.inl (some (.int y4)), h3))) else bd S call dflT E_X12_worthOfSet n 29 [some (.ref a0), some (.int x1), some (.int x2), some (.int x3), some (.int 2000000000), some (.int 0)] [] h)))) := rfl
set_option maxRecDepth 100000 in
theorem g_X12_worthOfSet_29 (S : sT) (call : cT) (n : Nat) (a0 : Nat) (x1 : Int32) (x2 : Int32) (x3 : Int32) (x4 : Int32) (x5 : Int32) (h : pH) : bd S call dflT E_X12_worthOfSet (n + 1) 29 [some (.ref a0), some (.int x1), some (.int x2), some (.int x3), some (.int x4), some (.int x5)] [] h = (gV h (.ref a0) 15 1 (fun w1 => aI h w1 0 2256 (fun y2 => (if y2 ≤ x5 then some (.inl (some (.int x4)), h) else gV h (.ref a0) 15 1 (fun w3 => aI h w3 0 (2257 + (2 * x5)) (fun y4 => gV h (.ref a0) 15 1 (fun w5 => aI h w5 0 ((2257 + (2 * x5)) + 1) (fun y6 => rC h (.ref a0) 15 (cI (call 338 [.ref a0, .int x1, .int x2, .int x3, .int y4, .int y6] h) (fun y8 h7 => bd S call dflT E_X12_worthOfSet n 29 [some (.ref a0), some (.int x1), some (.int x2), some (.int x3), some (.int (if y8 < x4 then y8 else x4)), some (.int (x5 + 1))] [] h7)))))))))) := rfl
theorem dX12_worth_0 : decode cX12_worth 0 = .ok (.aload_n 0, 1) := by decide +kernel
theorem dX12_worth_1 : decode cX12_worth 1 = .ok (.iconst 0, 1) := by decide +kernel
theorem dX12_worth_2 : decode cX12_worth 2 = .ok (.putfield 3, 3) := by decide +kernel
theorem dX12_worth_5 : decode cX12_worth 5 = .ok (.aload_n 0, 1) := by decide +kernel
theorem dX12_worth_6 : decode cX12_worth 6 = .ok (.aload_n 0, 1) := by decide +kernel
theorem dX12_worth_7 : decode cX12_worth 7 = .ok (.iload_n 1, 1) := by decide +kernel
theorem dX12_worth_8 : decode cX12_worth 8 = .ok (.iload_n 2, 1) := by decide +kernel
theorem dX12_worth_9 : decode cX12_worth 9 = .ok (.invokevirtual 464, 3) := by decide +kernel
theorem dX12_worth_12 : decode cX12_worth 12 = .ok (.iconst 1, 1) := by decide +kernel
theorem dX12_worth_13 : decode cX12_worth 13 = .ok (.invokevirtual 75, 3) := by decide +kernel
theorem dX12_worth_16 : decode cX12_worth 16 = .ok (.ifCond .eq 7, 3) := by decide +kernel
theorem dX12_worth_19 : decode cX12_worth 19 = .ok (.iconst 0, 1) := by decide +kernel
theorem dX12_worth_20 : decode cX12_worth 20 = .ok (.goto 10, 3) := by decide +kernel
theorem dX12_worth_23 : decode cX12_worth 23 = .ok (.aload_n 0, 1) := by decide +kernel
theorem dX12_worth_24 : decode cX12_worth 24 = .ok (.iload_n 1, 1) := by decide +kernel
theorem dX12_worth_25 : decode cX12_worth 25 = .ok (.iload_n 2, 1) := by decide +kernel
theorem dX12_worth_26 : decode cX12_worth 26 = .ok (.iload_n 3, 1) := by decide +kernel
theorem dX12_worth_27 : decode cX12_worth 27 = .ok (.invokevirtual 467, 3) := by decide +kernel
theorem dX12_worth_30 : decode cX12_worth 30 = .ok (.ireturn, 1) := by decide +kernel
noncomputable def E_X12_worth : mE := (mX12_worth, [(30, [(0, (.aload_n 0, 1, false, false, 0, 0, 0, 0, 0, 0, [])), (1, (.iconst 0, 2, false, false, 0, 0, 0, 0, 0, 0, [])), (2, (.putfield 3, 5, false, false, 15, 0, 0, 0, 0, 0, [])), (5, (.aload_n 0, 6, false, false, 0, 0, 0, 0, 0, 0, [])), (6, (.aload_n 0, 7, false, false, 0, 0, 0, 0, 0, 0, [])), (7, (.iload_n 1, 8, false, false, 1, 0, 0, 0, 0, 0, [])), (8, (.iload_n 2, 9, false, false, 2, 0, 0, 0, 0, 0, [])), (9, (.invokevirtual 464, 12, false, false, 337, 2, 1, 15, 0, 0, [])), (12, (.iconst 1, 13, false, false, 0, 0, 0, 0, 1, 0, [])), (13, (.invokevirtual 75, 16, false, false, 30, 2, 1, 15, 0, 0, [])), (16, (.ifCond .eq 7, 19, false, false, 23, 0, 0, 0, 0, 0, [])), (19, (.iconst 0, 20, false, false, 0, 0, 0, 0, 0, 0, [])), (20, (.goto 10, 23, false, false, 30, 0, 0, 0, 0, 0, [])), (23, (.aload_n 0, 24, false, false, 0, 0, 0, 0, 0, 0, [])), (24, (.iload_n 1, 25, false, false, 1, 0, 0, 0, 0, 0, [])), (25, (.iload_n 2, 26, false, false, 2, 0, 0, 0, 0, 0, [])), (26, (.iload_n 3, 27, false, false, 3, 0, 0, 0, 0, 0, [])), (27, (.invokevirtual 467, 30, false, false, 339, 3, 1, 15, 0, 0, [])), (30, (.ireturn, 31, false, false, 0, 0, 0, 0, 0, 0, []))])], 0, [])
set_option maxRecDepth 100000 in
theorem v_X12_worth : VE MYT dflT E_X12_worth := ⟨⟨⟨⟨⟨dX12_worth_0, rfl⟩, rfl⟩, ⟨⟨dX12_worth_1, rfl⟩, rfl⟩, ⟨⟨dX12_worth_2, rfl⟩, Or.inl ⟨rfl, fX12_3⟩⟩, ⟨⟨dX12_worth_5, rfl⟩, rfl⟩, ⟨⟨dX12_worth_6, rfl⟩, rfl⟩, ⟨⟨dX12_worth_7, rfl⟩, rfl⟩, ⟨⟨dX12_worth_8, rfl⟩, rfl⟩, ⟨⟨dX12_worth_9, rfl⟩, Or.inr ⟨by decide, ⟨_, my_337, sX12_464⟩, fun q => absurd q (by decide)⟩⟩, ⟨⟨dX12_worth_12, rfl⟩, rfl⟩, ⟨⟨dX12_worth_13, rfl⟩, Or.inr ⟨by decide, ⟨_, my_30, sX12_75⟩, fun q => absurd q (by decide)⟩⟩, ⟨⟨dX12_worth_16, rfl⟩, rfl⟩, ⟨⟨dX12_worth_19, rfl⟩, rfl⟩, ⟨⟨dX12_worth_20, rfl⟩, rfl⟩, ⟨⟨dX12_worth_23, rfl⟩, rfl⟩, ⟨⟨dX12_worth_24, rfl⟩, rfl⟩, ⟨⟨dX12_worth_25, rfl⟩, rfl⟩, ⟨⟨dX12_worth_26, rfl⟩, rfl⟩, ⟨⟨dX12_worth_27, rfl⟩, Or.inr ⟨by decide, ⟨_, my_339, sX12_467⟩, fun q => absurd q (by decide)⟩⟩, ⟨⟨dX12_worth_30, rfl⟩, Or.inl ⟨rfl, rfl⟩⟩, trivial⟩, trivial⟩, by decide, Or.inl ⟨rfl, by decide, rfl⟩⟩
set_option maxRecDepth 100000 in
theorem g_X12_worth_0 (S : sT) (call : cT) (n : Nat) (a0 : Nat) (x1 : Int32) (x2 : Int32) (x3 : Int32) (h : pH) : bd S call dflT E_X12_worth (n + 1) 0 [some (.ref a0), some (.int x1), some (.int x2), some (.int x3)] [] h = (pF h (.ref a0) 15 0 (.int 0) (fun h1 => rC h1 (.ref a0) 15 (cI (call 337 [.ref a0, .int x1, .int x2] h1) (fun y3 h2 => rC h2 (.ref a0) 15 (cI (call 30 [.ref a0, .int y3, .int 1] h2) (fun y5 h4 => (if y5 = 0 then rC h4 (.ref a0) 15 (cI (call 339 [.ref a0, .int x1, .int x2, .int x3] h4) (fun y7 h6 => some (.inl (some (.int y7)), h6))) else some (.inl (some (.int 0)), h4)))))))) := rfl
theorem dX12_best_0 : decode cX12_best 0 = .ok (.aload_n 0, 1) := by decide +kernel
theorem dX12_best_1 : decode cX12_best 1 = .ok (.iconst 0, 1) := by decide +kernel
theorem dX12_best_2 : decode cX12_best 2 = .ok (.putfield 3, 3) := by decide +kernel
theorem dX12_best_5 : decode cX12_best 5 = .ok (.aload_n 0, 1) := by decide +kernel
theorem dX12_best_6 : decode cX12_best 6 = .ok (.aload_n 0, 1) := by decide +kernel
theorem dX12_best_7 : decode cX12_best 7 = .ok (.iload_n 1, 1) := by decide +kernel
theorem dX12_best_8 : decode cX12_best 8 = .ok (.iload_n 2, 1) := by decide +kernel
theorem dX12_best_9 : decode cX12_best 9 = .ok (.invokevirtual 464, 3) := by decide +kernel
theorem dX12_best_12 : decode cX12_best 12 = .ok (.iconst 1, 1) := by decide +kernel
theorem dX12_best_13 : decode cX12_best 13 = .ok (.invokevirtual 75, 3) := by decide +kernel
theorem dX12_best_16 : decode cX12_best 16 = .ok (.ifCond .eq 5, 3) := by decide +kernel
theorem dX12_best_19 : decode cX12_best 19 = .ok (.iconst 0, 1) := by decide +kernel
theorem dX12_best_20 : decode cX12_best 20 = .ok (.ireturn, 1) := by decide +kernel
theorem dX12_best_21 : decode cX12_best 21 = .ok (.iconst (-1), 1) := by decide +kernel
theorem dX12_best_22 : decode cX12_best 22 = .ok (.istore_n 3, 1) := by decide +kernel
theorem dX12_best_23 : decode cX12_best 23 = .ok (.ldc_w 457, 3) := by decide +kernel
theorem dX12_best_26 : decode cX12_best 26 = .ok (.istore 4, 2) := by decide +kernel
theorem dX12_best_28 : decode cX12_best 28 = .ok (.iconst 0, 1) := by decide +kernel
theorem dX12_best_29 : decode cX12_best 29 = .ok (.istore 5, 2) := by decide +kernel
theorem dX12_best_31 : decode cX12_best 31 = .ok (.iload 5, 2) := by decide +kernel
theorem dX12_best_33 : decode cX12_best 33 = .ok (.iconst 1, 1) := by decide +kernel
theorem dX12_best_34 : decode cX12_best 34 = .ok (.aload_n 0, 1) := by decide +kernel
theorem dX12_best_35 : decode cX12_best 35 = .ok (.getfield 27, 3) := by decide +kernel
theorem dX12_best_38 : decode cX12_best 38 = .ok (.sipush 2237, 3) := by decide +kernel
theorem dX12_best_41 : decode cX12_best 41 = .ok (.iaload, 1) := by decide +kernel
theorem dX12_best_42 : decode cX12_best 42 = .ok (.ishl, 1) := by decide +kernel
theorem dX12_best_43 : decode cX12_best 43 = .ok (.if_icmp .ge 67, 3) := by decide +kernel
theorem dX12_best_46 : decode cX12_best 46 = .ok (.aload_n 0, 1) := by decide +kernel
theorem dX12_best_47 : decode cX12_best 47 = .ok (.iload_n 1, 1) := by decide +kernel
theorem dX12_best_48 : decode cX12_best 48 = .ok (.iload_n 2, 1) := by decide +kernel
theorem dX12_best_49 : decode cX12_best 49 = .ok (.iload 5, 2) := by decide +kernel
theorem dX12_best_51 : decode cX12_best 51 = .ok (.invokevirtual 467, 3) := by decide +kernel
theorem dX12_best_54 : decode cX12_best 54 = .ok (.istore 6, 2) := by decide +kernel
theorem dX12_best_56 : decode cX12_best 56 = .ok (.iload 6, 2) := by decide +kernel
theorem dX12_best_58 : decode cX12_best 58 = .ok (.ldc_w 457, 3) := by decide +kernel
theorem dX12_best_61 : decode cX12_best 61 = .ok (.if_icmp .eq 43, 3) := by decide +kernel
theorem dX12_best_64 : decode cX12_best 64 = .ok (.iload_n 3, 1) := by decide +kernel
theorem dX12_best_65 : decode cX12_best 65 = .ok (.ifCond .lt 32, 3) := by decide +kernel
theorem dX12_best_68 : decode cX12_best 68 = .ok (.iload 6, 2) := by decide +kernel
theorem dX12_best_70 : decode cX12_best 70 = .ok (.iload 4, 2) := by decide +kernel
theorem dX12_best_72 : decode cX12_best 72 = .ok (.if_icmp .lt 32, 3) := by decide +kernel
theorem dX12_best_75 : decode cX12_best 75 = .ok (.iload 6, 2) := by decide +kernel
theorem dX12_best_77 : decode cX12_best 77 = .ok (.iload 4, 2) := by decide +kernel
theorem dX12_best_79 : decode cX12_best 79 = .ok (.if_icmp .ne 18, 3) := by decide +kernel
theorem dX12_best_82 : decode cX12_best 82 = .ok (.iload 5, 2) := by decide +kernel
theorem dX12_best_84 : decode cX12_best 84 = .ok (.invokestatic 470, 3) := by decide +kernel
theorem dX12_best_87 : decode cX12_best 87 = .ok (.iload_n 3, 1) := by decide +kernel
theorem dX12_best_88 : decode cX12_best 88 = .ok (.invokestatic 470, 3) := by decide +kernel
theorem dX12_best_91 : decode cX12_best 91 = .ok (.if_icmp .lt 6, 3) := by decide +kernel
theorem dX12_best_94 : decode cX12_best 94 = .ok (.goto 10, 3) := by decide +kernel
theorem dX12_best_97 : decode cX12_best 97 = .ok (.iload 5, 2) := by decide +kernel
theorem dX12_best_99 : decode cX12_best 99 = .ok (.istore_n 3, 1) := by decide +kernel
theorem dX12_best_100 : decode cX12_best 100 = .ok (.iload 6, 2) := by decide +kernel
theorem dX12_best_102 : decode cX12_best 102 = .ok (.istore 4, 2) := by decide +kernel
theorem dX12_best_104 : decode cX12_best 104 = .ok (.iinc 5 1, 3) := by decide +kernel
theorem dX12_best_107 : decode cX12_best 107 = .ok (.goto (-76), 3) := by decide +kernel
theorem dX12_best_110 : decode cX12_best 110 = .ok (.iload_n 3, 1) := by decide +kernel
theorem dX12_best_111 : decode cX12_best 111 = .ok (.ireturn, 1) := by decide +kernel
noncomputable def E_X12_best : mE := (mX12_best, [(38, [(0, (.aload_n 0, 1, false, false, 0, 0, 0, 0, 0, 0, [])), (1, (.iconst 0, 2, false, false, 0, 0, 0, 0, 0, 0, [])), (2, (.putfield 3, 5, false, false, 15, 0, 0, 0, 0, 0, [])), (5, (.aload_n 0, 6, false, false, 0, 0, 0, 0, 0, 0, [])), (6, (.aload_n 0, 7, false, false, 0, 0, 0, 0, 0, 0, [])), (7, (.iload_n 1, 8, false, false, 1, 0, 0, 0, 0, 0, [])), (8, (.iload_n 2, 9, false, false, 2, 0, 0, 0, 0, 0, [])), (9, (.invokevirtual 464, 12, false, false, 337, 2, 1, 15, 0, 0, [])), (12, (.iconst 1, 13, false, false, 0, 0, 0, 0, 1, 0, [])), (13, (.invokevirtual 75, 16, false, false, 30, 2, 1, 15, 0, 0, [])), (16, (.ifCond .eq 5, 19, false, false, 21, 0, 0, 0, 0, 0, [])), (19, (.iconst 0, 20, false, false, 0, 0, 0, 0, 0, 0, [])), (20, (.ireturn, 21, false, false, 0, 0, 0, 0, 0, 0, [])), (21, (.iconst (-1), 22, false, false, 0, 0, 0, 0, -1, 0, [])), (22, (.istore_n 3, 23, false, false, 3, 0, 0, 0, 0, 0, [])), (23, (.ldc_w 457, 26, false, false, 0, 0, 0, 0, -1000000000, 0, [])), (26, (.istore 4, 28, false, false, 4, 0, 0, 0, 0, 0, [])), (28, (.iconst 0, 29, false, false, 0, 0, 0, 0, 0, 0, [])), (29, (.istore 5, 31, true, false, 5, 0, 0, 0, 0, 0, [])), (31, (.iload 5, 33, false, false, 5, 0, 0, 0, 0, 0, [])), (33, (.iconst 1, 34, false, false, 0, 0, 0, 0, 1, 0, [])), (34, (.aload_n 0, 35, false, false, 0, 0, 0, 0, 0, 0, [])), (35, (.getfield 27, 38, false, false, 15, 1, 1, 0, 0, 0, [])), (38, (.sipush 2237, 41, false, false, 0, 0, 0, 0, 2237, 0, []))]),
  (88, [(41, (.iaload, 42, false, false, 0, 0, 0, 0, 0, 0, [])), (42, (.ishl, 43, false, false, 0, 0, 0, 0, 0, 0, [])), (43, (.if_icmp .ge 67, 46, false, false, 110, 0, 0, 0, 0, 0, [])), (46, (.aload_n 0, 47, false, false, 0, 0, 0, 0, 0, 0, [])), (47, (.iload_n 1, 48, false, false, 1, 0, 0, 0, 0, 0, [])), (48, (.iload_n 2, 49, false, false, 2, 0, 0, 0, 0, 0, [])), (49, (.iload 5, 51, false, false, 5, 0, 0, 0, 0, 0, [])), (51, (.invokevirtual 467, 54, false, false, 339, 3, 1, 15, 0, 0, [])), (54, (.istore 6, 56, false, false, 6, 0, 0, 0, 0, 0, [])), (56, (.iload 6, 58, false, false, 6, 0, 0, 0, 0, 0, [])), (58, (.ldc_w 457, 61, false, false, 0, 0, 0, 0, -1000000000, 0, [])), (61, (.if_icmp .eq 43, 64, false, false, 104, 0, 0, 0, 0, 0, [])), (64, (.iload_n 3, 65, false, false, 3, 0, 0, 0, 0, 0, [])), (65, (.ifCond .lt 32, 68, false, false, 97, 0, 0, 0, 0, 0, [])), (68, (.iload 6, 70, false, false, 6, 0, 0, 0, 0, 0, [])), (70, (.iload 4, 72, false, false, 4, 0, 0, 0, 0, 0, [])), (72, (.if_icmp .lt 32, 75, false, false, 104, 0, 0, 0, 0, 0, [])), (75, (.iload 6, 77, false, false, 6, 0, 0, 0, 0, 0, [])), (77, (.iload 4, 79, false, false, 4, 0, 0, 0, 0, 0, [])), (79, (.if_icmp .ne 18, 82, false, false, 97, 0, 0, 0, 0, 0, [])), (82, (.iload 5, 84, false, false, 5, 0, 0, 0, 0, 0, [])), (84, (.invokestatic 470, 87, false, false, 341, 1, 1, 0, 0, 0, [])), (87, (.iload_n 3, 88, false, false, 3, 0, 0, 0, 0, 0, [])), (88, (.invokestatic 470, 91, false, false, 341, 1, 1, 0, 0, 0, []))]),
  (111, [(91, (.if_icmp .lt 6, 94, false, false, 97, 0, 0, 0, 0, 0, [])), (94, (.goto 10, 97, false, false, 104, 0, 0, 0, 0, 0, [])), (97, (.iload 5, 99, false, false, 5, 0, 0, 0, 0, 0, [])), (99, (.istore_n 3, 100, false, false, 3, 0, 0, 0, 0, 0, [])), (100, (.iload 6, 102, false, false, 6, 0, 0, 0, 0, 0, [])), (102, (.istore 4, 104, false, false, 4, 0, 0, 0, 0, 0, [])), (104, (.iinc 5 1, 107, false, false, 5, 0, 0, 0, 1, 0, [])), (107, (.goto (-76), 110, false, true, 31, 0, 0, 0, 0, 0, [])), (110, (.iload_n 3, 111, false, false, 3, 0, 0, 0, 0, 0, [])), (111, (.ireturn, 112, false, false, 0, 0, 0, 0, 0, 0, []))])], 0, [])
set_option maxRecDepth 100000 in
theorem v_X12_best : VE MYT dflT E_X12_best := ⟨⟨⟨⟨⟨dX12_best_0, rfl⟩, rfl⟩, ⟨⟨dX12_best_1, rfl⟩, rfl⟩, ⟨⟨dX12_best_2, rfl⟩, Or.inl ⟨rfl, fX12_3⟩⟩, ⟨⟨dX12_best_5, rfl⟩, rfl⟩, ⟨⟨dX12_best_6, rfl⟩, rfl⟩, ⟨⟨dX12_best_7, rfl⟩, rfl⟩, ⟨⟨dX12_best_8, rfl⟩, rfl⟩, ⟨⟨dX12_best_9, rfl⟩, Or.inr ⟨by decide, ⟨_, my_337, sX12_464⟩, fun q => absurd q (by decide)⟩⟩, ⟨⟨dX12_best_12, rfl⟩, rfl⟩, ⟨⟨dX12_best_13, rfl⟩, Or.inr ⟨by decide, ⟨_, my_30, sX12_75⟩, fun q => absurd q (by decide)⟩⟩, ⟨⟨dX12_best_16, rfl⟩, rfl⟩, ⟨⟨dX12_best_19, rfl⟩, rfl⟩, ⟨⟨dX12_best_20, rfl⟩, Or.inl ⟨rfl, rfl⟩⟩, ⟨⟨dX12_best_21, rfl⟩, rfl⟩, ⟨⟨dX12_best_22, rfl⟩, rfl⟩, ⟨⟨dX12_best_23, rfl⟩, Or.inl ⟨rfl, kX12_457⟩⟩, ⟨⟨dX12_best_26, rfl⟩, rfl⟩, ⟨⟨dX12_best_28, rfl⟩, rfl⟩, ⟨⟨dX12_best_29, rfl⟩, rfl⟩, ⟨⟨dX12_best_31, rfl⟩, rfl⟩, ⟨⟨dX12_best_33, rfl⟩, rfl⟩, ⟨⟨dX12_best_34, rfl⟩, rfl⟩, ⟨⟨dX12_best_35, rfl⟩, Or.inl ⟨by decide, _, _, fX12_27⟩⟩, ⟨⟨dX12_best_38, rfl⟩, rfl⟩, trivial⟩,
  ⟨⟨⟨dX12_best_41, rfl⟩, trivial⟩, ⟨⟨dX12_best_42, rfl⟩, trivial⟩, ⟨⟨dX12_best_43, rfl⟩, rfl⟩, ⟨⟨dX12_best_46, rfl⟩, rfl⟩, ⟨⟨dX12_best_47, rfl⟩, rfl⟩, ⟨⟨dX12_best_48, rfl⟩, rfl⟩, ⟨⟨dX12_best_49, rfl⟩, rfl⟩, ⟨⟨dX12_best_51, rfl⟩, Or.inr ⟨by decide, ⟨_, my_339, sX12_467⟩, fun q => absurd q (by decide)⟩⟩, ⟨⟨dX12_best_54, rfl⟩, rfl⟩, ⟨⟨dX12_best_56, rfl⟩, rfl⟩, ⟨⟨dX12_best_58, rfl⟩, Or.inl ⟨rfl, kX12_457⟩⟩, ⟨⟨dX12_best_61, rfl⟩, rfl⟩, ⟨⟨dX12_best_64, rfl⟩, rfl⟩, ⟨⟨dX12_best_65, rfl⟩, rfl⟩, ⟨⟨dX12_best_68, rfl⟩, rfl⟩, ⟨⟨dX12_best_70, rfl⟩, rfl⟩, ⟨⟨dX12_best_72, rfl⟩, rfl⟩, ⟨⟨dX12_best_75, rfl⟩, rfl⟩, ⟨⟨dX12_best_77, rfl⟩, rfl⟩, ⟨⟨dX12_best_79, rfl⟩, rfl⟩, ⟨⟨dX12_best_82, rfl⟩, rfl⟩, ⟨⟨dX12_best_84, rfl⟩, Or.inl ⟨rfl, _, my_341, sX12_470⟩⟩, ⟨⟨dX12_best_87, rfl⟩, rfl⟩, ⟨⟨dX12_best_88, rfl⟩, Or.inl ⟨rfl, _, my_341, sX12_470⟩⟩, trivial⟩,
  ⟨⟨⟨dX12_best_91, rfl⟩, rfl⟩, ⟨⟨dX12_best_94, rfl⟩, rfl⟩, ⟨⟨dX12_best_97, rfl⟩, rfl⟩, ⟨⟨dX12_best_99, rfl⟩, rfl⟩, ⟨⟨dX12_best_100, rfl⟩, rfl⟩, ⟨⟨dX12_best_102, rfl⟩, rfl⟩, ⟨⟨dX12_best_104, rfl⟩, ⟨rfl, rfl⟩⟩, ⟨⟨dX12_best_107, rfl⟩, rfl⟩, ⟨⟨dX12_best_110, rfl⟩, rfl⟩, ⟨⟨dX12_best_111, rfl⟩, Or.inl ⟨rfl, rfl⟩⟩, trivial⟩, trivial⟩, by decide, Or.inl ⟨rfl, by decide, rfl⟩⟩
set_option maxRecDepth 100000 in
theorem g_X12_best_0 (S : sT) (call : cT) (n : Nat) (a0 : Nat) (x1 : Int32) (x2 : Int32) (h : pH) : bd S call dflT E_X12_best (n + 1) 0 [some (.ref a0), some (.int x1), some (.int x2), none, none, none, none] [] h = (pF h (.ref a0) 15 0 (.int 0) (fun h1 => rC h1 (.ref a0) 15 (cI (call 337 [.ref a0, .int x1, .int x2] h1) (fun y3 h2 => rC h2 (.ref a0) 15 (cI (call 30 [.ref a0, .int y3, .int 1] h2) (fun y5 h4 => (if y5 = 0 then bd S call dflT E_X12_best n 31 [some (.ref a0), some (.int x1), some (.int x2), some (.int (-1)), some (.int (-1000000000)), some (.int 0), none] [] h4 else some (.inl (some (.int 0)), h4)))))))) := rfl
set_option maxRecDepth 100000 in
theorem g_X12_best_31 (S : sT) (call : cT) (n : Nat) (a0 : Nat) (x1 : Int32) (x2 : Int32) (x3 : Int32) (x4 : Int32) (x5 : Int32) (o6 : Option Value) (h : pH) : bd S call dflT E_X12_best (n + 1) 31 [some (.ref a0), some (.int x1), some (.int x2), some (.int x3), some (.int x4), some (.int x5), o6] [] h = (gV h (.ref a0) 15 1 (fun w1 => aI h w1 0 2237 (fun y2 => (if (1 <<< (y2 &&& 31)) ≤ x5 then some (.inl (some (.int x3)), h) else rC h (.ref a0) 15 (cI (call 339 [.ref a0, .int x1, .int x2, .int x5] h) (fun y4 h3 => (if y4 = (-1000000000) then bd S call dflT E_X12_best n 31 [some (.ref a0), some (.int x1), some (.int x2), some (.int x3), some (.int x4), some (.int (x5 + 1)), some (.int y4)] [] h3 else (if x3 < 0 then bd S call dflT E_X12_best n 31 [some (.ref a0), some (.int x1), some (.int x2), some (.int x5), some (.int y4), some (.int (x5 + 1)), some (.int y4)] [] h3 else (if y4 < x4 then bd S call dflT E_X12_best n 31 [some (.ref a0), some (.int x1), some (.int x2), some (.int x3), some (.int x4), some (.int (x5 + 1)), some (.int y4)] [] h3 else (if y4 = x4 then cI (call 341 [.int x5] h3) (fun y6 h5 => cI (call 341 [.int x3] h5) (fun y8 h7 => (if y6 < y8 then bd S call dflT E_X12_best n 31 [some (.ref a0), some (.int x1), some (.int x2), some (.int x5), some (.int y4), some (.int (x5 + 1)), some (.int y4)] [] h7 else bd S call dflT E_X12_best n 31 [some (.ref a0), some (.int x1), some (.int x2), some (.int x3), some (.int x4), some (.int (x5 + 1)), some (.int y4)] [] h7))) else bd S call dflT E_X12_best n 31 [some (.ref a0), some (.int x1), some (.int x2), some (.int x5), some (.int y4), some (.int (x5 + 1)), some (.int y4)] [] h3)))))))))) := rfl
theorem dX12_isOf_0 : decode cX12_isOf 0 = .ok (.iload_n 0, 1) := by decide +kernel
theorem dX12_isOf_1 : decode cX12_isOf 1 = .ok (.iload_n 1, 1) := by decide +kernel
theorem dX12_isOf_2 : decode cX12_isOf 2 = .ok (.iload_n 1, 1) := by decide +kernel
theorem dX12_isOf_3 : decode cX12_isOf 3 = .ok (.iload_n 2, 1) := by decide +kernel
theorem dX12_isOf_4 : decode cX12_isOf 4 = .ok (.iadd, 1) := by decide +kernel
theorem dX12_isOf_5 : decode cX12_isOf 5 = .ok (.iconst 1, 1) := by decide +kernel
theorem dX12_isOf_6 : decode cX12_isOf 6 = .ok (.isub, 1) := by decide +kernel
theorem dX12_isOf_7 : decode cX12_isOf 7 = .ok (.invokestatic 63, 3) := by decide +kernel
theorem dX12_isOf_10 : decode cX12_isOf 10 = .ok (.ifCond .eq 18, 3) := by decide +kernel
theorem dX12_isOf_13 : decode cX12_isOf 13 = .ok (.iload_n 3, 1) := by decide +kernel
theorem dX12_isOf_14 : decode cX12_isOf 14 = .ok (.iload_n 0, 1) := by decide +kernel
theorem dX12_isOf_15 : decode cX12_isOf 15 = .ok (.iload_n 1, 1) := by decide +kernel
theorem dX12_isOf_16 : decode cX12_isOf 16 = .ok (.isub, 1) := by decide +kernel
theorem dX12_isOf_17 : decode cX12_isOf 17 = .ok (.ishr, 1) := by decide +kernel
theorem dX12_isOf_18 : decode cX12_isOf 18 = .ok (.iconst 1, 1) := by decide +kernel
theorem dX12_isOf_19 : decode cX12_isOf 19 = .ok (.iand, 1) := by decide +kernel
theorem dX12_isOf_20 : decode cX12_isOf 20 = .ok (.iconst 1, 1) := by decide +kernel
theorem dX12_isOf_21 : decode cX12_isOf 21 = .ok (.if_icmp .ne 7, 3) := by decide +kernel
theorem dX12_isOf_24 : decode cX12_isOf 24 = .ok (.iconst 1, 1) := by decide +kernel
theorem dX12_isOf_25 : decode cX12_isOf 25 = .ok (.goto 4, 3) := by decide +kernel
theorem dX12_isOf_28 : decode cX12_isOf 28 = .ok (.iconst 0, 1) := by decide +kernel
theorem dX12_isOf_29 : decode cX12_isOf 29 = .ok (.ireturn, 1) := by decide +kernel
noncomputable def E_X12_isOf : mE := (mX12_isOf, [(29, [(0, (.iload_n 0, 1, false, false, 0, 0, 0, 0, 0, 0, [])), (1, (.iload_n 1, 2, false, false, 1, 0, 0, 0, 0, 0, [])), (2, (.iload_n 1, 3, false, false, 1, 0, 0, 0, 0, 0, [])), (3, (.iload_n 2, 4, false, false, 2, 0, 0, 0, 0, 0, [])), (4, (.iadd, 5, false, false, 0, 0, 0, 0, 0, 0, [])), (5, (.iconst 1, 6, false, false, 0, 0, 0, 0, 1, 0, [])), (6, (.isub, 7, false, false, 0, 0, 0, 0, 0, 0, [])), (7, (.invokestatic 63, 10, false, false, 28, 3, 1, 0, 0, 0, [])), (10, (.ifCond .eq 18, 13, false, false, 28, 0, 0, 0, 0, 0, [])), (13, (.iload_n 3, 14, false, false, 3, 0, 0, 0, 0, 0, [])), (14, (.iload_n 0, 15, false, false, 0, 0, 0, 0, 0, 0, [])), (15, (.iload_n 1, 16, false, false, 1, 0, 0, 0, 0, 0, [])), (16, (.isub, 17, false, false, 0, 0, 0, 0, 0, 0, [])), (17, (.ishr, 18, false, false, 0, 0, 0, 0, 0, 0, [])), (18, (.iconst 1, 19, false, false, 0, 0, 0, 0, 1, 0, [])), (19, (.iand, 20, false, false, 0, 0, 0, 0, 0, 0, [])), (20, (.iconst 1, 21, false, false, 0, 0, 0, 0, 1, 0, [])), (21, (.if_icmp .ne 7, 24, false, false, 28, 0, 0, 0, 0, 0, [])), (24, (.iconst 1, 25, false, false, 0, 0, 0, 0, 1, 0, [])), (25, (.goto 4, 28, false, false, 29, 0, 0, 0, 0, 0, [])), (28, (.iconst 0, 29, false, false, 0, 0, 0, 0, 0, 0, [])), (29, (.ireturn, 30, false, false, 0, 0, 1, 0, 0, 0, []))])], 0, [])
set_option maxRecDepth 100000 in
theorem v_X12_isOf : VE MYT dflT E_X12_isOf := ⟨⟨⟨⟨⟨dX12_isOf_0, rfl⟩, rfl⟩, ⟨⟨dX12_isOf_1, rfl⟩, rfl⟩, ⟨⟨dX12_isOf_2, rfl⟩, rfl⟩, ⟨⟨dX12_isOf_3, rfl⟩, rfl⟩, ⟨⟨dX12_isOf_4, rfl⟩, trivial⟩, ⟨⟨dX12_isOf_5, rfl⟩, rfl⟩, ⟨⟨dX12_isOf_6, rfl⟩, trivial⟩, ⟨⟨dX12_isOf_7, rfl⟩, Or.inl ⟨rfl, _, my_28, sX12_63⟩⟩, ⟨⟨dX12_isOf_10, rfl⟩, rfl⟩, ⟨⟨dX12_isOf_13, rfl⟩, rfl⟩, ⟨⟨dX12_isOf_14, rfl⟩, rfl⟩, ⟨⟨dX12_isOf_15, rfl⟩, rfl⟩, ⟨⟨dX12_isOf_16, rfl⟩, trivial⟩, ⟨⟨dX12_isOf_17, rfl⟩, trivial⟩, ⟨⟨dX12_isOf_18, rfl⟩, rfl⟩, ⟨⟨dX12_isOf_19, rfl⟩, trivial⟩, ⟨⟨dX12_isOf_20, rfl⟩, rfl⟩, ⟨⟨dX12_isOf_21, rfl⟩, rfl⟩, ⟨⟨dX12_isOf_24, rfl⟩, rfl⟩, ⟨⟨dX12_isOf_25, rfl⟩, rfl⟩, ⟨⟨dX12_isOf_28, rfl⟩, rfl⟩, ⟨⟨dX12_isOf_29, rfl⟩, Or.inr (Or.inl ⟨rfl, rfl⟩)⟩, trivial⟩, trivial⟩, by decide, Or.inl ⟨rfl, by decide, rfl⟩⟩
set_option maxRecDepth 100000 in
theorem g_X12_isOf_0 (S : sT) (call : cT) (n : Nat) (x0 : Int32) (x1 : Int32) (x2 : Int32) (x3 : Int32) (h : pH) : bd S call dflT E_X12_isOf (n + 1) 0 [some (.int x0), some (.int x1), some (.int x2), some (.int x3)] [] h = (cI (call 28 [.int x0, .int x1, .int ((x1 + x2) - 1)] h) (fun y2 h1 => (if y2 = 0 then zR 0 (some (.inl (some (.int 0)), h1)) else (if ((x3 >>> ((x0 - x1) &&& 31)) &&& 1) = 1 then zR 1 (some (.inl (some (.int 1)), h1)) else zR 0 (some (.inl (some (.int 0)), h1)))))) := rfl
theorem dX12_parted_0 : decode cX12_parted 0 = .ok (.iconst 0, 1) := by decide +kernel
theorem dX12_parted_1 : decode cX12_parted 1 = .ok (.istore 4, 2) := by decide +kernel
theorem dX12_parted_3 : decode cX12_parted 3 = .ok (.iconst 0, 1) := by decide +kernel
theorem dX12_parted_4 : decode cX12_parted 4 = .ok (.istore 5, 2) := by decide +kernel
theorem dX12_parted_6 : decode cX12_parted 6 = .ok (.iload 5, 2) := by decide +kernel
theorem dX12_parted_8 : decode cX12_parted 8 = .ok (.bipush 48, 2) := by decide +kernel
theorem dX12_parted_10 : decode cX12_parted 10 = .ok (.if_icmp .ge 84, 3) := by decide +kernel
theorem dX12_parted_13 : decode cX12_parted 13 = .ok (.iload 5, 2) := by decide +kernel
theorem dX12_parted_15 : decode cX12_parted 15 = .ok (.iload_n 1, 1) := by decide +kernel
theorem dX12_parted_16 : decode cX12_parted 16 = .ok (.iload_n 2, 1) := by decide +kernel
theorem dX12_parted_17 : decode cX12_parted 17 = .ok (.iload_n 3, 1) := by decide +kernel
theorem dX12_parted_18 : decode cX12_parted 18 = .ok (.invokestatic 475, 3) := by decide +kernel
theorem dX12_parted_21 : decode cX12_parted 21 = .ok (.ifCond .ne 6, 3) := by decide +kernel
theorem dX12_parted_24 : decode cX12_parted 24 = .ok (.goto 64, 3) := by decide +kernel
theorem dX12_parted_27 : decode cX12_parted 27 = .ok (.iconst 0, 1) := by decide +kernel
theorem dX12_parted_28 : decode cX12_parted 28 = .ok (.istore 6, 2) := by decide +kernel
theorem dX12_parted_30 : decode cX12_parted 30 = .ok (.iload 6, 2) := by decide +kernel
theorem dX12_parted_32 : decode cX12_parted 32 = .ok (.iconst 4, 1) := by decide +kernel
theorem dX12_parted_33 : decode cX12_parted 33 = .ok (.if_icmp .ge 55, 3) := by decide +kernel
theorem dX12_parted_36 : decode cX12_parted 36 = .ok (.iload 5, 2) := by decide +kernel
theorem dX12_parted_38 : decode cX12_parted 38 = .ok (.iload 6, 2) := by decide +kernel
theorem dX12_parted_40 : decode cX12_parted 40 = .ok (.invokestatic 416, 3) := by decide +kernel
theorem dX12_parted_43 : decode cX12_parted 43 = .ok (.istore 7, 2) := by decide +kernel
theorem dX12_parted_45 : decode cX12_parted 45 = .ok (.iload 4, 2) := by decide +kernel
theorem dX12_parted_47 : decode cX12_parted 47 = .ok (.iload 7, 2) := by decide +kernel
theorem dX12_parted_49 : decode cX12_parted 49 = .ok (.ifCond .lt 29, 3) := by decide +kernel
theorem dX12_parted_52 : decode cX12_parted 52 = .ok (.aload_n 0, 1) := by decide +kernel
theorem dX12_parted_53 : decode cX12_parted 53 = .ok (.iload 7, 2) := by decide +kernel
theorem dX12_parted_55 : decode cX12_parted 55 = .ok (.bipush 11, 2) := by decide +kernel
theorem dX12_parted_57 : decode cX12_parted 57 = .ok (.invokevirtual 79, 3) := by decide +kernel
theorem dX12_parted_60 : decode cX12_parted 60 = .ok (.ifCond .ne 18, 3) := by decide +kernel
theorem dX12_parted_63 : decode cX12_parted 63 = .ok (.iload 7, 2) := by decide +kernel
theorem dX12_parted_65 : decode cX12_parted 65 = .ok (.iload_n 1, 1) := by decide +kernel
theorem dX12_parted_66 : decode cX12_parted 66 = .ok (.iload_n 2, 1) := by decide +kernel
theorem dX12_parted_67 : decode cX12_parted 67 = .ok (.iload_n 3, 1) := by decide +kernel
theorem dX12_parted_68 : decode cX12_parted 68 = .ok (.invokestatic 475, 3) := by decide +kernel
theorem dX12_parted_71 : decode cX12_parted 71 = .ok (.ifCond .ne 7, 3) := by decide +kernel
theorem dX12_parted_74 : decode cX12_parted 74 = .ok (.iconst 1, 1) := by decide +kernel
theorem dX12_parted_75 : decode cX12_parted 75 = .ok (.goto 4, 3) := by decide +kernel
theorem dX12_parted_78 : decode cX12_parted 78 = .ok (.iconst 0, 1) := by decide +kernel
theorem dX12_parted_79 : decode cX12_parted 79 = .ok (.iadd, 1) := by decide +kernel
theorem dX12_parted_80 : decode cX12_parted 80 = .ok (.istore 4, 2) := by decide +kernel
theorem dX12_parted_82 : decode cX12_parted 82 = .ok (.iinc 6 1, 3) := by decide +kernel
theorem dX12_parted_85 : decode cX12_parted 85 = .ok (.goto (-55), 3) := by decide +kernel
theorem dX12_parted_88 : decode cX12_parted 88 = .ok (.iinc 5 1, 3) := by decide +kernel
theorem dX12_parted_91 : decode cX12_parted 91 = .ok (.goto (-85), 3) := by decide +kernel
theorem dX12_parted_94 : decode cX12_parted 94 = .ok (.iload 4, 2) := by decide +kernel
theorem dX12_parted_96 : decode cX12_parted 96 = .ok (.ireturn, 1) := by decide +kernel
noncomputable def E_X12_parted : mE := (mX12_parted, [(45, [(0, (.iconst 0, 1, false, false, 0, 0, 0, 0, 0, 0, [])), (1, (.istore 4, 3, false, false, 4, 0, 0, 0, 0, 0, [])), (3, (.iconst 0, 4, false, false, 0, 0, 0, 0, 0, 0, [])), (4, (.istore 5, 6, true, false, 5, 0, 0, 0, 0, 0, [])), (6, (.iload 5, 8, false, false, 5, 0, 0, 0, 0, 0, [])), (8, (.bipush 48, 10, false, false, 0, 0, 0, 0, 48, 0, [])), (10, (.if_icmp .ge 84, 13, false, false, 94, 0, 0, 0, 0, 0, [])), (13, (.iload 5, 15, false, false, 5, 0, 0, 0, 0, 0, [])), (15, (.iload_n 1, 16, false, false, 1, 0, 0, 0, 0, 0, [])), (16, (.iload_n 2, 17, false, false, 2, 0, 0, 0, 0, 0, [])), (17, (.iload_n 3, 18, false, false, 3, 0, 0, 0, 0, 0, [])), (18, (.invokestatic 475, 21, false, false, 352, 4, 1, 0, 0, 0, [])), (21, (.ifCond .ne 6, 24, false, false, 27, 0, 0, 0, 0, 0, [])), (24, (.goto 64, 27, false, false, 88, 0, 0, 0, 0, 0, [])), (27, (.iconst 0, 28, false, false, 0, 0, 0, 0, 0, 0, [])), (28, (.istore 6, 30, true, false, 6, 0, 0, 0, 0, 0, [])), (30, (.iload 6, 32, false, false, 6, 0, 0, 0, 0, 0, [])), (32, (.iconst 4, 33, false, false, 0, 0, 0, 0, 4, 0, [])), (33, (.if_icmp .ge 55, 36, false, false, 88, 0, 0, 0, 0, 0, [])), (36, (.iload 5, 38, false, false, 5, 0, 0, 0, 0, 0, [])), (38, (.iload 6, 40, false, false, 6, 0, 0, 0, 0, 0, [])), (40, (.invokestatic 416, 43, false, false, 244, 2, 1, 0, 0, 0, [])), (43, (.istore 7, 45, false, false, 7, 0, 0, 0, 0, 0, [])), (45, (.iload 4, 47, false, false, 4, 0, 0, 0, 0, 0, []))]),
  (96, [(47, (.iload 7, 49, false, false, 7, 0, 0, 0, 0, 0, [])), (49, (.ifCond .lt 29, 52, false, false, 78, 0, 0, 0, 0, 0, [])), (52, (.aload_n 0, 53, false, false, 0, 0, 0, 0, 0, 0, [])), (53, (.iload 7, 55, false, false, 7, 0, 0, 0, 0, 0, [])), (55, (.bipush 11, 57, false, false, 0, 0, 0, 0, 11, 0, [])), (57, (.invokevirtual 79, 60, false, false, 31, 2, 1, 15, 0, 0, [])), (60, (.ifCond .ne 18, 63, false, false, 78, 0, 0, 0, 0, 0, [])), (63, (.iload 7, 65, false, false, 7, 0, 0, 0, 0, 0, [])), (65, (.iload_n 1, 66, false, false, 1, 0, 0, 0, 0, 0, [])), (66, (.iload_n 2, 67, false, false, 2, 0, 0, 0, 0, 0, [])), (67, (.iload_n 3, 68, false, false, 3, 0, 0, 0, 0, 0, [])), (68, (.invokestatic 475, 71, false, false, 352, 4, 1, 0, 0, 0, [])), (71, (.ifCond .ne 7, 74, false, false, 78, 0, 0, 0, 0, 0, [])), (74, (.iconst 1, 75, false, false, 0, 0, 0, 0, 1, 0, [])), (75, (.goto 4, 78, false, false, 79, 0, 0, 0, 0, 0, [])), (78, (.iconst 0, 79, false, false, 0, 0, 0, 0, 0, 0, [])), (79, (.iadd, 80, false, false, 0, 0, 0, 0, 0, 0, [])), (80, (.istore 4, 82, false, false, 4, 0, 0, 0, 0, 0, [])), (82, (.iinc 6 1, 85, false, false, 6, 0, 0, 0, 1, 0, [])), (85, (.goto (-55), 88, false, true, 30, 0, 0, 0, 0, 0, [])), (88, (.iinc 5 1, 91, false, false, 5, 0, 0, 0, 1, 0, [])), (91, (.goto (-85), 94, false, true, 6, 0, 0, 0, 0, 0, [])), (94, (.iload 4, 96, false, false, 4, 0, 0, 0, 0, 0, [])), (96, (.ireturn, 97, false, false, 0, 0, 0, 0, 0, 0, []))])], 0, [])
set_option maxRecDepth 100000 in
theorem v_X12_parted : VE MYT dflT E_X12_parted := ⟨⟨⟨⟨⟨dX12_parted_0, rfl⟩, rfl⟩, ⟨⟨dX12_parted_1, rfl⟩, rfl⟩, ⟨⟨dX12_parted_3, rfl⟩, rfl⟩, ⟨⟨dX12_parted_4, rfl⟩, rfl⟩, ⟨⟨dX12_parted_6, rfl⟩, rfl⟩, ⟨⟨dX12_parted_8, rfl⟩, rfl⟩, ⟨⟨dX12_parted_10, rfl⟩, rfl⟩, ⟨⟨dX12_parted_13, rfl⟩, rfl⟩, ⟨⟨dX12_parted_15, rfl⟩, rfl⟩, ⟨⟨dX12_parted_16, rfl⟩, rfl⟩, ⟨⟨dX12_parted_17, rfl⟩, rfl⟩, ⟨⟨dX12_parted_18, rfl⟩, Or.inl ⟨rfl, _, my_352, sX12_475⟩⟩, ⟨⟨dX12_parted_21, rfl⟩, rfl⟩, ⟨⟨dX12_parted_24, rfl⟩, rfl⟩, ⟨⟨dX12_parted_27, rfl⟩, rfl⟩, ⟨⟨dX12_parted_28, rfl⟩, rfl⟩, ⟨⟨dX12_parted_30, rfl⟩, rfl⟩, ⟨⟨dX12_parted_32, rfl⟩, rfl⟩, ⟨⟨dX12_parted_33, rfl⟩, rfl⟩, ⟨⟨dX12_parted_36, rfl⟩, rfl⟩, ⟨⟨dX12_parted_38, rfl⟩, rfl⟩, ⟨⟨dX12_parted_40, rfl⟩, Or.inl ⟨rfl, _, my_244, sX12_416⟩⟩, ⟨⟨dX12_parted_43, rfl⟩, rfl⟩, ⟨⟨dX12_parted_45, rfl⟩, rfl⟩, trivial⟩,
  ⟨⟨⟨dX12_parted_47, rfl⟩, rfl⟩, ⟨⟨dX12_parted_49, rfl⟩, rfl⟩, ⟨⟨dX12_parted_52, rfl⟩, rfl⟩, ⟨⟨dX12_parted_53, rfl⟩, rfl⟩, ⟨⟨dX12_parted_55, rfl⟩, rfl⟩, ⟨⟨dX12_parted_57, rfl⟩, Or.inr ⟨by decide, ⟨_, my_31, sX12_79⟩, fun q => absurd q (by decide)⟩⟩, ⟨⟨dX12_parted_60, rfl⟩, rfl⟩, ⟨⟨dX12_parted_63, rfl⟩, rfl⟩, ⟨⟨dX12_parted_65, rfl⟩, rfl⟩, ⟨⟨dX12_parted_66, rfl⟩, rfl⟩, ⟨⟨dX12_parted_67, rfl⟩, rfl⟩, ⟨⟨dX12_parted_68, rfl⟩, Or.inl ⟨rfl, _, my_352, sX12_475⟩⟩, ⟨⟨dX12_parted_71, rfl⟩, rfl⟩, ⟨⟨dX12_parted_74, rfl⟩, rfl⟩, ⟨⟨dX12_parted_75, rfl⟩, rfl⟩, ⟨⟨dX12_parted_78, rfl⟩, rfl⟩, ⟨⟨dX12_parted_79, rfl⟩, trivial⟩, ⟨⟨dX12_parted_80, rfl⟩, rfl⟩, ⟨⟨dX12_parted_82, rfl⟩, ⟨rfl, rfl⟩⟩, ⟨⟨dX12_parted_85, rfl⟩, rfl⟩, ⟨⟨dX12_parted_88, rfl⟩, ⟨rfl, rfl⟩⟩, ⟨⟨dX12_parted_91, rfl⟩, rfl⟩, ⟨⟨dX12_parted_94, rfl⟩, rfl⟩, ⟨⟨dX12_parted_96, rfl⟩, Or.inl ⟨rfl, rfl⟩⟩, trivial⟩, trivial⟩, by decide, Or.inl ⟨rfl, by decide, rfl⟩⟩
set_option maxRecDepth 100000 in
theorem g_X12_parted_0 (S : sT) (call : cT) (n : Nat) (a0 : Nat) (x1 : Int32) (x2 : Int32) (x3 : Int32) (h : pH) : bd S call dflT E_X12_parted (n + 1) 0 [some (.ref a0), some (.int x1), some (.int x2), some (.int x3), none, none, none, none] [] h = (bd S call dflT E_X12_parted n 6 [some (.ref a0), some (.int x1), some (.int x2), some (.int x3), some (.int 0), some (.int 0), none, none] [] h) := rfl
set_option maxRecDepth 100000 in
theorem g_X12_parted_6 (S : sT) (call : cT) (n : Nat) (a0 : Nat) (x1 : Int32) (x2 : Int32) (x3 : Int32) (x4 : Int32) (x5 : Int32) (o6 : Option Value) (o7 : Option Value) (h : pH) : bd S call dflT E_X12_parted (n + 1) 6 [some (.ref a0), some (.int x1), some (.int x2), some (.int x3), some (.int x4), some (.int x5), o6, o7] [] h = ((if 48 ≤ x5 then some (.inl (some (.int x4)), h) else cI (call 352 [.int x5, .int x1, .int x2, .int x3] h) (fun y2 h1 => (if y2 = 0 then bd S call dflT E_X12_parted n 6 [some (.ref a0), some (.int x1), some (.int x2), some (.int x3), some (.int x4), some (.int (x5 + 1)), o6, o7] [] h1 else bd S call dflT E_X12_parted n 30 [some (.ref a0), some (.int x1), some (.int x2), some (.int x3), some (.int x4), some (.int x5), some (.int 0), o7] [] h1)))) := rfl
set_option maxRecDepth 100000 in
theorem g_X12_parted_30 (S : sT) (call : cT) (n : Nat) (a0 : Nat) (x1 : Int32) (x2 : Int32) (x3 : Int32) (x4 : Int32) (x5 : Int32) (x6 : Int32) (o7 : Option Value) (h : pH) : bd S call dflT E_X12_parted (n + 1) 30 [some (.ref a0), some (.int x1), some (.int x2), some (.int x3), some (.int x4), some (.int x5), some (.int x6), o7] [] h = ((if 4 ≤ x6 then bd S call dflT E_X12_parted n 6 [some (.ref a0), some (.int x1), some (.int x2), some (.int x3), some (.int x4), some (.int (x5 + 1)), some (.int x6), o7] [] h else cI (call 244 [.int x5, .int x6] h) (fun y2 h1 => (if y2 < 0 then bd S call dflT E_X12_parted n 30 [some (.ref a0), some (.int x1), some (.int x2), some (.int x3), some (.int (x4 + 0)), some (.int x5), some (.int (x6 + 1)), some (.int y2)] [] h1 else rC h1 (.ref a0) 15 (cI (call 31 [.ref a0, .int y2, .int 11] h1) (fun y4 h3 => (if y4 = 0 then cI (call 352 [.int y2, .int x1, .int x2, .int x3] h3) (fun y6 h5 => (if y6 = 0 then bd S call dflT E_X12_parted n 30 [some (.ref a0), some (.int x1), some (.int x2), some (.int x3), some (.int (x4 + 1)), some (.int x5), some (.int (x6 + 1)), some (.int y2)] [] h5 else bd S call dflT E_X12_parted n 30 [some (.ref a0), some (.int x1), some (.int x2), some (.int x3), some (.int (x4 + 0)), some (.int x5), some (.int (x6 + 1)), some (.int y2)] [] h5)) else bd S call dflT E_X12_parted n 30 [some (.ref a0), some (.int x1), some (.int x2), some (.int x3), some (.int (x4 + 0)), some (.int x5), some (.int (x6 + 1)), some (.int y2)] [] h3))))))) := rfl
theorem dX12_toSell_0 : decode cX12_toSell 0 = .ok (.aload_n 0, 1) := by decide +kernel
theorem dX12_toSell_1 : decode cX12_toSell 1 = .ok (.iconst 0, 1) := by decide +kernel
theorem dX12_toSell_2 : decode cX12_toSell 2 = .ok (.putfield 3, 3) := by decide +kernel
theorem dX12_toSell_5 : decode cX12_toSell 5 = .ok (.aload_n 0, 1) := by decide +kernel
theorem dX12_toSell_6 : decode cX12_toSell 6 = .ok (.iload_n 1, 1) := by decide +kernel
theorem dX12_toSell_7 : decode cX12_toSell 7 = .ok (.invokestatic 71, 3) := by decide +kernel
theorem dX12_toSell_10 : decode cX12_toSell 10 = .ok (.iconst 1, 1) := by decide +kernel
theorem dX12_toSell_11 : decode cX12_toSell 11 = .ok (.invokevirtual 75, 3) := by decide +kernel
theorem dX12_toSell_14 : decode cX12_toSell 14 = .ok (.ifCond .ne 45, 3) := by decide +kernel
theorem dX12_toSell_17 : decode cX12_toSell 17 = .ok (.aload_n 0, 1) := by decide +kernel
theorem dX12_toSell_18 : decode cX12_toSell 18 = .ok (.iload_n 2, 1) := by decide +kernel
theorem dX12_toSell_19 : decode cX12_toSell 19 = .ok (.iconst 1, 1) := by decide +kernel
theorem dX12_toSell_20 : decode cX12_toSell 20 = .ok (.bipush 8, 2) := by decide +kernel
theorem dX12_toSell_22 : decode cX12_toSell 22 = .ok (.invokestatic 63, 3) := by decide +kernel
theorem dX12_toSell_25 : decode cX12_toSell 25 = .ok (.ifCond .eq 22, 3) := by decide +kernel
theorem dX12_toSell_28 : decode cX12_toSell 28 = .ok (.iload_n 1, 1) := by decide +kernel
theorem dX12_toSell_29 : decode cX12_toSell 29 = .ok (.iload_n 2, 1) := by decide +kernel
theorem dX12_toSell_30 : decode cX12_toSell 30 = .ok (.iadd, 1) := by decide +kernel
theorem dX12_toSell_31 : decode cX12_toSell 31 = .ok (.bipush 48, 2) := by decide +kernel
theorem dX12_toSell_33 : decode cX12_toSell 33 = .ok (.if_icmp .gt 14, 3) := by decide +kernel
theorem dX12_toSell_36 : decode cX12_toSell 36 = .ok (.iload_n 3, 1) := by decide +kernel
theorem dX12_toSell_37 : decode cX12_toSell 37 = .ok (.iconst 0, 1) := by decide +kernel
theorem dX12_toSell_38 : decode cX12_toSell 38 = .ok (.ldc_w 366, 3) := by decide +kernel
theorem dX12_toSell_41 : decode cX12_toSell 41 = .ok (.invokestatic 63, 3) := by decide +kernel
theorem dX12_toSell_44 : decode cX12_toSell 44 = .ok (.ifCond .ne 7, 3) := by decide +kernel
theorem dX12_toSell_47 : decode cX12_toSell 47 = .ok (.iconst 1, 1) := by decide +kernel
theorem dX12_toSell_48 : decode cX12_toSell 48 = .ok (.goto 4, 3) := by decide +kernel
theorem dX12_toSell_51 : decode cX12_toSell 51 = .ok (.iconst 0, 1) := by decide +kernel
theorem dX12_toSell_52 : decode cX12_toSell 52 = .ok (.iconst 2, 1) := by decide +kernel
theorem dX12_toSell_53 : decode cX12_toSell 53 = .ok (.invokevirtual 75, 3) := by decide +kernel
theorem dX12_toSell_56 : decode cX12_toSell 56 = .ok (.ifCond .eq 5, 3) := by decide +kernel
theorem dX12_toSell_59 : decode cX12_toSell 59 = .ok (.iconst 0, 1) := by decide +kernel
theorem dX12_toSell_60 : decode cX12_toSell 60 = .ok (.ireturn, 1) := by decide +kernel
theorem dX12_toSell_61 : decode cX12_toSell 61 = .ok (.iconst 0, 1) := by decide +kernel
theorem dX12_toSell_62 : decode cX12_toSell 62 = .ok (.istore 4, 2) := by decide +kernel
theorem dX12_toSell_64 : decode cX12_toSell 64 = .ok (.iconst 0, 1) := by decide +kernel
theorem dX12_toSell_65 : decode cX12_toSell 65 = .ok (.istore 5, 2) := by decide +kernel
theorem dX12_toSell_67 : decode cX12_toSell 67 = .ok (.iload 5, 2) := by decide +kernel
theorem dX12_toSell_69 : decode cX12_toSell 69 = .ok (.iload_n 2, 1) := by decide +kernel
theorem dX12_toSell_70 : decode cX12_toSell 70 = .ok (.if_icmp .ge 48, 3) := by decide +kernel
theorem dX12_toSell_73 : decode cX12_toSell 73 = .ok (.iload 4, 2) := by decide +kernel
theorem dX12_toSell_75 : decode cX12_toSell 75 = .ok (.aload_n 0, 1) := by decide +kernel
theorem dX12_toSell_76 : decode cX12_toSell 76 = .ok (.iload_n 1, 1) := by decide +kernel
theorem dX12_toSell_77 : decode cX12_toSell 77 = .ok (.iload 5, 2) := by decide +kernel
theorem dX12_toSell_79 : decode cX12_toSell 79 = .ok (.iadd, 1) := by decide +kernel
theorem dX12_toSell_80 : decode cX12_toSell 80 = .ok (.bipush 11, 2) := by decide +kernel
theorem dX12_toSell_82 : decode cX12_toSell 82 = .ok (.invokevirtual 79, 3) := by decide +kernel
theorem dX12_toSell_85 : decode cX12_toSell 85 = .ok (.ifCond .ne 23, 3) := by decide +kernel
theorem dX12_toSell_88 : decode cX12_toSell 88 = .ok (.aload_n 0, 1) := by decide +kernel
theorem dX12_toSell_89 : decode cX12_toSell 89 = .ok (.bipush 13, 2) := by decide +kernel
theorem dX12_toSell_91 : decode cX12_toSell 91 = .ok (.iload_n 1, 1) := by decide +kernel
theorem dX12_toSell_92 : decode cX12_toSell 92 = .ok (.iload 5, 2) := by decide +kernel
theorem dX12_toSell_94 : decode cX12_toSell 94 = .ok (.iadd, 1) := by decide +kernel
theorem dX12_toSell_95 : decode cX12_toSell 95 = .ok (.invokevirtual 336, 3) := by decide +kernel
theorem dX12_toSell_98 : decode cX12_toSell 98 = .ok (.ifCond .lt 10, 3) := by decide +kernel
theorem dX12_toSell_101 : decode cX12_toSell 101 = .ok (.iconst 1, 1) := by decide +kernel
theorem dX12_toSell_102 : decode cX12_toSell 102 = .ok (.iload 5, 2) := by decide +kernel
theorem dX12_toSell_104 : decode cX12_toSell 104 = .ok (.ishl, 1) := by decide +kernel
theorem dX12_toSell_105 : decode cX12_toSell 105 = .ok (.goto 4, 3) := by decide +kernel
theorem dX12_toSell_108 : decode cX12_toSell 108 = .ok (.iconst 0, 1) := by decide +kernel
theorem dX12_toSell_109 : decode cX12_toSell 109 = .ok (.ior, 1) := by decide +kernel
theorem dX12_toSell_110 : decode cX12_toSell 110 = .ok (.istore 4, 2) := by decide +kernel
theorem dX12_toSell_112 : decode cX12_toSell 112 = .ok (.iinc 5 1, 3) := by decide +kernel
theorem dX12_toSell_115 : decode cX12_toSell 115 = .ok (.goto (-48), 3) := by decide +kernel
theorem dX12_toSell_118 : decode cX12_toSell 118 = .ok (.iconst (-1), 1) := by decide +kernel
theorem dX12_toSell_119 : decode cX12_toSell 119 = .ok (.istore 5, 2) := by decide +kernel
theorem dX12_toSell_121 : decode cX12_toSell 121 = .ok (.iconst 0, 1) := by decide +kernel
theorem dX12_toSell_122 : decode cX12_toSell 122 = .ok (.istore 6, 2) := by decide +kernel
theorem dX12_toSell_124 : decode cX12_toSell 124 = .ok (.iconst 0, 1) := by decide +kernel
theorem dX12_toSell_125 : decode cX12_toSell 125 = .ok (.istore 7, 2) := by decide +kernel
theorem dX12_toSell_127 : decode cX12_toSell 127 = .ok (.iconst 0, 1) := by decide +kernel
theorem dX12_toSell_128 : decode cX12_toSell 128 = .ok (.istore 8, 2) := by decide +kernel
theorem dX12_toSell_130 : decode cX12_toSell 130 = .ok (.iload 8, 2) := by decide +kernel
theorem dX12_toSell_132 : decode cX12_toSell 132 = .ok (.iconst 1, 1) := by decide +kernel
theorem dX12_toSell_133 : decode cX12_toSell 133 = .ok (.iload_n 2, 1) := by decide +kernel
theorem dX12_toSell_134 : decode cX12_toSell 134 = .ok (.ishl, 1) := by decide +kernel
theorem dX12_toSell_135 : decode cX12_toSell 135 = .ok (.if_icmp .ge 128, 3) := by decide +kernel
theorem dX12_toSell_138 : decode cX12_toSell 138 = .ok (.iload 8, 2) := by decide +kernel
theorem dX12_toSell_140 : decode cX12_toSell 140 = .ok (.iload 4, 2) := by decide +kernel
theorem dX12_toSell_142 : decode cX12_toSell 142 = .ok (.iconst (-1), 1) := by decide +kernel
theorem dX12_toSell_143 : decode cX12_toSell 143 = .ok (.ixor, 1) := by decide +kernel
theorem dX12_toSell_144 : decode cX12_toSell 144 = .ok (.iand, 1) := by decide +kernel
theorem dX12_toSell_145 : decode cX12_toSell 145 = .ok (.ifCond .eq 6, 3) := by decide +kernel
theorem dX12_toSell_148 : decode cX12_toSell 148 = .ok (.goto 109, 3) := by decide +kernel
theorem dX12_toSell_151 : decode cX12_toSell 151 = .ok (.iconst 0, 1) := by decide +kernel
theorem dX12_toSell_152 : decode cX12_toSell 152 = .ok (.istore 9, 2) := by decide +kernel
theorem dX12_toSell_154 : decode cX12_toSell 154 = .ok (.iconst 0, 1) := by decide +kernel
theorem dX12_toSell_155 : decode cX12_toSell 155 = .ok (.istore 10, 2) := by decide +kernel
theorem dX12_toSell_157 : decode cX12_toSell 157 = .ok (.iload 10, 2) := by decide +kernel
theorem dX12_toSell_159 : decode cX12_toSell 159 = .ok (.iload_n 2, 1) := by decide +kernel
theorem dX12_toSell_160 : decode cX12_toSell 160 = .ok (.if_icmp .ge 37, 3) := by decide +kernel
theorem dX12_toSell_163 : decode cX12_toSell 163 = .ok (.iload 9, 2) := by decide +kernel
theorem dX12_toSell_165 : decode cX12_toSell 165 = .ok (.iload 8, 2) := by decide +kernel
theorem dX12_toSell_167 : decode cX12_toSell 167 = .ok (.iload 10, 2) := by decide +kernel
theorem dX12_toSell_169 : decode cX12_toSell 169 = .ok (.ishr, 1) := by decide +kernel
theorem dX12_toSell_170 : decode cX12_toSell 170 = .ok (.iconst 1, 1) := by decide +kernel
theorem dX12_toSell_171 : decode cX12_toSell 171 = .ok (.iand, 1) := by decide +kernel
theorem dX12_toSell_172 : decode cX12_toSell 172 = .ok (.iconst 1, 1) := by decide +kernel
theorem dX12_toSell_173 : decode cX12_toSell 173 = .ok (.if_icmp .ne 14, 3) := by decide +kernel
theorem dX12_toSell_176 : decode cX12_toSell 176 = .ok (.aload_n 0, 1) := by decide +kernel
theorem dX12_toSell_177 : decode cX12_toSell 177 = .ok (.iload_n 1, 1) := by decide +kernel
theorem dX12_toSell_178 : decode cX12_toSell 178 = .ok (.iload 10, 2) := by decide +kernel
theorem dX12_toSell_180 : decode cX12_toSell 180 = .ok (.iadd, 1) := by decide +kernel
theorem dX12_toSell_181 : decode cX12_toSell 181 = .ok (.invokevirtual 102, 3) := by decide +kernel
theorem dX12_toSell_184 : decode cX12_toSell 184 = .ok (.goto 4, 3) := by decide +kernel
theorem dX12_toSell_187 : decode cX12_toSell 187 = .ok (.iconst 0, 1) := by decide +kernel
theorem dX12_toSell_188 : decode cX12_toSell 188 = .ok (.iadd, 1) := by decide +kernel
theorem dX12_toSell_189 : decode cX12_toSell 189 = .ok (.istore 9, 2) := by decide +kernel
theorem dX12_toSell_191 : decode cX12_toSell 191 = .ok (.iinc 10 1, 3) := by decide +kernel
theorem dX12_toSell_194 : decode cX12_toSell 194 = .ok (.goto (-37), 3) := by decide +kernel
theorem dX12_toSell_197 : decode cX12_toSell 197 = .ok (.iload 9, 2) := by decide +kernel
theorem dX12_toSell_199 : decode cX12_toSell 199 = .ok (.iload_n 3, 1) := by decide +kernel
theorem dX12_toSell_200 : decode cX12_toSell 200 = .ok (.if_icmp .ge 6, 3) := by decide +kernel
theorem dX12_toSell_203 : decode cX12_toSell 203 = .ok (.goto 54, 3) := by decide +kernel
theorem dX12_toSell_206 : decode cX12_toSell 206 = .ok (.aload_n 0, 1) := by decide +kernel
theorem dX12_toSell_207 : decode cX12_toSell 207 = .ok (.iload_n 1, 1) := by decide +kernel
theorem dX12_toSell_208 : decode cX12_toSell 208 = .ok (.iload_n 2, 1) := by decide +kernel
theorem dX12_toSell_209 : decode cX12_toSell 209 = .ok (.iload 8, 2) := by decide +kernel
theorem dX12_toSell_211 : decode cX12_toSell 211 = .ok (.invokevirtual 479, 3) := by decide +kernel
theorem dX12_toSell_214 : decode cX12_toSell 214 = .ok (.istore 10, 2) := by decide +kernel
theorem dX12_toSell_216 : decode cX12_toSell 216 = .ok (.iload 5, 2) := by decide +kernel
theorem dX12_toSell_218 : decode cX12_toSell 218 = .ok (.ifCond .lt 27, 3) := by decide +kernel
theorem dX12_toSell_221 : decode cX12_toSell 221 = .ok (.iload 10, 2) := by decide +kernel
theorem dX12_toSell_223 : decode cX12_toSell 223 = .ok (.iload 6, 2) := by decide +kernel
theorem dX12_toSell_225 : decode cX12_toSell 225 = .ok (.if_icmp .gt 32, 3) := by decide +kernel
theorem dX12_toSell_228 : decode cX12_toSell 228 = .ok (.iload 10, 2) := by decide +kernel
theorem dX12_toSell_230 : decode cX12_toSell 230 = .ok (.iload 6, 2) := by decide +kernel
theorem dX12_toSell_232 : decode cX12_toSell 232 = .ok (.if_icmp .ne 13, 3) := by decide +kernel
theorem dX12_toSell_235 : decode cX12_toSell 235 = .ok (.iload 9, 2) := by decide +kernel
theorem dX12_toSell_237 : decode cX12_toSell 237 = .ok (.iload 7, 2) := by decide +kernel
theorem dX12_toSell_239 : decode cX12_toSell 239 = .ok (.if_icmp .lt 6, 3) := by decide +kernel
theorem dX12_toSell_242 : decode cX12_toSell 242 = .ok (.goto 15, 3) := by decide +kernel
theorem dX12_toSell_245 : decode cX12_toSell 245 = .ok (.iload 8, 2) := by decide +kernel
theorem dX12_toSell_247 : decode cX12_toSell 247 = .ok (.istore 5, 2) := by decide +kernel
theorem dX12_toSell_249 : decode cX12_toSell 249 = .ok (.iload 10, 2) := by decide +kernel
theorem dX12_toSell_251 : decode cX12_toSell 251 = .ok (.istore 6, 2) := by decide +kernel
theorem dX12_toSell_253 : decode cX12_toSell 253 = .ok (.iload 9, 2) := by decide +kernel
theorem dX12_toSell_255 : decode cX12_toSell 255 = .ok (.istore 7, 2) := by decide +kernel
theorem dX12_toSell_257 : decode cX12_toSell 257 = .ok (.iinc 8 1, 3) := by decide +kernel
theorem dX12_toSell_260 : decode cX12_toSell 260 = .ok (.goto (-130), 3) := by decide +kernel
theorem dX12_toSell_263 : decode cX12_toSell 263 = .ok (.iload 5, 2) := by decide +kernel
theorem dX12_toSell_265 : decode cX12_toSell 265 = .ok (.ireturn, 1) := by decide +kernel
noncomputable def E_X12_toSell : mE := (mX12_toSell, [(41, [(0, (.aload_n 0, 1, false, false, 0, 0, 0, 0, 0, 0, [])), (1, (.iconst 0, 2, false, false, 0, 0, 0, 0, 0, 0, [])), (2, (.putfield 3, 5, false, false, 15, 0, 0, 0, 0, 0, [])), (5, (.aload_n 0, 6, false, false, 0, 0, 0, 0, 0, 0, [])), (6, (.iload_n 1, 7, false, false, 1, 0, 0, 0, 0, 0, [])), (7, (.invokestatic 71, 10, false, false, 29, 1, 1, 0, 0, 0, [])), (10, (.iconst 1, 11, false, false, 0, 0, 0, 0, 1, 0, [])), (11, (.invokevirtual 75, 14, false, false, 30, 2, 1, 15, 0, 0, [])), (14, (.ifCond .ne 45, 17, false, false, 59, 0, 0, 0, 0, 0, [])), (17, (.aload_n 0, 18, false, false, 0, 0, 0, 0, 0, 0, [])), (18, (.iload_n 2, 19, false, false, 2, 0, 0, 0, 0, 0, [])), (19, (.iconst 1, 20, false, false, 0, 0, 0, 0, 1, 0, [])), (20, (.bipush 8, 22, false, false, 0, 0, 0, 0, 8, 0, [])), (22, (.invokestatic 63, 25, false, false, 28, 3, 1, 0, 0, 0, [])), (25, (.ifCond .eq 22, 28, false, false, 47, 0, 0, 0, 0, 0, [])), (28, (.iload_n 1, 29, false, false, 1, 0, 0, 0, 0, 0, [])), (29, (.iload_n 2, 30, false, false, 2, 0, 0, 0, 0, 0, [])), (30, (.iadd, 31, false, false, 0, 0, 0, 0, 0, 0, [])), (31, (.bipush 48, 33, false, false, 0, 0, 0, 0, 48, 0, [])), (33, (.if_icmp .gt 14, 36, false, false, 47, 0, 0, 0, 0, 0, [])), (36, (.iload_n 3, 37, false, false, 3, 0, 0, 0, 0, 0, [])), (37, (.iconst 0, 38, false, false, 0, 0, 0, 0, 0, 0, [])), (38, (.ldc_w 366, 41, false, false, 0, 0, 0, 0, 100000, 0, [])), (41, (.invokestatic 63, 44, false, false, 28, 3, 1, 0, 0, 0, []))]),
  (85, [(44, (.ifCond .ne 7, 47, false, false, 51, 0, 0, 0, 0, 0, [])), (47, (.iconst 1, 48, false, false, 0, 0, 0, 0, 1, 0, [])), (48, (.goto 4, 51, false, false, 52, 0, 0, 0, 0, 0, [])), (51, (.iconst 0, 52, false, false, 0, 0, 0, 0, 0, 0, [])), (52, (.iconst 2, 53, false, false, 0, 0, 0, 0, 2, 0, [])), (53, (.invokevirtual 75, 56, false, false, 30, 2, 1, 15, 0, 0, [])), (56, (.ifCond .eq 5, 59, false, false, 61, 0, 0, 0, 0, 0, [])), (59, (.iconst 0, 60, false, false, 0, 0, 0, 0, 0, 0, [])), (60, (.ireturn, 61, false, false, 0, 0, 0, 0, 0, 0, [])), (61, (.iconst 0, 62, false, false, 0, 0, 0, 0, 0, 0, [])), (62, (.istore 4, 64, false, false, 4, 0, 0, 0, 0, 0, [])), (64, (.iconst 0, 65, false, false, 0, 0, 0, 0, 0, 0, [])), (65, (.istore 5, 67, true, false, 5, 0, 0, 0, 0, 0, [])), (67, (.iload 5, 69, false, false, 5, 0, 0, 0, 0, 0, [])), (69, (.iload_n 2, 70, false, false, 2, 0, 0, 0, 0, 0, [])), (70, (.if_icmp .ge 48, 73, false, false, 118, 0, 0, 0, 0, 0, [])), (73, (.iload 4, 75, false, false, 4, 0, 0, 0, 0, 0, [])), (75, (.aload_n 0, 76, false, false, 0, 0, 0, 0, 0, 0, [])), (76, (.iload_n 1, 77, false, false, 1, 0, 0, 0, 0, 0, [])), (77, (.iload 5, 79, false, false, 5, 0, 0, 0, 0, 0, [])), (79, (.iadd, 80, false, false, 0, 0, 0, 0, 0, 0, [])), (80, (.bipush 11, 82, false, false, 0, 0, 0, 0, 11, 0, [])), (82, (.invokevirtual 79, 85, false, false, 31, 2, 1, 15, 0, 0, [])), (85, (.ifCond .ne 23, 88, false, false, 108, 0, 0, 0, 0, 0, []))]),
  (128, [(88, (.aload_n 0, 89, false, false, 0, 0, 0, 0, 0, 0, [])), (89, (.bipush 13, 91, false, false, 0, 0, 0, 0, 13, 0, [])), (91, (.iload_n 1, 92, false, false, 1, 0, 0, 0, 0, 0, [])), (92, (.iload 5, 94, false, false, 5, 0, 0, 0, 0, 0, [])), (94, (.iadd, 95, false, false, 0, 0, 0, 0, 0, 0, [])), (95, (.invokevirtual 336, 98, false, false, 292, 2, 1, 15, 0, 0, [])), (98, (.ifCond .lt 10, 101, false, false, 108, 0, 0, 0, 0, 0, [])), (101, (.iconst 1, 102, false, false, 0, 0, 0, 0, 1, 0, [])), (102, (.iload 5, 104, false, false, 5, 0, 0, 0, 0, 0, [])), (104, (.ishl, 105, false, false, 0, 0, 0, 0, 0, 0, [])), (105, (.goto 4, 108, false, false, 109, 0, 0, 0, 0, 0, [])), (108, (.iconst 0, 109, false, false, 0, 0, 0, 0, 0, 0, [])), (109, (.ior, 110, false, false, 0, 0, 0, 0, 0, 0, [])), (110, (.istore 4, 112, false, false, 4, 0, 0, 0, 0, 0, [])), (112, (.iinc 5 1, 115, false, false, 5, 0, 0, 0, 1, 0, [])), (115, (.goto (-48), 118, false, true, 67, 0, 0, 0, 0, 0, [])), (118, (.iconst (-1), 119, false, false, 0, 0, 0, 0, -1, 0, [])), (119, (.istore 5, 121, false, false, 5, 0, 0, 0, 0, 0, [])), (121, (.iconst 0, 122, false, false, 0, 0, 0, 0, 0, 0, [])), (122, (.istore 6, 124, false, false, 6, 0, 0, 0, 0, 0, [])), (124, (.iconst 0, 125, false, false, 0, 0, 0, 0, 0, 0, [])), (125, (.istore 7, 127, false, false, 7, 0, 0, 0, 0, 0, [])), (127, (.iconst 0, 128, false, false, 0, 0, 0, 0, 0, 0, [])), (128, (.istore 8, 130, true, false, 8, 0, 0, 0, 0, 0, []))]),
  (170, [(130, (.iload 8, 132, false, false, 8, 0, 0, 0, 0, 0, [])), (132, (.iconst 1, 133, false, false, 0, 0, 0, 0, 1, 0, [])), (133, (.iload_n 2, 134, false, false, 2, 0, 0, 0, 0, 0, [])), (134, (.ishl, 135, false, false, 0, 0, 0, 0, 0, 0, [])), (135, (.if_icmp .ge 128, 138, false, false, 263, 0, 0, 0, 0, 0, [])), (138, (.iload 8, 140, false, false, 8, 0, 0, 0, 0, 0, [])), (140, (.iload 4, 142, false, false, 4, 0, 0, 0, 0, 0, [])), (142, (.iconst (-1), 143, false, false, 0, 0, 0, 0, -1, 0, [])), (143, (.ixor, 144, false, false, 0, 0, 0, 0, 0, 0, [])), (144, (.iand, 145, false, false, 0, 0, 0, 0, 0, 0, [])), (145, (.ifCond .eq 6, 148, false, false, 151, 0, 0, 0, 0, 0, [])), (148, (.goto 109, 151, false, false, 257, 0, 0, 0, 0, 0, [])), (151, (.iconst 0, 152, false, false, 0, 0, 0, 0, 0, 0, [])), (152, (.istore 9, 154, false, false, 9, 0, 0, 0, 0, 0, [])), (154, (.iconst 0, 155, false, false, 0, 0, 0, 0, 0, 0, [])), (155, (.istore 10, 157, true, false, 10, 0, 0, 0, 0, 0, [])), (157, (.iload 10, 159, false, false, 10, 0, 0, 0, 0, 0, [])), (159, (.iload_n 2, 160, false, false, 2, 0, 0, 0, 0, 0, [])), (160, (.if_icmp .ge 37, 163, false, false, 197, 0, 0, 0, 0, 0, [])), (163, (.iload 9, 165, false, false, 9, 0, 0, 0, 0, 0, [])), (165, (.iload 8, 167, false, false, 8, 0, 0, 0, 0, 0, [])), (167, (.iload 10, 169, false, false, 10, 0, 0, 0, 0, 0, [])), (169, (.ishr, 170, false, false, 0, 0, 0, 0, 0, 0, [])), (170, (.iconst 1, 171, false, false, 0, 0, 0, 0, 1, 0, []))]),
  (214, [(171, (.iand, 172, false, false, 0, 0, 0, 0, 0, 0, [])), (172, (.iconst 1, 173, false, false, 0, 0, 0, 0, 1, 0, [])), (173, (.if_icmp .ne 14, 176, false, false, 187, 0, 0, 0, 0, 0, [])), (176, (.aload_n 0, 177, false, false, 0, 0, 0, 0, 0, 0, [])), (177, (.iload_n 1, 178, false, false, 1, 0, 0, 0, 0, 0, [])), (178, (.iload 10, 180, false, false, 10, 0, 0, 0, 0, 0, [])), (180, (.iadd, 181, false, false, 0, 0, 0, 0, 0, 0, [])), (181, (.invokevirtual 102, 184, false, false, 262, 1, 1, 15, 0, 0, [])), (184, (.goto 4, 187, false, false, 188, 0, 0, 0, 0, 0, [])), (187, (.iconst 0, 188, false, false, 0, 0, 0, 0, 0, 0, [])), (188, (.iadd, 189, false, false, 0, 0, 0, 0, 0, 0, [])), (189, (.istore 9, 191, false, false, 9, 0, 0, 0, 0, 0, [])), (191, (.iinc 10 1, 194, false, false, 10, 0, 0, 0, 1, 0, [])), (194, (.goto (-37), 197, false, true, 157, 0, 0, 0, 0, 0, [])), (197, (.iload 9, 199, false, false, 9, 0, 0, 0, 0, 0, [])), (199, (.iload_n 3, 200, false, false, 3, 0, 0, 0, 0, 0, [])), (200, (.if_icmp .ge 6, 203, false, false, 206, 0, 0, 0, 0, 0, [])), (203, (.goto 54, 206, false, false, 257, 0, 0, 0, 0, 0, [])), (206, (.aload_n 0, 207, false, false, 0, 0, 0, 0, 0, 0, [])), (207, (.iload_n 1, 208, false, false, 1, 0, 0, 0, 0, 0, [])), (208, (.iload_n 2, 209, false, false, 2, 0, 0, 0, 0, 0, [])), (209, (.iload 8, 211, false, false, 8, 0, 0, 0, 0, 0, [])), (211, (.invokevirtual 479, 214, false, false, 353, 3, 1, 15, 0, 0, [])), (214, (.istore 10, 216, false, false, 10, 0, 0, 0, 0, 0, []))]),
  (265, [(216, (.iload 5, 218, false, false, 5, 0, 0, 0, 0, 0, [])), (218, (.ifCond .lt 27, 221, false, false, 245, 0, 0, 0, 0, 0, [])), (221, (.iload 10, 223, false, false, 10, 0, 0, 0, 0, 0, [])), (223, (.iload 6, 225, false, false, 6, 0, 0, 0, 0, 0, [])), (225, (.if_icmp .gt 32, 228, false, false, 257, 0, 0, 0, 0, 0, [])), (228, (.iload 10, 230, false, false, 10, 0, 0, 0, 0, 0, [])), (230, (.iload 6, 232, false, false, 6, 0, 0, 0, 0, 0, [])), (232, (.if_icmp .ne 13, 235, false, false, 245, 0, 0, 0, 0, 0, [])), (235, (.iload 9, 237, false, false, 9, 0, 0, 0, 0, 0, [])), (237, (.iload 7, 239, false, false, 7, 0, 0, 0, 0, 0, [])), (239, (.if_icmp .lt 6, 242, false, false, 245, 0, 0, 0, 0, 0, [])), (242, (.goto 15, 245, false, false, 257, 0, 0, 0, 0, 0, [])), (245, (.iload 8, 247, false, false, 8, 0, 0, 0, 0, 0, [])), (247, (.istore 5, 249, false, false, 5, 0, 0, 0, 0, 0, [])), (249, (.iload 10, 251, false, false, 10, 0, 0, 0, 0, 0, [])), (251, (.istore 6, 253, false, false, 6, 0, 0, 0, 0, 0, [])), (253, (.iload 9, 255, false, false, 9, 0, 0, 0, 0, 0, [])), (255, (.istore 7, 257, false, false, 7, 0, 0, 0, 0, 0, [])), (257, (.iinc 8 1, 260, false, false, 8, 0, 0, 0, 1, 0, [])), (260, (.goto (-130), 263, false, true, 130, 0, 0, 0, 0, 0, [])), (263, (.iload 5, 265, false, false, 5, 0, 0, 0, 0, 0, [])), (265, (.ireturn, 266, false, false, 0, 0, 0, 0, 0, 0, []))])], 0, [])
set_option maxRecDepth 100000 in
theorem v_X12_toSell : VE MYT dflT E_X12_toSell := ⟨⟨⟨⟨⟨dX12_toSell_0, rfl⟩, rfl⟩, ⟨⟨dX12_toSell_1, rfl⟩, rfl⟩, ⟨⟨dX12_toSell_2, rfl⟩, Or.inl ⟨rfl, fX12_3⟩⟩, ⟨⟨dX12_toSell_5, rfl⟩, rfl⟩, ⟨⟨dX12_toSell_6, rfl⟩, rfl⟩, ⟨⟨dX12_toSell_7, rfl⟩, Or.inl ⟨rfl, _, my_29, sX12_71⟩⟩, ⟨⟨dX12_toSell_10, rfl⟩, rfl⟩, ⟨⟨dX12_toSell_11, rfl⟩, Or.inr ⟨by decide, ⟨_, my_30, sX12_75⟩, fun q => absurd q (by decide)⟩⟩, ⟨⟨dX12_toSell_14, rfl⟩, rfl⟩, ⟨⟨dX12_toSell_17, rfl⟩, rfl⟩, ⟨⟨dX12_toSell_18, rfl⟩, rfl⟩, ⟨⟨dX12_toSell_19, rfl⟩, rfl⟩, ⟨⟨dX12_toSell_20, rfl⟩, rfl⟩, ⟨⟨dX12_toSell_22, rfl⟩, Or.inl ⟨rfl, _, my_28, sX12_63⟩⟩, ⟨⟨dX12_toSell_25, rfl⟩, rfl⟩, ⟨⟨dX12_toSell_28, rfl⟩, rfl⟩, ⟨⟨dX12_toSell_29, rfl⟩, rfl⟩, ⟨⟨dX12_toSell_30, rfl⟩, trivial⟩, ⟨⟨dX12_toSell_31, rfl⟩, rfl⟩, ⟨⟨dX12_toSell_33, rfl⟩, rfl⟩, ⟨⟨dX12_toSell_36, rfl⟩, rfl⟩, ⟨⟨dX12_toSell_37, rfl⟩, rfl⟩, ⟨⟨dX12_toSell_38, rfl⟩, Or.inl ⟨rfl, kX12_366⟩⟩, ⟨⟨dX12_toSell_41, rfl⟩, Or.inl ⟨rfl, _, my_28, sX12_63⟩⟩, trivial⟩,
  ⟨⟨⟨dX12_toSell_44, rfl⟩, rfl⟩, ⟨⟨dX12_toSell_47, rfl⟩, rfl⟩, ⟨⟨dX12_toSell_48, rfl⟩, rfl⟩, ⟨⟨dX12_toSell_51, rfl⟩, rfl⟩, ⟨⟨dX12_toSell_52, rfl⟩, rfl⟩, ⟨⟨dX12_toSell_53, rfl⟩, Or.inr ⟨by decide, ⟨_, my_30, sX12_75⟩, fun q => absurd q (by decide)⟩⟩, ⟨⟨dX12_toSell_56, rfl⟩, rfl⟩, ⟨⟨dX12_toSell_59, rfl⟩, rfl⟩, ⟨⟨dX12_toSell_60, rfl⟩, Or.inl ⟨rfl, rfl⟩⟩, ⟨⟨dX12_toSell_61, rfl⟩, rfl⟩, ⟨⟨dX12_toSell_62, rfl⟩, rfl⟩, ⟨⟨dX12_toSell_64, rfl⟩, rfl⟩, ⟨⟨dX12_toSell_65, rfl⟩, rfl⟩, ⟨⟨dX12_toSell_67, rfl⟩, rfl⟩, ⟨⟨dX12_toSell_69, rfl⟩, rfl⟩, ⟨⟨dX12_toSell_70, rfl⟩, rfl⟩, ⟨⟨dX12_toSell_73, rfl⟩, rfl⟩, ⟨⟨dX12_toSell_75, rfl⟩, rfl⟩, ⟨⟨dX12_toSell_76, rfl⟩, rfl⟩, ⟨⟨dX12_toSell_77, rfl⟩, rfl⟩, ⟨⟨dX12_toSell_79, rfl⟩, trivial⟩, ⟨⟨dX12_toSell_80, rfl⟩, rfl⟩, ⟨⟨dX12_toSell_82, rfl⟩, Or.inr ⟨by decide, ⟨_, my_31, sX12_79⟩, fun q => absurd q (by decide)⟩⟩, ⟨⟨dX12_toSell_85, rfl⟩, rfl⟩, trivial⟩,
  ⟨⟨⟨dX12_toSell_88, rfl⟩, rfl⟩, ⟨⟨dX12_toSell_89, rfl⟩, rfl⟩, ⟨⟨dX12_toSell_91, rfl⟩, rfl⟩, ⟨⟨dX12_toSell_92, rfl⟩, rfl⟩, ⟨⟨dX12_toSell_94, rfl⟩, trivial⟩, ⟨⟨dX12_toSell_95, rfl⟩, Or.inr ⟨by decide, ⟨_, my_292, sX12_336⟩, fun q => absurd q (by decide)⟩⟩, ⟨⟨dX12_toSell_98, rfl⟩, rfl⟩, ⟨⟨dX12_toSell_101, rfl⟩, rfl⟩, ⟨⟨dX12_toSell_102, rfl⟩, rfl⟩, ⟨⟨dX12_toSell_104, rfl⟩, trivial⟩, ⟨⟨dX12_toSell_105, rfl⟩, rfl⟩, ⟨⟨dX12_toSell_108, rfl⟩, rfl⟩, ⟨⟨dX12_toSell_109, rfl⟩, trivial⟩, ⟨⟨dX12_toSell_110, rfl⟩, rfl⟩, ⟨⟨dX12_toSell_112, rfl⟩, ⟨rfl, rfl⟩⟩, ⟨⟨dX12_toSell_115, rfl⟩, rfl⟩, ⟨⟨dX12_toSell_118, rfl⟩, rfl⟩, ⟨⟨dX12_toSell_119, rfl⟩, rfl⟩, ⟨⟨dX12_toSell_121, rfl⟩, rfl⟩, ⟨⟨dX12_toSell_122, rfl⟩, rfl⟩, ⟨⟨dX12_toSell_124, rfl⟩, rfl⟩, ⟨⟨dX12_toSell_125, rfl⟩, rfl⟩, ⟨⟨dX12_toSell_127, rfl⟩, rfl⟩, ⟨⟨dX12_toSell_128, rfl⟩, rfl⟩, trivial⟩,
  ⟨⟨⟨dX12_toSell_130, rfl⟩, rfl⟩, ⟨⟨dX12_toSell_132, rfl⟩, rfl⟩, ⟨⟨dX12_toSell_133, rfl⟩, rfl⟩, ⟨⟨dX12_toSell_134, rfl⟩, trivial⟩, ⟨⟨dX12_toSell_135, rfl⟩, rfl⟩, ⟨⟨dX12_toSell_138, rfl⟩, rfl⟩, ⟨⟨dX12_toSell_140, rfl⟩, rfl⟩, ⟨⟨dX12_toSell_142, rfl⟩, rfl⟩, ⟨⟨dX12_toSell_143, rfl⟩, trivial⟩, ⟨⟨dX12_toSell_144, rfl⟩, trivial⟩, ⟨⟨dX12_toSell_145, rfl⟩, rfl⟩, ⟨⟨dX12_toSell_148, rfl⟩, rfl⟩, ⟨⟨dX12_toSell_151, rfl⟩, rfl⟩, ⟨⟨dX12_toSell_152, rfl⟩, rfl⟩, ⟨⟨dX12_toSell_154, rfl⟩, rfl⟩, ⟨⟨dX12_toSell_155, rfl⟩, rfl⟩, ⟨⟨dX12_toSell_157, rfl⟩, rfl⟩, ⟨⟨dX12_toSell_159, rfl⟩, rfl⟩, ⟨⟨dX12_toSell_160, rfl⟩, rfl⟩, ⟨⟨dX12_toSell_163, rfl⟩, rfl⟩, ⟨⟨dX12_toSell_165, rfl⟩, rfl⟩, ⟨⟨dX12_toSell_167, rfl⟩, rfl⟩, ⟨⟨dX12_toSell_169, rfl⟩, trivial⟩, ⟨⟨dX12_toSell_170, rfl⟩, rfl⟩, trivial⟩,
  ⟨⟨⟨dX12_toSell_171, rfl⟩, trivial⟩, ⟨⟨dX12_toSell_172, rfl⟩, rfl⟩, ⟨⟨dX12_toSell_173, rfl⟩, rfl⟩, ⟨⟨dX12_toSell_176, rfl⟩, rfl⟩, ⟨⟨dX12_toSell_177, rfl⟩, rfl⟩, ⟨⟨dX12_toSell_178, rfl⟩, rfl⟩, ⟨⟨dX12_toSell_180, rfl⟩, trivial⟩, ⟨⟨dX12_toSell_181, rfl⟩, Or.inr ⟨by decide, ⟨_, my_262, sX12_102⟩, fun q => absurd q (by decide)⟩⟩, ⟨⟨dX12_toSell_184, rfl⟩, rfl⟩, ⟨⟨dX12_toSell_187, rfl⟩, rfl⟩, ⟨⟨dX12_toSell_188, rfl⟩, trivial⟩, ⟨⟨dX12_toSell_189, rfl⟩, rfl⟩, ⟨⟨dX12_toSell_191, rfl⟩, ⟨rfl, rfl⟩⟩, ⟨⟨dX12_toSell_194, rfl⟩, rfl⟩, ⟨⟨dX12_toSell_197, rfl⟩, rfl⟩, ⟨⟨dX12_toSell_199, rfl⟩, rfl⟩, ⟨⟨dX12_toSell_200, rfl⟩, rfl⟩, ⟨⟨dX12_toSell_203, rfl⟩, rfl⟩, ⟨⟨dX12_toSell_206, rfl⟩, rfl⟩, ⟨⟨dX12_toSell_207, rfl⟩, rfl⟩, ⟨⟨dX12_toSell_208, rfl⟩, rfl⟩, ⟨⟨dX12_toSell_209, rfl⟩, rfl⟩, ⟨⟨dX12_toSell_211, rfl⟩, Or.inr ⟨by decide, ⟨_, my_353, sX12_479⟩, fun q => absurd q (by decide)⟩⟩, ⟨⟨dX12_toSell_214, rfl⟩, rfl⟩, trivial⟩,
  ⟨⟨⟨dX12_toSell_216, rfl⟩, rfl⟩, ⟨⟨dX12_toSell_218, rfl⟩, rfl⟩, ⟨⟨dX12_toSell_221, rfl⟩, rfl⟩, ⟨⟨dX12_toSell_223, rfl⟩, rfl⟩, ⟨⟨dX12_toSell_225, rfl⟩, rfl⟩, ⟨⟨dX12_toSell_228, rfl⟩, rfl⟩, ⟨⟨dX12_toSell_230, rfl⟩, rfl⟩, ⟨⟨dX12_toSell_232, rfl⟩, rfl⟩, ⟨⟨dX12_toSell_235, rfl⟩, rfl⟩, ⟨⟨dX12_toSell_237, rfl⟩, rfl⟩, ⟨⟨dX12_toSell_239, rfl⟩, rfl⟩, ⟨⟨dX12_toSell_242, rfl⟩, rfl⟩, ⟨⟨dX12_toSell_245, rfl⟩, rfl⟩, ⟨⟨dX12_toSell_247, rfl⟩, rfl⟩, ⟨⟨dX12_toSell_249, rfl⟩, rfl⟩, ⟨⟨dX12_toSell_251, rfl⟩, rfl⟩, ⟨⟨dX12_toSell_253, rfl⟩, rfl⟩, ⟨⟨dX12_toSell_255, rfl⟩, rfl⟩, ⟨⟨dX12_toSell_257, rfl⟩, ⟨rfl, rfl⟩⟩, ⟨⟨dX12_toSell_260, rfl⟩, rfl⟩, ⟨⟨dX12_toSell_263, rfl⟩, rfl⟩, ⟨⟨dX12_toSell_265, rfl⟩, Or.inl ⟨rfl, rfl⟩⟩, trivial⟩, trivial⟩, by decide, Or.inl ⟨rfl, by decide, rfl⟩⟩
set_option maxRecDepth 100000 in
theorem g_X12_toSell_0 (S : sT) (call : cT) (n : Nat) (a0 : Nat) (x1 : Int32) (x2 : Int32) (x3 : Int32) (h : pH) : bd S call dflT E_X12_toSell (n + 1) 0 [some (.ref a0), some (.int x1), some (.int x2), some (.int x3), none, none, none, none, none, none, none] [] h = (pF h (.ref a0) 15 0 (.int 0) (fun h1 => cI (call 29 [.int x1] h1) (fun y3 h2 => rC h2 (.ref a0) 15 (cI (call 30 [.ref a0, .int y3, .int 1] h2) (fun y5 h4 => (if y5 = 0 then cI (call 28 [.int x2, .int 1, .int 8] h4) (fun y7 h6 => (if y7 = 0 then rC h6 (.ref a0) 15 (cI (call 30 [.ref a0, .int 1, .int 2] h6) (fun y9 h8 => (if y9 = 0 then bd S call dflT E_X12_toSell n 67 [some (.ref a0), some (.int x1), some (.int x2), some (.int x3), some (.int 0), some (.int 0), none, none, none, none, none] [] h8 else some (.inl (some (.int 0)), h8)))) else (if 48 < (x1 + x2) then rC h6 (.ref a0) 15 (cI (call 30 [.ref a0, .int 1, .int 2] h6) (fun y11 h10 => (if y11 = 0 then bd S call dflT E_X12_toSell n 67 [some (.ref a0), some (.int x1), some (.int x2), some (.int x3), some (.int 0), some (.int 0), none, none, none, none, none] [] h10 else some (.inl (some (.int 0)), h10)))) else cI (call 28 [.int x3, .int 0, .int 100000] h6) (fun y13 h12 => (if y13 = 0 then rC h12 (.ref a0) 15 (cI (call 30 [.ref a0, .int 1, .int 2] h12) (fun y17 h16 => (if y17 = 0 then bd S call dflT E_X12_toSell n 67 [some (.ref a0), some (.int x1), some (.int x2), some (.int x3), some (.int 0), some (.int 0), none, none, none, none, none] [] h16 else some (.inl (some (.int 0)), h16)))) else rC h12 (.ref a0) 15 (cI (call 30 [.ref a0, .int 0, .int 2] h12) (fun y15 h14 => (if y15 = 0 then bd S call dflT E_X12_toSell n 67 [some (.ref a0), some (.int x1), some (.int x2), some (.int x3), some (.int 0), some (.int 0), none, none, none, none, none] [] h14 else some (.inl (some (.int 0)), h14))))))))) else some (.inl (some (.int 0)), h4))))))) := rfl
set_option maxRecDepth 100000 in
theorem g_X12_toSell_67 (S : sT) (call : cT) (n : Nat) (a0 : Nat) (x1 : Int32) (x2 : Int32) (x3 : Int32) (x4 : Int32) (x5 : Int32) (o6 : Option Value) (o7 : Option Value) (o8 : Option Value) (o9 : Option Value) (o10 : Option Value) (h : pH) : bd S call dflT E_X12_toSell (n + 1) 67 [some (.ref a0), some (.int x1), some (.int x2), some (.int x3), some (.int x4), some (.int x5), o6, o7, o8, o9, o10] [] h = ((if x2 ≤ x5 then bd S call dflT E_X12_toSell n 130 [some (.ref a0), some (.int x1), some (.int x2), some (.int x3), some (.int x4), some (.int (-1)), some (.int 0), some (.int 0), some (.int 0), o9, o10] [] h else rC h (.ref a0) 15 (cI (call 31 [.ref a0, .int (x1 + x5), .int 11] h) (fun y2 h1 => (if y2 = 0 then rC h1 (.ref a0) 15 (cI (call 292 [.ref a0, .int 13, .int (x1 + x5)] h1) (fun y4 h3 => (if y4 < 0 then bd S call dflT E_X12_toSell n 67 [some (.ref a0), some (.int x1), some (.int x2), some (.int x3), some (.int (x4 ||| 0)), some (.int (x5 + 1)), o6, o7, o8, o9, o10] [] h3 else bd S call dflT E_X12_toSell n 67 [some (.ref a0), some (.int x1), some (.int x2), some (.int x3), some (.int (x4 ||| (1 <<< (x5 &&& 31)))), some (.int (x5 + 1)), o6, o7, o8, o9, o10] [] h3))) else bd S call dflT E_X12_toSell n 67 [some (.ref a0), some (.int x1), some (.int x2), some (.int x3), some (.int (x4 ||| 0)), some (.int (x5 + 1)), o6, o7, o8, o9, o10] [] h1))))) := rfl
set_option maxRecDepth 100000 in
theorem g_X12_toSell_130 (S : sT) (call : cT) (n : Nat) (a0 : Nat) (x1 : Int32) (x2 : Int32) (x3 : Int32) (x4 : Int32) (x5 : Int32) (x6 : Int32) (x7 : Int32) (x8 : Int32) (o9 : Option Value) (o10 : Option Value) (h : pH) : bd S call dflT E_X12_toSell (n + 1) 130 [some (.ref a0), some (.int x1), some (.int x2), some (.int x3), some (.int x4), some (.int x5), some (.int x6), some (.int x7), some (.int x8), o9, o10] [] h = ((if (1 <<< (x2 &&& 31)) ≤ x8 then some (.inl (some (.int x5)), h) else (if (x8 &&& (x4 ^^^ (-1))) = 0 then bd S call dflT E_X12_toSell n 157 [some (.ref a0), some (.int x1), some (.int x2), some (.int x3), some (.int x4), some (.int x5), some (.int x6), some (.int x7), some (.int x8), some (.int 0), some (.int 0)] [] h else bd S call dflT E_X12_toSell n 130 [some (.ref a0), some (.int x1), some (.int x2), some (.int x3), some (.int x4), some (.int x5), some (.int x6), some (.int x7), some (.int (x8 + 1)), o9, o10] [] h))) := rfl
set_option maxRecDepth 100000 in
theorem g_X12_toSell_157 (S : sT) (call : cT) (n : Nat) (a0 : Nat) (x1 : Int32) (x2 : Int32) (x3 : Int32) (x4 : Int32) (x5 : Int32) (x6 : Int32) (x7 : Int32) (x8 : Int32) (x9 : Int32) (x10 : Int32) (h : pH) : bd S call dflT E_X12_toSell (n + 1) 157 [some (.ref a0), some (.int x1), some (.int x2), some (.int x3), some (.int x4), some (.int x5), some (.int x6), some (.int x7), some (.int x8), some (.int x9), some (.int x10)] [] h = ((if x2 ≤ x10 then (if x3 ≤ x9 then rC h (.ref a0) 15 (cI (call 353 [.ref a0, .int x1, .int x2, .int x8] h) (fun y2 h1 => (if x5 < 0 then bd S call dflT E_X12_toSell n 130 [some (.ref a0), some (.int x1), some (.int x2), some (.int x3), some (.int x4), some (.int x8), some (.int y2), some (.int x9), some (.int (x8 + 1)), some (.int x9), some (.int y2)] [] h1 else (if x6 < y2 then bd S call dflT E_X12_toSell n 130 [some (.ref a0), some (.int x1), some (.int x2), some (.int x3), some (.int x4), some (.int x5), some (.int x6), some (.int x7), some (.int (x8 + 1)), some (.int x9), some (.int y2)] [] h1 else (if y2 = x6 then (if x9 < x7 then bd S call dflT E_X12_toSell n 130 [some (.ref a0), some (.int x1), some (.int x2), some (.int x3), some (.int x4), some (.int x8), some (.int y2), some (.int x9), some (.int (x8 + 1)), some (.int x9), some (.int y2)] [] h1 else bd S call dflT E_X12_toSell n 130 [some (.ref a0), some (.int x1), some (.int x2), some (.int x3), some (.int x4), some (.int x5), some (.int x6), some (.int x7), some (.int (x8 + 1)), some (.int x9), some (.int y2)] [] h1) else bd S call dflT E_X12_toSell n 130 [some (.ref a0), some (.int x1), some (.int x2), some (.int x3), some (.int x4), some (.int x8), some (.int y2), some (.int x9), some (.int (x8 + 1)), some (.int x9), some (.int y2)] [] h1))))) else bd S call dflT E_X12_toSell n 130 [some (.ref a0), some (.int x1), some (.int x2), some (.int x3), some (.int x4), some (.int x5), some (.int x6), some (.int x7), some (.int (x8 + 1)), some (.int x9), some (.int x10)] [] h) else (if ((x8 >>> (x10 &&& 31)) &&& 1) = 1 then rC h (.ref a0) 15 (cI (call 262 [.ref a0, .int (x1 + x10)] h) (fun y4 h3 => bd S call dflT E_X12_toSell n 157 [some (.ref a0), some (.int x1), some (.int x2), some (.int x3), some (.int x4), some (.int x5), some (.int x6), some (.int x7), some (.int x8), some (.int (x9 + y4)), some (.int (x10 + 1))] [] h3)) else bd S call dflT E_X12_toSell n 157 [some (.ref a0), some (.int x1), some (.int x2), some (.int x3), some (.int x4), some (.int x5), some (.int x6), some (.int x7), some (.int x8), some (.int (x9 + 0)), some (.int (x10 + 1))] [] h))) := rfl
theorem dX12_noRow_0 : decode cX12_noRow 0 = .ok (.iload_n 1, 1) := by decide +kernel
theorem dX12_noRow_1 : decode cX12_noRow 1 = .ok (.iconst 0, 1) := by decide +kernel
theorem dX12_noRow_2 : decode cX12_noRow 2 = .ok (.aload_n 0, 1) := by decide +kernel
theorem dX12_noRow_3 : decode cX12_noRow 3 = .ok (.getfield 27, 3) := by decide +kernel
theorem dX12_noRow_6 : decode cX12_noRow 6 = .ok (.sipush 2265, 3) := by decide +kernel
theorem dX12_noRow_9 : decode cX12_noRow 9 = .ok (.iaload, 1) := by decide +kernel
theorem dX12_noRow_10 : decode cX12_noRow 10 = .ok (.iconst 1, 1) := by decide +kernel
theorem dX12_noRow_11 : decode cX12_noRow 11 = .ok (.isub, 1) := by decide +kernel
theorem dX12_noRow_12 : decode cX12_noRow 12 = .ok (.invokestatic 63, 3) := by decide +kernel
theorem dX12_noRow_15 : decode cX12_noRow 15 = .ok (.ifCond .ne 7, 3) := by decide +kernel
theorem dX12_noRow_18 : decode cX12_noRow 18 = .ok (.iconst 1, 1) := by decide +kernel
theorem dX12_noRow_19 : decode cX12_noRow 19 = .ok (.goto 4, 3) := by decide +kernel
theorem dX12_noRow_22 : decode cX12_noRow 22 = .ok (.iconst 0, 1) := by decide +kernel
theorem dX12_noRow_23 : decode cX12_noRow 23 = .ok (.ireturn, 1) := by decide +kernel
noncomputable def E_X12_noRow : mE := (mX12_noRow, [(23, [(0, (.iload_n 1, 1, false, false, 1, 0, 0, 0, 0, 0, [])), (1, (.iconst 0, 2, false, false, 0, 0, 0, 0, 0, 0, [])), (2, (.aload_n 0, 3, false, false, 0, 0, 0, 0, 0, 0, [])), (3, (.getfield 27, 6, false, false, 15, 1, 1, 0, 0, 0, [])), (6, (.sipush 2265, 9, false, false, 0, 0, 0, 0, 2265, 0, [])), (9, (.iaload, 10, false, false, 0, 0, 0, 0, 0, 0, [])), (10, (.iconst 1, 11, false, false, 0, 0, 0, 0, 1, 0, [])), (11, (.isub, 12, false, false, 0, 0, 0, 0, 0, 0, [])), (12, (.invokestatic 63, 15, false, false, 28, 3, 1, 0, 0, 0, [])), (15, (.ifCond .ne 7, 18, false, false, 22, 0, 0, 0, 0, 0, [])), (18, (.iconst 1, 19, false, false, 0, 0, 0, 0, 1, 0, [])), (19, (.goto 4, 22, false, false, 23, 0, 0, 0, 0, 0, [])), (22, (.iconst 0, 23, false, false, 0, 0, 0, 0, 0, 0, [])), (23, (.ireturn, 24, false, false, 0, 0, 1, 0, 0, 0, []))])], 0, [])
set_option maxRecDepth 100000 in
theorem v_X12_noRow : VE MYT dflT E_X12_noRow := ⟨⟨⟨⟨⟨dX12_noRow_0, rfl⟩, rfl⟩, ⟨⟨dX12_noRow_1, rfl⟩, rfl⟩, ⟨⟨dX12_noRow_2, rfl⟩, rfl⟩, ⟨⟨dX12_noRow_3, rfl⟩, Or.inl ⟨by decide, _, _, fX12_27⟩⟩, ⟨⟨dX12_noRow_6, rfl⟩, rfl⟩, ⟨⟨dX12_noRow_9, rfl⟩, trivial⟩, ⟨⟨dX12_noRow_10, rfl⟩, rfl⟩, ⟨⟨dX12_noRow_11, rfl⟩, trivial⟩, ⟨⟨dX12_noRow_12, rfl⟩, Or.inl ⟨rfl, _, my_28, sX12_63⟩⟩, ⟨⟨dX12_noRow_15, rfl⟩, rfl⟩, ⟨⟨dX12_noRow_18, rfl⟩, rfl⟩, ⟨⟨dX12_noRow_19, rfl⟩, rfl⟩, ⟨⟨dX12_noRow_22, rfl⟩, rfl⟩, ⟨⟨dX12_noRow_23, rfl⟩, Or.inr (Or.inl ⟨rfl, rfl⟩)⟩, trivial⟩, trivial⟩, by decide, Or.inl ⟨rfl, by decide, rfl⟩⟩
set_option maxRecDepth 100000 in
theorem g_X12_noRow_0 (S : sT) (call : cT) (n : Nat) (a0 : Nat) (x1 : Int32) (h : pH) : bd S call dflT E_X12_noRow (n + 1) 0 [some (.ref a0), some (.int x1)] [] h = (gV h (.ref a0) 15 1 (fun w1 => aI h w1 0 2265 (fun y2 => cI (call 28 [.int x1, .int 0, .int (y2 - 1)] h) (fun y4 h3 => (if y4 = 0 then zR 1 (some (.inl (some (.int 1)), h3)) else zR 0 (some (.inl (some (.int 0)), h3))))))) := rfl
theorem dX12_row_0 : decode cX12_row 0 = .ok (.aload_n 0, 1) := by decide +kernel
theorem dX12_row_1 : decode cX12_row 1 = .ok (.iconst 0, 1) := by decide +kernel
theorem dX12_row_2 : decode cX12_row 2 = .ok (.putfield 3, 3) := by decide +kernel
theorem dX12_row_5 : decode cX12_row 5 = .ok (.aload_n 0, 1) := by decide +kernel
theorem dX12_row_6 : decode cX12_row 6 = .ok (.iload_n 2, 1) := by decide +kernel
theorem dX12_row_7 : decode cX12_row 7 = .ok (.invokestatic 71, 3) := by decide +kernel
theorem dX12_row_10 : decode cX12_row 10 = .ok (.iconst 1, 1) := by decide +kernel
theorem dX12_row_11 : decode cX12_row 11 = .ok (.invokevirtual 75, 3) := by decide +kernel
theorem dX12_row_14 : decode cX12_row 14 = .ok (.ifCond .ne 16, 3) := by decide +kernel
theorem dX12_row_17 : decode cX12_row 17 = .ok (.aload_n 0, 1) := by decide +kernel
theorem dX12_row_18 : decode cX12_row 18 = .ok (.aload_n 0, 1) := by decide +kernel
theorem dX12_row_19 : decode cX12_row 19 = .ok (.iload_n 1, 1) := by decide +kernel
theorem dX12_row_20 : decode cX12_row 20 = .ok (.invokevirtual 482, 3) := by decide +kernel
theorem dX12_row_23 : decode cX12_row 23 = .ok (.iconst 2, 1) := by decide +kernel
theorem dX12_row_24 : decode cX12_row 24 = .ok (.invokevirtual 75, 3) := by decide +kernel
theorem dX12_row_27 : decode cX12_row 27 = .ok (.ifCond .eq 7, 3) := by decide +kernel
theorem dX12_row_30 : decode cX12_row 30 = .ok (.iconst 0, 1) := by decide +kernel
theorem dX12_row_31 : decode cX12_row 31 = .ok (.goto 18, 3) := by decide +kernel
theorem dX12_row_34 : decode cX12_row 34 = .ok (.aload_n 0, 1) := by decide +kernel
theorem dX12_row_35 : decode cX12_row 35 = .ok (.getfield 27, 3) := by decide +kernel
theorem dX12_row_38 : decode cX12_row 38 = .ok (.sipush 2266, 3) := by decide +kernel
theorem dX12_row_41 : decode cX12_row 41 = .ok (.bipush 48, 2) := by decide +kernel
theorem dX12_row_43 : decode cX12_row 43 = .ok (.iload_n 1, 1) := by decide +kernel
theorem dX12_row_44 : decode cX12_row 44 = .ok (.imul, 1) := by decide +kernel
theorem dX12_row_45 : decode cX12_row 45 = .ok (.iadd, 1) := by decide +kernel
theorem dX12_row_46 : decode cX12_row 46 = .ok (.iload_n 2, 1) := by decide +kernel
theorem dX12_row_47 : decode cX12_row 47 = .ok (.iadd, 1) := by decide +kernel
theorem dX12_row_48 : decode cX12_row 48 = .ok (.iaload, 1) := by decide +kernel
theorem dX12_row_49 : decode cX12_row 49 = .ok (.ireturn, 1) := by decide +kernel
noncomputable def E_X12_row : mE := (mX12_row, [(44, [(0, (.aload_n 0, 1, false, false, 0, 0, 0, 0, 0, 0, [])), (1, (.iconst 0, 2, false, false, 0, 0, 0, 0, 0, 0, [])), (2, (.putfield 3, 5, false, false, 15, 0, 0, 0, 0, 0, [])), (5, (.aload_n 0, 6, false, false, 0, 0, 0, 0, 0, 0, [])), (6, (.iload_n 2, 7, false, false, 2, 0, 0, 0, 0, 0, [])), (7, (.invokestatic 71, 10, false, false, 29, 1, 1, 0, 0, 0, [])), (10, (.iconst 1, 11, false, false, 0, 0, 0, 0, 1, 0, [])), (11, (.invokevirtual 75, 14, false, false, 30, 2, 1, 15, 0, 0, [])), (14, (.ifCond .ne 16, 17, false, false, 30, 0, 0, 0, 0, 0, [])), (17, (.aload_n 0, 18, false, false, 0, 0, 0, 0, 0, 0, [])), (18, (.aload_n 0, 19, false, false, 0, 0, 0, 0, 0, 0, [])), (19, (.iload_n 1, 20, false, false, 1, 0, 0, 0, 0, 0, [])), (20, (.invokevirtual 482, 23, false, false, 357, 1, 1, 15, 0, 0, [])), (23, (.iconst 2, 24, false, false, 0, 0, 0, 0, 2, 0, [])), (24, (.invokevirtual 75, 27, false, false, 30, 2, 1, 15, 0, 0, [])), (27, (.ifCond .eq 7, 30, false, false, 34, 0, 0, 0, 0, 0, [])), (30, (.iconst 0, 31, false, false, 0, 0, 0, 0, 0, 0, [])), (31, (.goto 18, 34, false, false, 49, 0, 0, 0, 0, 0, [])), (34, (.aload_n 0, 35, false, false, 0, 0, 0, 0, 0, 0, [])), (35, (.getfield 27, 38, false, false, 15, 1, 1, 0, 0, 0, [])), (38, (.sipush 2266, 41, false, false, 0, 0, 0, 0, 2266, 0, [])), (41, (.bipush 48, 43, false, false, 0, 0, 0, 0, 48, 0, [])), (43, (.iload_n 1, 44, false, false, 1, 0, 0, 0, 0, 0, [])), (44, (.imul, 45, false, false, 0, 0, 0, 0, 0, 0, []))]),
  (49, [(45, (.iadd, 46, false, false, 0, 0, 0, 0, 0, 0, [])), (46, (.iload_n 2, 47, false, false, 2, 0, 0, 0, 0, 0, [])), (47, (.iadd, 48, false, false, 0, 0, 0, 0, 0, 0, [])), (48, (.iaload, 49, false, false, 0, 0, 0, 0, 0, 0, [])), (49, (.ireturn, 50, false, false, 0, 0, 0, 0, 0, 0, []))])], 0, [])
set_option maxRecDepth 100000 in
theorem v_X12_row : VE MYT dflT E_X12_row := ⟨⟨⟨⟨⟨dX12_row_0, rfl⟩, rfl⟩, ⟨⟨dX12_row_1, rfl⟩, rfl⟩, ⟨⟨dX12_row_2, rfl⟩, Or.inl ⟨rfl, fX12_3⟩⟩, ⟨⟨dX12_row_5, rfl⟩, rfl⟩, ⟨⟨dX12_row_6, rfl⟩, rfl⟩, ⟨⟨dX12_row_7, rfl⟩, Or.inl ⟨rfl, _, my_29, sX12_71⟩⟩, ⟨⟨dX12_row_10, rfl⟩, rfl⟩, ⟨⟨dX12_row_11, rfl⟩, Or.inr ⟨by decide, ⟨_, my_30, sX12_75⟩, fun q => absurd q (by decide)⟩⟩, ⟨⟨dX12_row_14, rfl⟩, rfl⟩, ⟨⟨dX12_row_17, rfl⟩, rfl⟩, ⟨⟨dX12_row_18, rfl⟩, rfl⟩, ⟨⟨dX12_row_19, rfl⟩, rfl⟩, ⟨⟨dX12_row_20, rfl⟩, Or.inr ⟨by decide, ⟨_, my_357, sX12_482⟩, fun q => absurd q (by decide)⟩⟩, ⟨⟨dX12_row_23, rfl⟩, rfl⟩, ⟨⟨dX12_row_24, rfl⟩, Or.inr ⟨by decide, ⟨_, my_30, sX12_75⟩, fun q => absurd q (by decide)⟩⟩, ⟨⟨dX12_row_27, rfl⟩, rfl⟩, ⟨⟨dX12_row_30, rfl⟩, rfl⟩, ⟨⟨dX12_row_31, rfl⟩, rfl⟩, ⟨⟨dX12_row_34, rfl⟩, rfl⟩, ⟨⟨dX12_row_35, rfl⟩, Or.inl ⟨by decide, _, _, fX12_27⟩⟩, ⟨⟨dX12_row_38, rfl⟩, rfl⟩, ⟨⟨dX12_row_41, rfl⟩, rfl⟩, ⟨⟨dX12_row_43, rfl⟩, rfl⟩, ⟨⟨dX12_row_44, rfl⟩, trivial⟩, trivial⟩,
  ⟨⟨⟨dX12_row_45, rfl⟩, trivial⟩, ⟨⟨dX12_row_46, rfl⟩, rfl⟩, ⟨⟨dX12_row_47, rfl⟩, trivial⟩, ⟨⟨dX12_row_48, rfl⟩, trivial⟩, ⟨⟨dX12_row_49, rfl⟩, Or.inl ⟨rfl, rfl⟩⟩, trivial⟩, trivial⟩, by decide, Or.inl ⟨rfl, by decide, rfl⟩⟩
set_option maxRecDepth 100000 in
theorem g_X12_row_0 (S : sT) (call : cT) (n : Nat) (a0 : Nat) (x1 : Int32) (x2 : Int32) (h : pH) : bd S call dflT E_X12_row (n + 1) 0 [some (.ref a0), some (.int x1), some (.int x2)] [] h = (pF h (.ref a0) 15 0 (.int 0) (fun h1 => cI (call 29 [.int x2] h1) (fun y3 h2 => rC h2 (.ref a0) 15 (cI (call 30 [.ref a0, .int y3, .int 1] h2) (fun y5 h4 => (if y5 = 0 then rC h4 (.ref a0) 15 (cI (call 357 [.ref a0, .int x1] h4) (fun y7 h6 => rC h6 (.ref a0) 15 (cI (call 30 [.ref a0, .int y7, .int 2] h6) (fun y9 h8 => (if y9 = 0 then gV h8 (.ref a0) 15 1 (fun w10 => aI h8 w10 0 ((2266 + (48 * x1)) + x2) (fun y11 => some (.inl (some (.int y11)), h8))) else some (.inl (some (.int 0)), h8)))))) else some (.inl (some (.int 0)), h4))))))) := rfl
theorem dX12_tear_0 : decode cX12_tear 0 = .ok (.aload_n 0, 1) := by decide +kernel
theorem dX12_tear_1 : decode cX12_tear 1 = .ok (.iconst 0, 1) := by decide +kernel
theorem dX12_tear_2 : decode cX12_tear 2 = .ok (.putfield 3, 3) := by decide +kernel
theorem dX12_tear_5 : decode cX12_tear 5 = .ok (.aload_n 0, 1) := by decide +kernel
theorem dX12_tear_6 : decode cX12_tear 6 = .ok (.iload_n 2, 1) := by decide +kernel
theorem dX12_tear_7 : decode cX12_tear 7 = .ok (.invokestatic 71, 3) := by decide +kernel
theorem dX12_tear_10 : decode cX12_tear 10 = .ok (.iconst 1, 1) := by decide +kernel
theorem dX12_tear_11 : decode cX12_tear 11 = .ok (.invokevirtual 75, 3) := by decide +kernel
theorem dX12_tear_14 : decode cX12_tear 14 = .ok (.ifCond .ne 16, 3) := by decide +kernel
theorem dX12_tear_17 : decode cX12_tear 17 = .ok (.aload_n 0, 1) := by decide +kernel
theorem dX12_tear_18 : decode cX12_tear 18 = .ok (.aload_n 0, 1) := by decide +kernel
theorem dX12_tear_19 : decode cX12_tear 19 = .ok (.iload_n 1, 1) := by decide +kernel
theorem dX12_tear_20 : decode cX12_tear 20 = .ok (.invokevirtual 482, 3) := by decide +kernel
theorem dX12_tear_23 : decode cX12_tear 23 = .ok (.iconst 2, 1) := by decide +kernel
theorem dX12_tear_24 : decode cX12_tear 24 = .ok (.invokevirtual 75, 3) := by decide +kernel
theorem dX12_tear_27 : decode cX12_tear 27 = .ok (.ifCond .eq 5, 3) := by decide +kernel
theorem dX12_tear_30 : decode cX12_tear 30 = .ok (.iconst 0, 1) := by decide +kernel
theorem dX12_tear_31 : decode cX12_tear 31 = .ok (.ireturn, 1) := by decide +kernel
theorem dX12_tear_32 : decode cX12_tear 32 = .ok (.aload_n 0, 1) := by decide +kernel
theorem dX12_tear_33 : decode cX12_tear 33 = .ok (.getfield 27, 3) := by decide +kernel
theorem dX12_tear_36 : decode cX12_tear 36 = .ok (.sipush 2266, 3) := by decide +kernel
theorem dX12_tear_39 : decode cX12_tear 39 = .ok (.bipush 48, 2) := by decide +kernel
theorem dX12_tear_41 : decode cX12_tear 41 = .ok (.iload_n 1, 1) := by decide +kernel
theorem dX12_tear_42 : decode cX12_tear 42 = .ok (.imul, 1) := by decide +kernel
theorem dX12_tear_43 : decode cX12_tear 43 = .ok (.iadd, 1) := by decide +kernel
theorem dX12_tear_44 : decode cX12_tear 44 = .ok (.iload_n 2, 1) := by decide +kernel
theorem dX12_tear_45 : decode cX12_tear 45 = .ok (.iadd, 1) := by decide +kernel
theorem dX12_tear_46 : decode cX12_tear 46 = .ok (.dup2, 1) := by decide +kernel
theorem dX12_tear_47 : decode cX12_tear 47 = .ok (.iaload, 1) := by decide +kernel
theorem dX12_tear_48 : decode cX12_tear 48 = .ok (.iload_n 3, 1) := by decide +kernel
theorem dX12_tear_49 : decode cX12_tear 49 = .ok (.ixor, 1) := by decide +kernel
theorem dX12_tear_50 : decode cX12_tear 50 = .ok (.iastore, 1) := by decide +kernel
theorem dX12_tear_51 : decode cX12_tear 51 = .ok (.aload_n 0, 1) := by decide +kernel
theorem dX12_tear_52 : decode cX12_tear 52 = .ok (.getfield 27, 3) := by decide +kernel
theorem dX12_tear_55 : decode cX12_tear 55 = .ok (.sipush 2266, 3) := by decide +kernel
theorem dX12_tear_58 : decode cX12_tear 58 = .ok (.bipush 48, 2) := by decide +kernel
theorem dX12_tear_60 : decode cX12_tear 60 = .ok (.iload_n 1, 1) := by decide +kernel
theorem dX12_tear_61 : decode cX12_tear 61 = .ok (.imul, 1) := by decide +kernel
theorem dX12_tear_62 : decode cX12_tear 62 = .ok (.iadd, 1) := by decide +kernel
theorem dX12_tear_63 : decode cX12_tear 63 = .ok (.iload_n 2, 1) := by decide +kernel
theorem dX12_tear_64 : decode cX12_tear 64 = .ok (.iadd, 1) := by decide +kernel
theorem dX12_tear_65 : decode cX12_tear 65 = .ok (.iaload, 1) := by decide +kernel
theorem dX12_tear_66 : decode cX12_tear 66 = .ok (.ireturn, 1) := by decide +kernel
noncomputable def E_X12_tear : mE := (mX12_tear, [(42, [(0, (.aload_n 0, 1, false, false, 0, 0, 0, 0, 0, 0, [])), (1, (.iconst 0, 2, false, false, 0, 0, 0, 0, 0, 0, [])), (2, (.putfield 3, 5, false, false, 15, 0, 0, 0, 0, 0, [])), (5, (.aload_n 0, 6, false, false, 0, 0, 0, 0, 0, 0, [])), (6, (.iload_n 2, 7, false, false, 2, 0, 0, 0, 0, 0, [])), (7, (.invokestatic 71, 10, false, false, 29, 1, 1, 0, 0, 0, [])), (10, (.iconst 1, 11, false, false, 0, 0, 0, 0, 1, 0, [])), (11, (.invokevirtual 75, 14, false, false, 30, 2, 1, 15, 0, 0, [])), (14, (.ifCond .ne 16, 17, false, false, 30, 0, 0, 0, 0, 0, [])), (17, (.aload_n 0, 18, false, false, 0, 0, 0, 0, 0, 0, [])), (18, (.aload_n 0, 19, false, false, 0, 0, 0, 0, 0, 0, [])), (19, (.iload_n 1, 20, false, false, 1, 0, 0, 0, 0, 0, [])), (20, (.invokevirtual 482, 23, false, false, 357, 1, 1, 15, 0, 0, [])), (23, (.iconst 2, 24, false, false, 0, 0, 0, 0, 2, 0, [])), (24, (.invokevirtual 75, 27, false, false, 30, 2, 1, 15, 0, 0, [])), (27, (.ifCond .eq 5, 30, false, false, 32, 0, 0, 0, 0, 0, [])), (30, (.iconst 0, 31, false, false, 0, 0, 0, 0, 0, 0, [])), (31, (.ireturn, 32, false, false, 0, 0, 0, 0, 0, 0, [])), (32, (.aload_n 0, 33, false, false, 0, 0, 0, 0, 0, 0, [])), (33, (.getfield 27, 36, false, false, 15, 1, 1, 0, 0, 0, [])), (36, (.sipush 2266, 39, false, false, 0, 0, 0, 0, 2266, 0, [])), (39, (.bipush 48, 41, false, false, 0, 0, 0, 0, 48, 0, [])), (41, (.iload_n 1, 42, false, false, 1, 0, 0, 0, 0, 0, [])), (42, (.imul, 43, false, false, 0, 0, 0, 0, 0, 0, []))]),
  (66, [(43, (.iadd, 44, false, false, 0, 0, 0, 0, 0, 0, [])), (44, (.iload_n 2, 45, false, false, 2, 0, 0, 0, 0, 0, [])), (45, (.iadd, 46, false, false, 0, 0, 0, 0, 0, 0, [])), (46, (.dup2, 47, false, false, 0, 0, 0, 0, 0, 0, [])), (47, (.iaload, 48, false, false, 0, 0, 0, 0, 0, 0, [])), (48, (.iload_n 3, 49, false, false, 3, 0, 0, 0, 0, 0, [])), (49, (.ixor, 50, false, false, 0, 0, 0, 0, 0, 0, [])), (50, (.iastore, 51, false, false, 0, 0, 0, 0, 0, 0, [])), (51, (.aload_n 0, 52, false, false, 0, 0, 0, 0, 0, 0, [])), (52, (.getfield 27, 55, false, false, 15, 1, 1, 0, 0, 0, [])), (55, (.sipush 2266, 58, false, false, 0, 0, 0, 0, 2266, 0, [])), (58, (.bipush 48, 60, false, false, 0, 0, 0, 0, 48, 0, [])), (60, (.iload_n 1, 61, false, false, 1, 0, 0, 0, 0, 0, [])), (61, (.imul, 62, false, false, 0, 0, 0, 0, 0, 0, [])), (62, (.iadd, 63, false, false, 0, 0, 0, 0, 0, 0, [])), (63, (.iload_n 2, 64, false, false, 2, 0, 0, 0, 0, 0, [])), (64, (.iadd, 65, false, false, 0, 0, 0, 0, 0, 0, [])), (65, (.iaload, 66, false, false, 0, 0, 0, 0, 0, 0, [])), (66, (.ireturn, 67, false, false, 0, 0, 0, 0, 0, 0, []))])], 0, [])
set_option maxRecDepth 100000 in
theorem v_X12_tear : VE MYT dflT E_X12_tear := ⟨⟨⟨⟨⟨dX12_tear_0, rfl⟩, rfl⟩, ⟨⟨dX12_tear_1, rfl⟩, rfl⟩, ⟨⟨dX12_tear_2, rfl⟩, Or.inl ⟨rfl, fX12_3⟩⟩, ⟨⟨dX12_tear_5, rfl⟩, rfl⟩, ⟨⟨dX12_tear_6, rfl⟩, rfl⟩, ⟨⟨dX12_tear_7, rfl⟩, Or.inl ⟨rfl, _, my_29, sX12_71⟩⟩, ⟨⟨dX12_tear_10, rfl⟩, rfl⟩, ⟨⟨dX12_tear_11, rfl⟩, Or.inr ⟨by decide, ⟨_, my_30, sX12_75⟩, fun q => absurd q (by decide)⟩⟩, ⟨⟨dX12_tear_14, rfl⟩, rfl⟩, ⟨⟨dX12_tear_17, rfl⟩, rfl⟩, ⟨⟨dX12_tear_18, rfl⟩, rfl⟩, ⟨⟨dX12_tear_19, rfl⟩, rfl⟩, ⟨⟨dX12_tear_20, rfl⟩, Or.inr ⟨by decide, ⟨_, my_357, sX12_482⟩, fun q => absurd q (by decide)⟩⟩, ⟨⟨dX12_tear_23, rfl⟩, rfl⟩, ⟨⟨dX12_tear_24, rfl⟩, Or.inr ⟨by decide, ⟨_, my_30, sX12_75⟩, fun q => absurd q (by decide)⟩⟩, ⟨⟨dX12_tear_27, rfl⟩, rfl⟩, ⟨⟨dX12_tear_30, rfl⟩, rfl⟩, ⟨⟨dX12_tear_31, rfl⟩, Or.inl ⟨rfl, rfl⟩⟩, ⟨⟨dX12_tear_32, rfl⟩, rfl⟩, ⟨⟨dX12_tear_33, rfl⟩, Or.inl ⟨by decide, _, _, fX12_27⟩⟩, ⟨⟨dX12_tear_36, rfl⟩, rfl⟩, ⟨⟨dX12_tear_39, rfl⟩, rfl⟩, ⟨⟨dX12_tear_41, rfl⟩, rfl⟩, ⟨⟨dX12_tear_42, rfl⟩, trivial⟩, trivial⟩,
  ⟨⟨⟨dX12_tear_43, rfl⟩, trivial⟩, ⟨⟨dX12_tear_44, rfl⟩, rfl⟩, ⟨⟨dX12_tear_45, rfl⟩, trivial⟩, ⟨⟨dX12_tear_46, rfl⟩, trivial⟩, ⟨⟨dX12_tear_47, rfl⟩, trivial⟩, ⟨⟨dX12_tear_48, rfl⟩, rfl⟩, ⟨⟨dX12_tear_49, rfl⟩, trivial⟩, ⟨⟨dX12_tear_50, rfl⟩, trivial⟩, ⟨⟨dX12_tear_51, rfl⟩, rfl⟩, ⟨⟨dX12_tear_52, rfl⟩, Or.inl ⟨by decide, _, _, fX12_27⟩⟩, ⟨⟨dX12_tear_55, rfl⟩, rfl⟩, ⟨⟨dX12_tear_58, rfl⟩, rfl⟩, ⟨⟨dX12_tear_60, rfl⟩, rfl⟩, ⟨⟨dX12_tear_61, rfl⟩, trivial⟩, ⟨⟨dX12_tear_62, rfl⟩, trivial⟩, ⟨⟨dX12_tear_63, rfl⟩, rfl⟩, ⟨⟨dX12_tear_64, rfl⟩, trivial⟩, ⟨⟨dX12_tear_65, rfl⟩, trivial⟩, ⟨⟨dX12_tear_66, rfl⟩, Or.inl ⟨rfl, rfl⟩⟩, trivial⟩, trivial⟩, by decide, Or.inl ⟨rfl, by decide, rfl⟩⟩
set_option maxRecDepth 100000 in
theorem g_X12_tear_0 (S : sT) (call : cT) (n : Nat) (a0 : Nat) (x1 : Int32) (x2 : Int32) (x3 : Int32) (h : pH) : bd S call dflT E_X12_tear (n + 1) 0 [some (.ref a0), some (.int x1), some (.int x2), some (.int x3)] [] h = (pF h (.ref a0) 15 0 (.int 0) (fun h1 => cI (call 29 [.int x2] h1) (fun y3 h2 => rC h2 (.ref a0) 15 (cI (call 30 [.ref a0, .int y3, .int 1] h2) (fun y5 h4 => (if y5 = 0 then rC h4 (.ref a0) 15 (cI (call 357 [.ref a0, .int x1] h4) (fun y7 h6 => rC h6 (.ref a0) 15 (cI (call 30 [.ref a0, .int y7, .int 2] h6) (fun y9 h8 => (if y9 = 0 then gV h8 (.ref a0) 15 1 (fun w10 => nl w10 (aI h8 w10 0 ((2266 + (48 * x1)) + x2) (fun y11 => sI h8 w10 0 ((2266 + (48 * x1)) + x2) (y11 ^^^ x3) (fun h12 => gV h12 (.ref a0) 15 1 (fun w13 => aI h12 w13 0 ((2266 + (48 * x1)) + x2) (fun y14 => some (.inl (some (.int y14)), h12))))))) else some (.inl (some (.int 0)), h8)))))) else some (.inl (some (.int 0)), h4))))))) := rfl
theorem dX12_check_0 : decode cX12_check 0 = .ok (.aload_n 0, 1) := by decide +kernel
theorem dX12_check_1 : decode cX12_check 1 = .ok (.iconst 0, 1) := by decide +kernel
theorem dX12_check_2 : decode cX12_check 2 = .ok (.putfield 3, 3) := by decide +kernel
theorem dX12_check_5 : decode cX12_check 5 = .ok (.iconst 0, 1) := by decide +kernel
theorem dX12_check_6 : decode cX12_check 6 = .ok (.istore_n 1, 1) := by decide +kernel
theorem dX12_check_7 : decode cX12_check 7 = .ok (.iload_n 1, 1) := by decide +kernel
theorem dX12_check_8 : decode cX12_check 8 = .ok (.bipush 48, 2) := by decide +kernel
theorem dX12_check_10 : decode cX12_check 10 = .ok (.aload_n 0, 1) := by decide +kernel
theorem dX12_check_11 : decode cX12_check 11 = .ok (.getfield 27, 3) := by decide +kernel
theorem dX12_check_14 : decode cX12_check 14 = .ok (.sipush 2265, 3) := by decide +kernel
theorem dX12_check_17 : decode cX12_check 17 = .ok (.iaload, 1) := by decide +kernel
theorem dX12_check_18 : decode cX12_check 18 = .ok (.imul, 1) := by decide +kernel
theorem dX12_check_19 : decode cX12_check 19 = .ok (.if_icmp .ge 34, 3) := by decide +kernel
theorem dX12_check_22 : decode cX12_check 22 = .ok (.aload_n 0, 1) := by decide +kernel
theorem dX12_check_23 : decode cX12_check 23 = .ok (.getfield 27, 3) := by decide +kernel
theorem dX12_check_26 : decode cX12_check 26 = .ok (.sipush 2266, 3) := by decide +kernel
theorem dX12_check_29 : decode cX12_check 29 = .ok (.iload_n 1, 1) := by decide +kernel
theorem dX12_check_30 : decode cX12_check 30 = .ok (.iadd, 1) := by decide +kernel
theorem dX12_check_31 : decode cX12_check 31 = .ok (.iaload, 1) := by decide +kernel
theorem dX12_check_32 : decode cX12_check 32 = .ok (.aload_n 0, 1) := by decide +kernel
theorem dX12_check_33 : decode cX12_check 33 = .ok (.getfield 27, 3) := by decide +kernel
theorem dX12_check_36 : decode cX12_check 36 = .ok (.sipush 2458, 3) := by decide +kernel
theorem dX12_check_39 : decode cX12_check 39 = .ok (.iload_n 1, 1) := by decide +kernel
theorem dX12_check_40 : decode cX12_check 40 = .ok (.iadd, 1) := by decide +kernel
theorem dX12_check_41 : decode cX12_check 41 = .ok (.iaload, 1) := by decide +kernel
theorem dX12_check_42 : decode cX12_check 42 = .ok (.if_icmp .eq 5, 3) := by decide +kernel
theorem dX12_check_45 : decode cX12_check 45 = .ok (.iload_n 1, 1) := by decide +kernel
theorem dX12_check_46 : decode cX12_check 46 = .ok (.ireturn, 1) := by decide +kernel
theorem dX12_check_47 : decode cX12_check 47 = .ok (.iinc 1 1, 3) := by decide +kernel
theorem dX12_check_50 : decode cX12_check 50 = .ok (.goto (-43), 3) := by decide +kernel
theorem dX12_check_53 : decode cX12_check 53 = .ok (.iconst (-1), 1) := by decide +kernel
theorem dX12_check_54 : decode cX12_check 54 = .ok (.ireturn, 1) := by decide +kernel
noncomputable def E_X12_check : mE := (mX12_check, [(40, [(0, (.aload_n 0, 1, false, false, 0, 0, 0, 0, 0, 0, [])), (1, (.iconst 0, 2, false, false, 0, 0, 0, 0, 0, 0, [])), (2, (.putfield 3, 5, false, false, 15, 0, 0, 0, 0, 0, [])), (5, (.iconst 0, 6, false, false, 0, 0, 0, 0, 0, 0, [])), (6, (.istore_n 1, 7, true, false, 1, 0, 0, 0, 0, 0, [])), (7, (.iload_n 1, 8, false, false, 1, 0, 0, 0, 0, 0, [])), (8, (.bipush 48, 10, false, false, 0, 0, 0, 0, 48, 0, [])), (10, (.aload_n 0, 11, false, false, 0, 0, 0, 0, 0, 0, [])), (11, (.getfield 27, 14, false, false, 15, 1, 1, 0, 0, 0, [])), (14, (.sipush 2265, 17, false, false, 0, 0, 0, 0, 2265, 0, [])), (17, (.iaload, 18, false, false, 0, 0, 0, 0, 0, 0, [])), (18, (.imul, 19, false, false, 0, 0, 0, 0, 0, 0, [])), (19, (.if_icmp .ge 34, 22, false, false, 53, 0, 0, 0, 0, 0, [])), (22, (.aload_n 0, 23, false, false, 0, 0, 0, 0, 0, 0, [])), (23, (.getfield 27, 26, false, false, 15, 1, 1, 0, 0, 0, [])), (26, (.sipush 2266, 29, false, false, 0, 0, 0, 0, 2266, 0, [])), (29, (.iload_n 1, 30, false, false, 1, 0, 0, 0, 0, 0, [])), (30, (.iadd, 31, false, false, 0, 0, 0, 0, 0, 0, [])), (31, (.iaload, 32, false, false, 0, 0, 0, 0, 0, 0, [])), (32, (.aload_n 0, 33, false, false, 0, 0, 0, 0, 0, 0, [])), (33, (.getfield 27, 36, false, false, 15, 1, 1, 0, 0, 0, [])), (36, (.sipush 2458, 39, false, false, 0, 0, 0, 0, 2458, 0, [])), (39, (.iload_n 1, 40, false, false, 1, 0, 0, 0, 0, 0, [])), (40, (.iadd, 41, false, false, 0, 0, 0, 0, 0, 0, []))]),
  (54, [(41, (.iaload, 42, false, false, 0, 0, 0, 0, 0, 0, [])), (42, (.if_icmp .eq 5, 45, false, false, 47, 0, 0, 0, 0, 0, [])), (45, (.iload_n 1, 46, false, false, 1, 0, 0, 0, 0, 0, [])), (46, (.ireturn, 47, false, false, 0, 0, 0, 0, 0, 0, [])), (47, (.iinc 1 1, 50, false, false, 1, 0, 0, 0, 1, 0, [])), (50, (.goto (-43), 53, false, true, 7, 0, 0, 0, 0, 0, [])), (53, (.iconst (-1), 54, false, false, 0, 0, 0, 0, -1, 0, [])), (54, (.ireturn, 55, false, false, 0, 0, 0, 0, 0, 0, []))])], 0, [])
set_option maxRecDepth 100000 in
theorem v_X12_check : VE MYT dflT E_X12_check := ⟨⟨⟨⟨⟨dX12_check_0, rfl⟩, rfl⟩, ⟨⟨dX12_check_1, rfl⟩, rfl⟩, ⟨⟨dX12_check_2, rfl⟩, Or.inl ⟨rfl, fX12_3⟩⟩, ⟨⟨dX12_check_5, rfl⟩, rfl⟩, ⟨⟨dX12_check_6, rfl⟩, rfl⟩, ⟨⟨dX12_check_7, rfl⟩, rfl⟩, ⟨⟨dX12_check_8, rfl⟩, rfl⟩, ⟨⟨dX12_check_10, rfl⟩, rfl⟩, ⟨⟨dX12_check_11, rfl⟩, Or.inl ⟨by decide, _, _, fX12_27⟩⟩, ⟨⟨dX12_check_14, rfl⟩, rfl⟩, ⟨⟨dX12_check_17, rfl⟩, trivial⟩, ⟨⟨dX12_check_18, rfl⟩, trivial⟩, ⟨⟨dX12_check_19, rfl⟩, rfl⟩, ⟨⟨dX12_check_22, rfl⟩, rfl⟩, ⟨⟨dX12_check_23, rfl⟩, Or.inl ⟨by decide, _, _, fX12_27⟩⟩, ⟨⟨dX12_check_26, rfl⟩, rfl⟩, ⟨⟨dX12_check_29, rfl⟩, rfl⟩, ⟨⟨dX12_check_30, rfl⟩, trivial⟩, ⟨⟨dX12_check_31, rfl⟩, trivial⟩, ⟨⟨dX12_check_32, rfl⟩, rfl⟩, ⟨⟨dX12_check_33, rfl⟩, Or.inl ⟨by decide, _, _, fX12_27⟩⟩, ⟨⟨dX12_check_36, rfl⟩, rfl⟩, ⟨⟨dX12_check_39, rfl⟩, rfl⟩, ⟨⟨dX12_check_40, rfl⟩, trivial⟩, trivial⟩,
  ⟨⟨⟨dX12_check_41, rfl⟩, trivial⟩, ⟨⟨dX12_check_42, rfl⟩, rfl⟩, ⟨⟨dX12_check_45, rfl⟩, rfl⟩, ⟨⟨dX12_check_46, rfl⟩, Or.inl ⟨rfl, rfl⟩⟩, ⟨⟨dX12_check_47, rfl⟩, ⟨rfl, rfl⟩⟩, ⟨⟨dX12_check_50, rfl⟩, rfl⟩, ⟨⟨dX12_check_53, rfl⟩, rfl⟩, ⟨⟨dX12_check_54, rfl⟩, Or.inl ⟨rfl, rfl⟩⟩, trivial⟩, trivial⟩, by decide, Or.inl ⟨rfl, by decide, rfl⟩⟩
set_option maxRecDepth 100000 in
theorem g_X12_check_0 (S : sT) (call : cT) (n : Nat) (a0 : Nat) (h : pH) : bd S call dflT E_X12_check (n + 1) 0 [some (.ref a0), none] [] h = (pF h (.ref a0) 15 0 (.int 0) (fun h1 => bd S call dflT E_X12_check n 7 [some (.ref a0), some (.int 0)] [] h1)) := rfl
set_option maxRecDepth 100000 in
theorem g_X12_check_7 (S : sT) (call : cT) (n : Nat) (a0 : Nat) (x1 : Int32) (h : pH) : bd S call dflT E_X12_check (n + 1) 7 [some (.ref a0), some (.int x1)] [] h = (gV h (.ref a0) 15 1 (fun w1 => aI h w1 0 2265 (fun y2 => (if (48 * y2) ≤ x1 then some (.inl (some (.int (-1))), h) else gV h (.ref a0) 15 1 (fun w3 => aI h w3 0 (2266 + x1) (fun y4 => gV h (.ref a0) 15 1 (fun w5 => aI h w5 0 (2458 + x1) (fun y6 => (if y4 = y6 then bd S call dflT E_X12_check n 7 [some (.ref a0), some (.int (x1 + 1))] [] h else some (.inl (some (.int x1)), h)))))))))) := rfl
theorem dX12_image_0 : decode cX12_image 0 = .ok (.aload_n 0, 1) := by decide +kernel
theorem dX12_image_1 : decode cX12_image 1 = .ok (.iconst 0, 1) := by decide +kernel
theorem dX12_image_2 : decode cX12_image 2 = .ok (.putfield 3, 3) := by decide +kernel
theorem dX12_image_5 : decode cX12_image 5 = .ok (.iconst 0, 1) := by decide +kernel
theorem dX12_image_6 : decode cX12_image 6 = .ok (.istore_n 1, 1) := by decide +kernel
theorem dX12_image_7 : decode cX12_image 7 = .ok (.iload_n 1, 1) := by decide +kernel
theorem dX12_image_8 : decode cX12_image 8 = .ok (.ldc 31, 2) := by decide +kernel
theorem dX12_image_10 : decode cX12_image 10 = .ok (.if_icmp .ge 21, 3) := by decide +kernel
theorem dX12_image_13 : decode cX12_image 13 = .ok (.aload_n 0, 1) := by decide +kernel
theorem dX12_image_14 : decode cX12_image 14 = .ok (.getfield 32, 3) := by decide +kernel
theorem dX12_image_17 : decode cX12_image 17 = .ok (.iload_n 1, 1) := by decide +kernel
theorem dX12_image_18 : decode cX12_image 18 = .ok (.aload_n 0, 1) := by decide +kernel
theorem dX12_image_19 : decode cX12_image 19 = .ok (.getfield 27, 3) := by decide +kernel
theorem dX12_image_22 : decode cX12_image 22 = .ok (.iload_n 1, 1) := by decide +kernel
theorem dX12_image_23 : decode cX12_image 23 = .ok (.iaload, 1) := by decide +kernel
theorem dX12_image_24 : decode cX12_image 24 = .ok (.iastore, 1) := by decide +kernel
theorem dX12_image_25 : decode cX12_image 25 = .ok (.iinc 1 1, 3) := by decide +kernel
theorem dX12_image_28 : decode cX12_image 28 = .ok (.goto (-21), 3) := by decide +kernel
theorem dX12_image_31 : decode cX12_image 31 = .ok (.aload_n 0, 1) := by decide +kernel
theorem dX12_image_32 : decode cX12_image 32 = .ok (.iconst 1, 1) := by decide +kernel
theorem dX12_image_33 : decode cX12_image 33 = .ok (.putfield 67, 3) := by decide +kernel
theorem dX12_image_36 : decode cX12_image 36 = .ok (.return_, 1) := by decide +kernel
noncomputable def E_X12_image : mE := (mX12_image, [(36, [(0, (.aload_n 0, 1, false, false, 0, 0, 0, 0, 0, 0, [])), (1, (.iconst 0, 2, false, false, 0, 0, 0, 0, 0, 0, [])), (2, (.putfield 3, 5, false, false, 15, 0, 0, 0, 0, 0, [])), (5, (.iconst 0, 6, false, false, 0, 0, 0, 0, 0, 0, [])), (6, (.istore_n 1, 7, true, false, 1, 0, 0, 0, 0, 0, [])), (7, (.iload_n 1, 8, false, false, 1, 0, 0, 0, 0, 0, [])), (8, (.ldc 31, 10, false, false, 0, 0, 0, 0, 34979, 0, [])), (10, (.if_icmp .ge 21, 13, false, false, 31, 0, 0, 0, 0, 0, [])), (13, (.aload_n 0, 14, false, false, 0, 0, 0, 0, 0, 0, [])), (14, (.getfield 32, 17, false, false, 15, 2, 1, 0, 0, 0, [])), (17, (.iload_n 1, 18, false, false, 1, 0, 0, 0, 0, 0, [])), (18, (.aload_n 0, 19, false, false, 0, 0, 0, 0, 0, 0, [])), (19, (.getfield 27, 22, false, false, 15, 1, 1, 0, 0, 0, [])), (22, (.iload_n 1, 23, false, false, 1, 0, 0, 0, 0, 0, [])), (23, (.iaload, 24, false, false, 0, 0, 0, 0, 0, 0, [])), (24, (.iastore, 25, false, false, 0, 0, 0, 0, 0, 0, [])), (25, (.iinc 1 1, 28, false, false, 1, 0, 0, 0, 1, 0, [])), (28, (.goto (-21), 31, false, true, 7, 0, 0, 0, 0, 0, [])), (31, (.aload_n 0, 32, false, false, 0, 0, 0, 0, 0, 0, [])), (32, (.iconst 1, 33, false, false, 0, 0, 0, 0, 1, 0, [])), (33, (.putfield 67, 36, false, false, 15, 3, 2, 0, 0, 0, [])), (36, (.return_, 37, false, false, 0, 0, 0, 0, 0, 0, []))])], 0, [])
set_option maxRecDepth 100000 in
theorem v_X12_image : VE MYT dflT E_X12_image := ⟨⟨⟨⟨⟨dX12_image_0, rfl⟩, rfl⟩, ⟨⟨dX12_image_1, rfl⟩, rfl⟩, ⟨⟨dX12_image_2, rfl⟩, Or.inl ⟨rfl, fX12_3⟩⟩, ⟨⟨dX12_image_5, rfl⟩, rfl⟩, ⟨⟨dX12_image_6, rfl⟩, rfl⟩, ⟨⟨dX12_image_7, rfl⟩, rfl⟩, ⟨⟨dX12_image_8, rfl⟩, Or.inl ⟨rfl, kX12_31⟩⟩, ⟨⟨dX12_image_10, rfl⟩, rfl⟩, ⟨⟨dX12_image_13, rfl⟩, rfl⟩, ⟨⟨dX12_image_14, rfl⟩, Or.inl ⟨by decide, _, _, fX12_32⟩⟩, ⟨⟨dX12_image_17, rfl⟩, rfl⟩, ⟨⟨dX12_image_18, rfl⟩, rfl⟩, ⟨⟨dX12_image_19, rfl⟩, Or.inl ⟨by decide, _, _, fX12_27⟩⟩, ⟨⟨dX12_image_22, rfl⟩, rfl⟩, ⟨⟨dX12_image_23, rfl⟩, trivial⟩, ⟨⟨dX12_image_24, rfl⟩, trivial⟩, ⟨⟨dX12_image_25, rfl⟩, ⟨rfl, rfl⟩⟩, ⟨⟨dX12_image_28, rfl⟩, rfl⟩, ⟨⟨dX12_image_31, rfl⟩, rfl⟩, ⟨⟨dX12_image_32, rfl⟩, rfl⟩, ⟨⟨dX12_image_33, rfl⟩, Or.inr (Or.inr (Or.inl ⟨rfl, fX12_67⟩))⟩, ⟨⟨dX12_image_36, rfl⟩, rfl⟩, trivial⟩, trivial⟩, by decide, Or.inl ⟨rfl, by decide, rfl⟩⟩
set_option maxRecDepth 100000 in
theorem g_X12_image_0 (S : sT) (call : cT) (n : Nat) (a0 : Nat) (h : pH) : bd S call dflT E_X12_image (n + 1) 0 [some (.ref a0), none] [] h = (pF h (.ref a0) 15 0 (.int 0) (fun h1 => bd S call dflT E_X12_image n 7 [some (.ref a0), some (.int 0)] [] h1)) := rfl
set_option maxRecDepth 100000 in
theorem g_X12_image_7 (S : sT) (call : cT) (n : Nat) (a0 : Nat) (x1 : Int32) (h : pH) : bd S call dflT E_X12_image (n + 1) 7 [some (.ref a0), some (.int x1)] [] h = ((if 34979 ≤ x1 then zR 1 (pF h (.ref a0) 15 3 (.int 1) (fun h1 => some (.inl none, h1))) else gV h (.ref a0) 15 2 (fun w2 => gV h (.ref a0) 15 1 (fun w3 => aI h w3 0 x1 (fun y4 => sI h w2 0 x1 y4 (fun h5 => bd S call dflT E_X12_image n 7 [some (.ref a0), some (.int (x1 + 1))] [] h5)))))) := rfl
theorem dX12_back_0 : decode cX12_back 0 = .ok (.aload_n 0, 1) := by decide +kernel
theorem dX12_back_1 : decode cX12_back 1 = .ok (.iconst 0, 1) := by decide +kernel
theorem dX12_back_2 : decode cX12_back 2 = .ok (.putfield 3, 3) := by decide +kernel
theorem dX12_back_5 : decode cX12_back 5 = .ok (.aload_n 0, 1) := by decide +kernel
theorem dX12_back_6 : decode cX12_back 6 = .ok (.getfield 67, 3) := by decide +kernel
theorem dX12_back_9 : decode cX12_back 9 = .ok (.ifCond .ne 5, 3) := by decide +kernel
theorem dX12_back_12 : decode cX12_back 12 = .ok (.iconst 0, 1) := by decide +kernel
theorem dX12_back_13 : decode cX12_back 13 = .ok (.ireturn, 1) := by decide +kernel
theorem dX12_back_14 : decode cX12_back 14 = .ok (.iconst 0, 1) := by decide +kernel
theorem dX12_back_15 : decode cX12_back 15 = .ok (.istore_n 1, 1) := by decide +kernel
theorem dX12_back_16 : decode cX12_back 16 = .ok (.iload_n 1, 1) := by decide +kernel
theorem dX12_back_17 : decode cX12_back 17 = .ok (.ldc 31, 2) := by decide +kernel
theorem dX12_back_19 : decode cX12_back 19 = .ok (.if_icmp .ge 21, 3) := by decide +kernel
theorem dX12_back_22 : decode cX12_back 22 = .ok (.aload_n 0, 1) := by decide +kernel
theorem dX12_back_23 : decode cX12_back 23 = .ok (.getfield 27, 3) := by decide +kernel
theorem dX12_back_26 : decode cX12_back 26 = .ok (.iload_n 1, 1) := by decide +kernel
theorem dX12_back_27 : decode cX12_back 27 = .ok (.aload_n 0, 1) := by decide +kernel
theorem dX12_back_28 : decode cX12_back 28 = .ok (.getfield 32, 3) := by decide +kernel
theorem dX12_back_31 : decode cX12_back 31 = .ok (.iload_n 1, 1) := by decide +kernel
theorem dX12_back_32 : decode cX12_back 32 = .ok (.iaload, 1) := by decide +kernel
theorem dX12_back_33 : decode cX12_back 33 = .ok (.iastore, 1) := by decide +kernel
theorem dX12_back_34 : decode cX12_back 34 = .ok (.iinc 1 1, 3) := by decide +kernel
theorem dX12_back_37 : decode cX12_back 37 = .ok (.goto (-21), 3) := by decide +kernel
theorem dX12_back_40 : decode cX12_back 40 = .ok (.iconst 1, 1) := by decide +kernel
theorem dX12_back_41 : decode cX12_back 41 = .ok (.ireturn, 1) := by decide +kernel
noncomputable def E_X12_back : mE := (mX12_back, [(40, [(0, (.aload_n 0, 1, false, false, 0, 0, 0, 0, 0, 0, [])), (1, (.iconst 0, 2, false, false, 0, 0, 0, 0, 0, 0, [])), (2, (.putfield 3, 5, false, false, 15, 0, 0, 0, 0, 0, [])), (5, (.aload_n 0, 6, false, false, 0, 0, 0, 0, 0, 0, [])), (6, (.getfield 67, 9, false, false, 15, 3, 0, 0, 0, 0, [])), (9, (.ifCond .ne 5, 12, false, false, 14, 0, 0, 0, 0, 0, [])), (12, (.iconst 0, 13, false, false, 0, 0, 0, 0, 0, 0, [])), (13, (.ireturn, 14, false, false, 0, 0, 1, 0, 0, 0, [])), (14, (.iconst 0, 15, false, false, 0, 0, 0, 0, 0, 0, [])), (15, (.istore_n 1, 16, true, false, 1, 0, 0, 0, 0, 0, [])), (16, (.iload_n 1, 17, false, false, 1, 0, 0, 0, 0, 0, [])), (17, (.ldc 31, 19, false, false, 0, 0, 0, 0, 34979, 0, [])), (19, (.if_icmp .ge 21, 22, false, false, 40, 0, 0, 0, 0, 0, [])), (22, (.aload_n 0, 23, false, false, 0, 0, 0, 0, 0, 0, [])), (23, (.getfield 27, 26, false, false, 15, 1, 1, 0, 0, 0, [])), (26, (.iload_n 1, 27, false, false, 1, 0, 0, 0, 0, 0, [])), (27, (.aload_n 0, 28, false, false, 0, 0, 0, 0, 0, 0, [])), (28, (.getfield 32, 31, false, false, 15, 2, 1, 0, 0, 0, [])), (31, (.iload_n 1, 32, false, false, 1, 0, 0, 0, 0, 0, [])), (32, (.iaload, 33, false, false, 0, 0, 0, 0, 0, 0, [])), (33, (.iastore, 34, false, false, 0, 0, 0, 0, 0, 0, [])), (34, (.iinc 1 1, 37, false, false, 1, 0, 0, 0, 1, 0, [])), (37, (.goto (-21), 40, false, true, 16, 0, 0, 0, 0, 0, [])), (40, (.iconst 1, 41, false, false, 0, 0, 0, 0, 1, 0, []))]),
  (41, [(41, (.ireturn, 42, false, false, 0, 0, 1, 0, 0, 0, []))])], 0, [])
set_option maxRecDepth 100000 in
theorem v_X12_back : VE MYT dflT E_X12_back := ⟨⟨⟨⟨⟨dX12_back_0, rfl⟩, rfl⟩, ⟨⟨dX12_back_1, rfl⟩, rfl⟩, ⟨⟨dX12_back_2, rfl⟩, Or.inl ⟨rfl, fX12_3⟩⟩, ⟨⟨dX12_back_5, rfl⟩, rfl⟩, ⟨⟨dX12_back_6, rfl⟩, Or.inl ⟨by decide, _, _, fX12_67⟩⟩, ⟨⟨dX12_back_9, rfl⟩, rfl⟩, ⟨⟨dX12_back_12, rfl⟩, rfl⟩, ⟨⟨dX12_back_13, rfl⟩, Or.inr (Or.inl ⟨rfl, rfl⟩)⟩, ⟨⟨dX12_back_14, rfl⟩, rfl⟩, ⟨⟨dX12_back_15, rfl⟩, rfl⟩, ⟨⟨dX12_back_16, rfl⟩, rfl⟩, ⟨⟨dX12_back_17, rfl⟩, Or.inl ⟨rfl, kX12_31⟩⟩, ⟨⟨dX12_back_19, rfl⟩, rfl⟩, ⟨⟨dX12_back_22, rfl⟩, rfl⟩, ⟨⟨dX12_back_23, rfl⟩, Or.inl ⟨by decide, _, _, fX12_27⟩⟩, ⟨⟨dX12_back_26, rfl⟩, rfl⟩, ⟨⟨dX12_back_27, rfl⟩, rfl⟩, ⟨⟨dX12_back_28, rfl⟩, Or.inl ⟨by decide, _, _, fX12_32⟩⟩, ⟨⟨dX12_back_31, rfl⟩, rfl⟩, ⟨⟨dX12_back_32, rfl⟩, trivial⟩, ⟨⟨dX12_back_33, rfl⟩, trivial⟩, ⟨⟨dX12_back_34, rfl⟩, ⟨rfl, rfl⟩⟩, ⟨⟨dX12_back_37, rfl⟩, rfl⟩, ⟨⟨dX12_back_40, rfl⟩, rfl⟩, trivial⟩,
  ⟨⟨⟨dX12_back_41, rfl⟩, Or.inr (Or.inl ⟨rfl, rfl⟩)⟩, trivial⟩, trivial⟩, by decide, Or.inl ⟨rfl, by decide, rfl⟩⟩
set_option maxRecDepth 100000 in
theorem g_X12_back_0 (S : sT) (call : cT) (n : Nat) (a0 : Nat) (h : pH) : bd S call dflT E_X12_back (n + 1) 0 [some (.ref a0), none] [] h = (pF h (.ref a0) 15 0 (.int 0) (fun h1 => gI h1 (.ref a0) 15 3 (fun y2 => (if y2 = 0 then zR 0 (some (.inl (some (.int 0)), h1)) else bd S call dflT E_X12_back n 16 [some (.ref a0), some (.int 0)] [] h1)))) := rfl
set_option maxRecDepth 100000 in
theorem g_X12_back_16 (S : sT) (call : cT) (n : Nat) (a0 : Nat) (x1 : Int32) (h : pH) : bd S call dflT E_X12_back (n + 1) 16 [some (.ref a0), some (.int x1)] [] h = ((if 34979 ≤ x1 then zR 1 (some (.inl (some (.int 1)), h)) else gV h (.ref a0) 15 1 (fun w1 => gV h (.ref a0) 15 2 (fun w2 => aI h w2 0 x1 (fun y3 => sI h w1 0 x1 y3 (fun h4 => bd S call dflT E_X12_back n 16 [some (.ref a0), some (.int (x1 + 1))] [] h4)))))) := rfl
theorem dX12_sumOf_0 : decode cX12_sumOf 0 = .ok (.lconst 0, 1) := by decide +kernel
theorem dX12_sumOf_1 : decode cX12_sumOf 1 = .ok (.lstore_n 2, 1) := by decide +kernel
theorem dX12_sumOf_2 : decode cX12_sumOf 2 = .ok (.iconst 0, 1) := by decide +kernel
theorem dX12_sumOf_3 : decode cX12_sumOf 3 = .ok (.istore 4, 2) := by decide +kernel
theorem dX12_sumOf_5 : decode cX12_sumOf 5 = .ok (.iload 4, 2) := by decide +kernel
theorem dX12_sumOf_7 : decode cX12_sumOf 7 = .ok (.aload_n 0, 1) := by decide +kernel
theorem dX12_sumOf_8 : decode cX12_sumOf 8 = .ok (.getfield 27, 3) := by decide +kernel
theorem dX12_sumOf_11 : decode cX12_sumOf 11 = .ok (.sipush 1683, 3) := by decide +kernel
theorem dX12_sumOf_14 : decode cX12_sumOf 14 = .ok (.iaload, 1) := by decide +kernel
theorem dX12_sumOf_15 : decode cX12_sumOf 15 = .ok (.if_icmp .ge 20, 3) := by decide +kernel
theorem dX12_sumOf_18 : decode cX12_sumOf 18 = .ok (.lload_n 2, 1) := by decide +kernel
theorem dX12_sumOf_19 : decode cX12_sumOf 19 = .ok (.aload_n 0, 1) := by decide +kernel
theorem dX12_sumOf_20 : decode cX12_sumOf 20 = .ok (.iload 4, 2) := by decide +kernel
theorem dX12_sumOf_22 : decode cX12_sumOf 22 = .ok (.iload_n 1, 1) := by decide +kernel
theorem dX12_sumOf_23 : decode cX12_sumOf 23 = .ok (.invokevirtual 293, 3) := by decide +kernel
theorem dX12_sumOf_26 : decode cX12_sumOf 26 = .ok (.i2l, 1) := by decide +kernel
theorem dX12_sumOf_27 : decode cX12_sumOf 27 = .ok (.ladd, 1) := by decide +kernel
theorem dX12_sumOf_28 : decode cX12_sumOf 28 = .ok (.lstore_n 2, 1) := by decide +kernel
theorem dX12_sumOf_29 : decode cX12_sumOf 29 = .ok (.iinc 4 1, 3) := by decide +kernel
theorem dX12_sumOf_32 : decode cX12_sumOf 32 = .ok (.goto (-27), 3) := by decide +kernel
theorem dX12_sumOf_35 : decode cX12_sumOf 35 = .ok (.lload_n 2, 1) := by decide +kernel
theorem dX12_sumOf_36 : decode cX12_sumOf 36 = .ok (.invokestatic 345, 3) := by decide +kernel
theorem dX12_sumOf_39 : decode cX12_sumOf 39 = .ok (.ireturn, 1) := by decide +kernel
noncomputable def E_X12_sumOf : mE := (mX12_sumOf, [(39, [(0, (.lconst 0, 1, false, false, 0, 0, 0, 0, 0, 0, [])), (1, (.lstore_n 2, 2, false, false, 2, 3, 0, 0, 0, 0, [])), (2, (.iconst 0, 3, false, false, 0, 0, 0, 0, 0, 0, [])), (3, (.istore 4, 5, true, false, 4, 0, 0, 0, 0, 0, [])), (5, (.iload 4, 7, false, false, 4, 0, 0, 0, 0, 0, [])), (7, (.aload_n 0, 8, false, false, 0, 0, 0, 0, 0, 0, [])), (8, (.getfield 27, 11, false, false, 15, 1, 1, 0, 0, 0, [])), (11, (.sipush 1683, 14, false, false, 0, 0, 0, 0, 1683, 0, [])), (14, (.iaload, 15, false, false, 0, 0, 0, 0, 0, 0, [])), (15, (.if_icmp .ge 20, 18, false, false, 35, 0, 0, 0, 0, 0, [])), (18, (.lload_n 2, 19, false, false, 2, 0, 0, 0, 0, 0, [])), (19, (.aload_n 0, 20, false, false, 0, 0, 0, 0, 0, 0, [])), (20, (.iload 4, 22, false, false, 4, 0, 0, 0, 0, 0, [])), (22, (.iload_n 1, 23, false, false, 1, 0, 0, 0, 0, 0, [])), (23, (.invokevirtual 293, 26, false, false, 165, 2, 1, 15, 0, 0, [])), (26, (.i2l, 27, false, false, 0, 0, 0, 0, 0, 0, [])), (27, (.ladd, 28, false, false, 0, 0, 0, 0, 0, 0, [])), (28, (.lstore_n 2, 29, false, false, 2, 3, 0, 0, 0, 0, [])), (29, (.iinc 4 1, 32, false, false, 4, 0, 0, 0, 1, 0, [])), (32, (.goto (-27), 35, false, true, 5, 0, 0, 0, 0, 0, [])), (35, (.lload_n 2, 36, false, false, 2, 0, 0, 0, 0, 0, [])), (36, (.invokestatic 345, 39, false, false, 150, 1, 1, 0, 0, 0, [])), (39, (.ireturn, 40, false, false, 0, 0, 0, 0, 0, 0, []))])], 0, [])
set_option maxRecDepth 100000 in
theorem v_X12_sumOf : VE MYT dflT E_X12_sumOf := ⟨⟨⟨⟨⟨dX12_sumOf_0, rfl⟩, rfl⟩, ⟨⟨dX12_sumOf_1, rfl⟩, ⟨rfl, rfl⟩⟩, ⟨⟨dX12_sumOf_2, rfl⟩, rfl⟩, ⟨⟨dX12_sumOf_3, rfl⟩, rfl⟩, ⟨⟨dX12_sumOf_5, rfl⟩, rfl⟩, ⟨⟨dX12_sumOf_7, rfl⟩, rfl⟩, ⟨⟨dX12_sumOf_8, rfl⟩, Or.inl ⟨by decide, _, _, fX12_27⟩⟩, ⟨⟨dX12_sumOf_11, rfl⟩, rfl⟩, ⟨⟨dX12_sumOf_14, rfl⟩, trivial⟩, ⟨⟨dX12_sumOf_15, rfl⟩, rfl⟩, ⟨⟨dX12_sumOf_18, rfl⟩, rfl⟩, ⟨⟨dX12_sumOf_19, rfl⟩, rfl⟩, ⟨⟨dX12_sumOf_20, rfl⟩, rfl⟩, ⟨⟨dX12_sumOf_22, rfl⟩, rfl⟩, ⟨⟨dX12_sumOf_23, rfl⟩, Or.inr ⟨by decide, ⟨_, my_165, sX12_293⟩, fun q => absurd q (by decide)⟩⟩, ⟨⟨dX12_sumOf_26, rfl⟩, trivial⟩, ⟨⟨dX12_sumOf_27, rfl⟩, trivial⟩, ⟨⟨dX12_sumOf_28, rfl⟩, ⟨rfl, rfl⟩⟩, ⟨⟨dX12_sumOf_29, rfl⟩, ⟨rfl, rfl⟩⟩, ⟨⟨dX12_sumOf_32, rfl⟩, rfl⟩, ⟨⟨dX12_sumOf_35, rfl⟩, rfl⟩, ⟨⟨dX12_sumOf_36, rfl⟩, Or.inl ⟨rfl, _, my_150, sX12_345⟩⟩, ⟨⟨dX12_sumOf_39, rfl⟩, Or.inl ⟨rfl, rfl⟩⟩, trivial⟩, trivial⟩, by decide, Or.inl ⟨rfl, by decide, rfl⟩⟩
set_option maxRecDepth 100000 in
theorem g_X12_sumOf_0 (S : sT) (call : cT) (n : Nat) (a0 : Nat) (x1 : Int32) (h : pH) : bd S call dflT E_X12_sumOf (n + 1) 0 [some (.ref a0), some (.int x1), none, none, none] [] h = (bd S call dflT E_X12_sumOf n 5 [some (.ref a0), some (.int x1), some (.long 0), none, some (.int 0)] [] h) := rfl
set_option maxRecDepth 100000 in
theorem g_X12_sumOf_5 (S : sT) (call : cT) (n : Nat) (a0 : Nat) (x1 : Int32) (j2 : Int64) (x4 : Int32) (h : pH) : bd S call dflT E_X12_sumOf (n + 1) 5 [some (.ref a0), some (.int x1), some (.long j2), none, some (.int x4)] [] h = (gV h (.ref a0) 15 1 (fun w1 => aI h w1 0 1683 (fun y2 => (if y2 ≤ x4 then cI (call 150 [.long j2] h) (fun y4 h3 => some (.inl (some (.int y4)), h3)) else rC h (.ref a0) 15 (cI (call 165 [.ref a0, .int x4, .int x1] h) (fun y6 h5 => bd S call dflT E_X12_sumOf n 5 [some (.ref a0), some (.int x1), some (.long (j2 + y6.toInt64)), none, some (.int (x4 + 1))] [] h5)))))) := rfl
theorem dX12_linesInForce_0 : decode cX12_linesInForce 0 = .ok (.aload_n 0, 1) := by decide +kernel
theorem dX12_linesInForce_1 : decode cX12_linesInForce 1 = .ok (.invokevirtual 305, 3) := by decide +kernel
theorem dX12_linesInForce_4 : decode cX12_linesInForce 4 = .ok (.iconst 0, 1) := by decide +kernel
theorem dX12_linesInForce_5 : decode cX12_linesInForce 5 = .ok (.istore_n 1, 1) := by decide +kernel
theorem dX12_linesInForce_6 : decode cX12_linesInForce 6 = .ok (.iconst 0, 1) := by decide +kernel
theorem dX12_linesInForce_7 : decode cX12_linesInForce 7 = .ok (.istore_n 2, 1) := by decide +kernel
theorem dX12_linesInForce_8 : decode cX12_linesInForce 8 = .ok (.iload_n 2, 1) := by decide +kernel
theorem dX12_linesInForce_9 : decode cX12_linesInForce 9 = .ok (.aload_n 0, 1) := by decide +kernel
theorem dX12_linesInForce_10 : decode cX12_linesInForce 10 = .ok (.getfield 296, 3) := by decide +kernel
theorem dX12_linesInForce_13 : decode cX12_linesInForce 13 = .ok (.if_icmp .ge 63, 3) := by decide +kernel
theorem dX12_linesInForce_16 : decode cX12_linesInForce 16 = .ok (.iconst 0, 1) := by decide +kernel
theorem dX12_linesInForce_17 : decode cX12_linesInForce 17 = .ok (.istore_n 3, 1) := by decide +kernel
theorem dX12_linesInForce_18 : decode cX12_linesInForce 18 = .ok (.iload_n 3, 1) := by decide +kernel
theorem dX12_linesInForce_19 : decode cX12_linesInForce 19 = .ok (.aload_n 0, 1) := by decide +kernel
theorem dX12_linesInForce_20 : decode cX12_linesInForce 20 = .ok (.aload_n 0, 1) := by decide +kernel
theorem dX12_linesInForce_21 : decode cX12_linesInForce 21 = .ok (.getfield 52, 3) := by decide +kernel
theorem dX12_linesInForce_24 : decode cX12_linesInForce 24 = .ok (.iload_n 2, 1) := by decide +kernel
theorem dX12_linesInForce_25 : decode cX12_linesInForce 25 = .ok (.iaload, 1) := by decide +kernel
theorem dX12_linesInForce_26 : decode cX12_linesInForce 26 = .ok (.invokevirtual 299, 3) := by decide +kernel
theorem dX12_linesInForce_29 : decode cX12_linesInForce 29 = .ok (.if_icmp .ge 41, 3) := by decide +kernel
theorem dX12_linesInForce_32 : decode cX12_linesInForce 32 = .ok (.iload_n 1, 1) := by decide +kernel
theorem dX12_linesInForce_33 : decode cX12_linesInForce 33 = .ok (.aload_n 0, 1) := by decide +kernel
theorem dX12_linesInForce_34 : decode cX12_linesInForce 34 = .ok (.iload_n 2, 1) := by decide +kernel
theorem dX12_linesInForce_35 : decode cX12_linesInForce 35 = .ok (.iload_n 3, 1) := by decide +kernel
theorem dX12_linesInForce_36 : decode cX12_linesInForce 36 = .ok (.aload_n 0, 1) := by decide +kernel
theorem dX12_linesInForce_37 : decode cX12_linesInForce 37 = .ok (.getfield 27, 3) := by decide +kernel
theorem dX12_linesInForce_40 : decode cX12_linesInForce 40 = .ok (.aload_n 0, 1) := by decide +kernel
theorem dX12_linesInForce_41 : decode cX12_linesInForce 41 = .ok (.getfield 52, 3) := by decide +kernel
theorem dX12_linesInForce_44 : decode cX12_linesInForce 44 = .ok (.iload_n 2, 1) := by decide +kernel
theorem dX12_linesInForce_45 : decode cX12_linesInForce 45 = .ok (.iaload, 1) := by decide +kernel
theorem dX12_linesInForce_46 : decode cX12_linesInForce 46 = .ok (.iload_n 3, 1) := by decide +kernel
theorem dX12_linesInForce_47 : decode cX12_linesInForce 47 = .ok (.invokestatic 275, 3) := by decide +kernel
theorem dX12_linesInForce_50 : decode cX12_linesInForce 50 = .ok (.iaload, 1) := by decide +kernel
theorem dX12_linesInForce_51 : decode cX12_linesInForce 51 = .ok (.invokevirtual 308, 3) := by decide +kernel
theorem dX12_linesInForce_54 : decode cX12_linesInForce 54 = .ok (.ifCond .eq 7, 3) := by decide +kernel
theorem dX12_linesInForce_57 : decode cX12_linesInForce 57 = .ok (.iconst 1, 1) := by decide +kernel
theorem dX12_linesInForce_58 : decode cX12_linesInForce 58 = .ok (.goto 4, 3) := by decide +kernel
theorem dX12_linesInForce_61 : decode cX12_linesInForce 61 = .ok (.iconst 0, 1) := by decide +kernel
theorem dX12_linesInForce_62 : decode cX12_linesInForce 62 = .ok (.iadd, 1) := by decide +kernel
theorem dX12_linesInForce_63 : decode cX12_linesInForce 63 = .ok (.istore_n 1, 1) := by decide +kernel
theorem dX12_linesInForce_64 : decode cX12_linesInForce 64 = .ok (.iinc 3 1, 3) := by decide +kernel
theorem dX12_linesInForce_67 : decode cX12_linesInForce 67 = .ok (.goto (-49), 3) := by decide +kernel
theorem dX12_linesInForce_70 : decode cX12_linesInForce 70 = .ok (.iinc 2 1, 3) := by decide +kernel
theorem dX12_linesInForce_73 : decode cX12_linesInForce 73 = .ok (.goto (-65), 3) := by decide +kernel
theorem dX12_linesInForce_76 : decode cX12_linesInForce 76 = .ok (.iload_n 1, 1) := by decide +kernel
theorem dX12_linesInForce_77 : decode cX12_linesInForce 77 = .ok (.ireturn, 1) := by decide +kernel
noncomputable def E_X12_linesInForce : mE := (mX12_linesInForce, [(35, [(0, (.aload_n 0, 1, false, false, 0, 0, 0, 0, 0, 0, [])), (1, (.invokevirtual 305, 4, false, false, 140, 0, 0, 15, 0, 0, [])), (4, (.iconst 0, 5, false, false, 0, 0, 0, 0, 0, 0, [])), (5, (.istore_n 1, 6, false, false, 1, 0, 0, 0, 0, 0, [])), (6, (.iconst 0, 7, false, false, 0, 0, 0, 0, 0, 0, [])), (7, (.istore_n 2, 8, true, false, 2, 0, 0, 0, 0, 0, [])), (8, (.iload_n 2, 9, false, false, 2, 0, 0, 0, 0, 0, [])), (9, (.aload_n 0, 10, false, false, 0, 0, 0, 0, 0, 0, [])), (10, (.getfield 296, 13, false, false, 15, 16, 0, 0, 0, 0, [])), (13, (.if_icmp .ge 63, 16, false, false, 76, 0, 0, 0, 0, 0, [])), (16, (.iconst 0, 17, false, false, 0, 0, 0, 0, 0, 0, [])), (17, (.istore_n 3, 18, true, false, 3, 0, 0, 0, 0, 0, [])), (18, (.iload_n 3, 19, false, false, 3, 0, 0, 0, 0, 0, [])), (19, (.aload_n 0, 20, false, false, 0, 0, 0, 0, 0, 0, [])), (20, (.aload_n 0, 21, false, false, 0, 0, 0, 0, 0, 0, [])), (21, (.getfield 52, 24, false, false, 15, 15, 1, 0, 0, 0, [])), (24, (.iload_n 2, 25, false, false, 2, 0, 0, 0, 0, 0, [])), (25, (.iaload, 26, false, false, 0, 0, 0, 0, 0, 0, [])), (26, (.invokevirtual 299, 29, false, false, 141, 1, 1, 15, 0, 0, [])), (29, (.if_icmp .ge 41, 32, false, false, 70, 0, 0, 0, 0, 0, [])), (32, (.iload_n 1, 33, false, false, 1, 0, 0, 0, 0, 0, [])), (33, (.aload_n 0, 34, false, false, 0, 0, 0, 0, 0, 0, [])), (34, (.iload_n 2, 35, false, false, 2, 0, 0, 0, 0, 0, [])), (35, (.iload_n 3, 36, false, false, 3, 0, 0, 0, 0, 0, []))]),
  (77, [(36, (.aload_n 0, 37, false, false, 0, 0, 0, 0, 0, 0, [])), (37, (.getfield 27, 40, false, false, 15, 1, 1, 0, 0, 0, [])), (40, (.aload_n 0, 41, false, false, 0, 0, 0, 0, 0, 0, [])), (41, (.getfield 52, 44, false, false, 15, 15, 1, 0, 0, 0, [])), (44, (.iload_n 2, 45, false, false, 2, 0, 0, 0, 0, 0, [])), (45, (.iaload, 46, false, false, 0, 0, 0, 0, 0, 0, [])), (46, (.iload_n 3, 47, false, false, 3, 0, 0, 0, 0, 0, [])), (47, (.invokestatic 275, 50, false, false, 117, 2, 1, 0, 0, 0, [])), (50, (.iaload, 51, false, false, 0, 0, 0, 0, 0, 0, [])), (51, (.invokevirtual 308, 54, false, false, 143, 3, 1, 15, 0, 0, [])), (54, (.ifCond .eq 7, 57, false, false, 61, 0, 0, 0, 0, 0, [])), (57, (.iconst 1, 58, false, false, 0, 0, 0, 0, 1, 0, [])), (58, (.goto 4, 61, false, false, 62, 0, 0, 0, 0, 0, [])), (61, (.iconst 0, 62, false, false, 0, 0, 0, 0, 0, 0, [])), (62, (.iadd, 63, false, false, 0, 0, 0, 0, 0, 0, [])), (63, (.istore_n 1, 64, false, false, 1, 0, 0, 0, 0, 0, [])), (64, (.iinc 3 1, 67, false, false, 3, 0, 0, 0, 1, 0, [])), (67, (.goto (-49), 70, false, true, 18, 0, 0, 0, 0, 0, [])), (70, (.iinc 2 1, 73, false, false, 2, 0, 0, 0, 1, 0, [])), (73, (.goto (-65), 76, false, true, 8, 0, 0, 0, 0, 0, [])), (76, (.iload_n 1, 77, false, false, 1, 0, 0, 0, 0, 0, [])), (77, (.ireturn, 78, false, false, 0, 0, 0, 0, 0, 0, []))])], 0, [])
set_option maxRecDepth 100000 in
theorem v_X12_linesInForce : VE MYT dflT E_X12_linesInForce := ⟨⟨⟨⟨⟨dX12_linesInForce_0, rfl⟩, rfl⟩, ⟨⟨dX12_linesInForce_1, rfl⟩, Or.inr ⟨by decide, ⟨_, my_140, sX12_305⟩, fun q => absurd q (by decide)⟩⟩, ⟨⟨dX12_linesInForce_4, rfl⟩, rfl⟩, ⟨⟨dX12_linesInForce_5, rfl⟩, rfl⟩, ⟨⟨dX12_linesInForce_6, rfl⟩, rfl⟩, ⟨⟨dX12_linesInForce_7, rfl⟩, rfl⟩, ⟨⟨dX12_linesInForce_8, rfl⟩, rfl⟩, ⟨⟨dX12_linesInForce_9, rfl⟩, rfl⟩, ⟨⟨dX12_linesInForce_10, rfl⟩, Or.inl ⟨by decide, _, _, fX12_296⟩⟩, ⟨⟨dX12_linesInForce_13, rfl⟩, rfl⟩, ⟨⟨dX12_linesInForce_16, rfl⟩, rfl⟩, ⟨⟨dX12_linesInForce_17, rfl⟩, rfl⟩, ⟨⟨dX12_linesInForce_18, rfl⟩, rfl⟩, ⟨⟨dX12_linesInForce_19, rfl⟩, rfl⟩, ⟨⟨dX12_linesInForce_20, rfl⟩, rfl⟩, ⟨⟨dX12_linesInForce_21, rfl⟩, Or.inl ⟨by decide, _, _, fX12_52⟩⟩, ⟨⟨dX12_linesInForce_24, rfl⟩, rfl⟩, ⟨⟨dX12_linesInForce_25, rfl⟩, trivial⟩, ⟨⟨dX12_linesInForce_26, rfl⟩, Or.inr ⟨by decide, ⟨_, my_141, sX12_299⟩, fun q => absurd q (by decide)⟩⟩, ⟨⟨dX12_linesInForce_29, rfl⟩, rfl⟩, ⟨⟨dX12_linesInForce_32, rfl⟩, rfl⟩, ⟨⟨dX12_linesInForce_33, rfl⟩, rfl⟩, ⟨⟨dX12_linesInForce_34, rfl⟩, rfl⟩, ⟨⟨dX12_linesInForce_35, rfl⟩, rfl⟩, trivial⟩,
  ⟨⟨⟨dX12_linesInForce_36, rfl⟩, rfl⟩, ⟨⟨dX12_linesInForce_37, rfl⟩, Or.inl ⟨by decide, _, _, fX12_27⟩⟩, ⟨⟨dX12_linesInForce_40, rfl⟩, rfl⟩, ⟨⟨dX12_linesInForce_41, rfl⟩, Or.inl ⟨by decide, _, _, fX12_52⟩⟩, ⟨⟨dX12_linesInForce_44, rfl⟩, rfl⟩, ⟨⟨dX12_linesInForce_45, rfl⟩, trivial⟩, ⟨⟨dX12_linesInForce_46, rfl⟩, rfl⟩, ⟨⟨dX12_linesInForce_47, rfl⟩, Or.inl ⟨rfl, _, my_117, sX12_275⟩⟩, ⟨⟨dX12_linesInForce_50, rfl⟩, trivial⟩, ⟨⟨dX12_linesInForce_51, rfl⟩, Or.inr ⟨by decide, ⟨_, my_143, sX12_308⟩, fun q => absurd q (by decide)⟩⟩, ⟨⟨dX12_linesInForce_54, rfl⟩, rfl⟩, ⟨⟨dX12_linesInForce_57, rfl⟩, rfl⟩, ⟨⟨dX12_linesInForce_58, rfl⟩, rfl⟩, ⟨⟨dX12_linesInForce_61, rfl⟩, rfl⟩, ⟨⟨dX12_linesInForce_62, rfl⟩, trivial⟩, ⟨⟨dX12_linesInForce_63, rfl⟩, rfl⟩, ⟨⟨dX12_linesInForce_64, rfl⟩, ⟨rfl, rfl⟩⟩, ⟨⟨dX12_linesInForce_67, rfl⟩, rfl⟩, ⟨⟨dX12_linesInForce_70, rfl⟩, ⟨rfl, rfl⟩⟩, ⟨⟨dX12_linesInForce_73, rfl⟩, rfl⟩, ⟨⟨dX12_linesInForce_76, rfl⟩, rfl⟩, ⟨⟨dX12_linesInForce_77, rfl⟩, Or.inl ⟨rfl, rfl⟩⟩, trivial⟩, trivial⟩, by decide, Or.inl ⟨rfl, by decide, rfl⟩⟩
set_option maxRecDepth 100000 in
theorem g_X12_linesInForce_0 (S : sT) (call : cT) (n : Nat) (a0 : Nat) (h : pH) : bd S call dflT E_X12_linesInForce (n + 1) 0 [some (.ref a0), none, none, none] [] h = (rC h (.ref a0) 15 (cU (call 140 [.ref a0] h) (fun h1 => bd S call dflT E_X12_linesInForce n 8 [some (.ref a0), some (.int 0), some (.int 0), none] [] h1))) := rfl
set_option maxRecDepth 100000 in
theorem g_X12_linesInForce_8 (S : sT) (call : cT) (n : Nat) (a0 : Nat) (x1 : Int32) (x2 : Int32) (o3 : Option Value) (h : pH) : bd S call dflT E_X12_linesInForce (n + 1) 8 [some (.ref a0), some (.int x1), some (.int x2), o3] [] h = (gI h (.ref a0) 15 16 (fun y1 => (if y1 ≤ x2 then some (.inl (some (.int x1)), h) else bd S call dflT E_X12_linesInForce n 18 [some (.ref a0), some (.int x1), some (.int x2), some (.int 0)] [] h))) := rfl
set_option maxRecDepth 100000 in
theorem g_X12_linesInForce_18 (S : sT) (call : cT) (n : Nat) (a0 : Nat) (x1 : Int32) (x2 : Int32) (x3 : Int32) (h : pH) : bd S call dflT E_X12_linesInForce (n + 1) 18 [some (.ref a0), some (.int x1), some (.int x2), some (.int x3)] [] h = (gV h (.ref a0) 15 15 (fun w1 => aI h w1 0 x2 (fun y2 => rC h (.ref a0) 15 (cI (call 141 [.ref a0, .int y2] h) (fun y4 h3 => (if y4 ≤ x3 then bd S call dflT E_X12_linesInForce n 8 [some (.ref a0), some (.int x1), some (.int (x2 + 1)), some (.int x3)] [] h3 else gV h3 (.ref a0) 15 1 (fun w5 => gV h3 (.ref a0) 15 15 (fun w6 => aI h3 w6 0 x2 (fun y7 => h8f [w5, .int x3, .int x2, .ref a0, .int x1] (cI (call 117 [.int y7, .int x3] h3) (fun y9 h8 => aI h8 w5 0 y9 (fun y10 => rC h8 (.ref a0) 15 (cI (call 143 [.ref a0, .int x2, .int x3, .int y10] h8) (fun y12 h11 => (if y12 = 0 then bd S call dflT E_X12_linesInForce n 18 [some (.ref a0), some (.int (x1 + 0)), some (.int x2), some (.int (x3 + 1))] [] h11 else bd S call dflT E_X12_linesInForce n 18 [some (.ref a0), some (.int (x1 + 1)), some (.int x2), some (.int (x3 + 1))] [] h11))))))))))))))) := rfl
theorem dX12_count_0 : decode cX12_count 0 = .ok (.aload_n 0, 1) := by decide +kernel
theorem dX12_count_1 : decode cX12_count 1 = .ok (.iconst 0, 1) := by decide +kernel
theorem dX12_count_2 : decode cX12_count 2 = .ok (.putfield 3, 3) := by decide +kernel
theorem dX12_count_5 : decode cX12_count 5 = .ok (.iconst 0, 1) := by decide +kernel
theorem dX12_count_6 : decode cX12_count 6 = .ok (.istore_n 2, 1) := by decide +kernel
theorem dX12_count_7 : decode cX12_count 7 = .ok (.iload_n 1, 1) := by decide +kernel
theorem dX12_count_8 : decode cX12_count 8 = .ok (.tableswitch 275 0 18 #[92, 97, 102, 109, 116, 125, 163, 169, 175, 184, 189, 198, 203, 210, 218, 244, 251, 258, 267], 92) := by decide +kernel
theorem dX12_count_100 : decode cX12_count 100 = .ok (.aload_n 0, 1) := by decide +kernel
theorem dX12_count_101 : decode cX12_count 101 = .ok (.invokevirtual 89, 3) := by decide +kernel
theorem dX12_count_104 : decode cX12_count 104 = .ok (.ireturn, 1) := by decide +kernel
theorem dX12_count_105 : decode cX12_count 105 = .ok (.aload_n 0, 1) := by decide +kernel
theorem dX12_count_106 : decode cX12_count 106 = .ok (.invokevirtual 97, 3) := by decide +kernel
theorem dX12_count_109 : decode cX12_count 109 = .ok (.ireturn, 1) := by decide +kernel
theorem dX12_count_110 : decode cX12_count 110 = .ok (.aload_n 0, 1) := by decide +kernel
theorem dX12_count_111 : decode cX12_count 111 = .ok (.getfield 27, 3) := by decide +kernel
theorem dX12_count_114 : decode cX12_count 114 = .ok (.iconst 1, 1) := by decide +kernel
theorem dX12_count_115 : decode cX12_count 115 = .ok (.iaload, 1) := by decide +kernel
theorem dX12_count_116 : decode cX12_count 116 = .ok (.ireturn, 1) := by decide +kernel
theorem dX12_count_117 : decode cX12_count 117 = .ok (.aload_n 0, 1) := by decide +kernel
theorem dX12_count_118 : decode cX12_count 118 = .ok (.getfield 27, 3) := by decide +kernel
theorem dX12_count_121 : decode cX12_count 121 = .ok (.iconst 2, 1) := by decide +kernel
theorem dX12_count_122 : decode cX12_count 122 = .ok (.iaload, 1) := by decide +kernel
theorem dX12_count_123 : decode cX12_count 123 = .ok (.ireturn, 1) := by decide +kernel
theorem dX12_count_124 : decode cX12_count 124 = .ok (.aload_n 0, 1) := by decide +kernel
theorem dX12_count_125 : decode cX12_count 125 = .ok (.getfield 27, 3) := by decide +kernel
theorem dX12_count_128 : decode cX12_count 128 = .ok (.sipush 1683, 3) := by decide +kernel
theorem dX12_count_131 : decode cX12_count 131 = .ok (.iaload, 1) := by decide +kernel
theorem dX12_count_132 : decode cX12_count 132 = .ok (.ireturn, 1) := by decide +kernel
theorem dX12_count_133 : decode cX12_count 133 = .ok (.iconst 0, 1) := by decide +kernel
theorem dX12_count_134 : decode cX12_count 134 = .ok (.istore_n 3, 1) := by decide +kernel
theorem dX12_count_135 : decode cX12_count 135 = .ok (.iload_n 3, 1) := by decide +kernel
theorem dX12_count_136 : decode cX12_count 136 = .ok (.aload_n 0, 1) := by decide +kernel
theorem dX12_count_137 : decode cX12_count 137 = .ok (.getfield 27, 3) := by decide +kernel
theorem dX12_count_140 : decode cX12_count 140 = .ok (.sipush 1683, 3) := by decide +kernel
theorem dX12_count_143 : decode cX12_count 143 = .ok (.iaload, 1) := by decide +kernel
theorem dX12_count_144 : decode cX12_count 144 = .ok (.if_icmp .ge 25, 3) := by decide +kernel
theorem dX12_count_147 : decode cX12_count 147 = .ok (.iload_n 2, 1) := by decide +kernel
theorem dX12_count_148 : decode cX12_count 148 = .ok (.aload_n 0, 1) := by decide +kernel
theorem dX12_count_149 : decode cX12_count 149 = .ok (.iload_n 3, 1) := by decide +kernel
theorem dX12_count_150 : decode cX12_count 150 = .ok (.invokevirtual 386, 3) := by decide +kernel
theorem dX12_count_153 : decode cX12_count 153 = .ok (.ifCond .le 7, 3) := by decide +kernel
theorem dX12_count_156 : decode cX12_count 156 = .ok (.iconst 1, 1) := by decide +kernel
theorem dX12_count_157 : decode cX12_count 157 = .ok (.goto 4, 3) := by decide +kernel
theorem dX12_count_160 : decode cX12_count 160 = .ok (.iconst 0, 1) := by decide +kernel
theorem dX12_count_161 : decode cX12_count 161 = .ok (.iadd, 1) := by decide +kernel
theorem dX12_count_162 : decode cX12_count 162 = .ok (.istore_n 2, 1) := by decide +kernel
theorem dX12_count_163 : decode cX12_count 163 = .ok (.iinc 3 1, 3) := by decide +kernel
theorem dX12_count_166 : decode cX12_count 166 = .ok (.goto (-31), 3) := by decide +kernel
theorem dX12_count_169 : decode cX12_count 169 = .ok (.iload_n 2, 1) := by decide +kernel
theorem dX12_count_170 : decode cX12_count 170 = .ok (.ireturn, 1) := by decide +kernel
theorem dX12_count_171 : decode cX12_count 171 = .ok (.aload_n 0, 1) := by decide +kernel
theorem dX12_count_172 : decode cX12_count 172 = .ok (.iconst 2, 1) := by decide +kernel
theorem dX12_count_173 : decode cX12_count 173 = .ok (.invokevirtual 485, 3) := by decide +kernel
theorem dX12_count_176 : decode cX12_count 176 = .ok (.ireturn, 1) := by decide +kernel
theorem dX12_count_177 : decode cX12_count 177 = .ok (.aload_n 0, 1) := by decide +kernel
theorem dX12_count_178 : decode cX12_count 178 = .ok (.iconst 3, 1) := by decide +kernel
theorem dX12_count_179 : decode cX12_count 179 = .ok (.invokevirtual 485, 3) := by decide +kernel
theorem dX12_count_182 : decode cX12_count 182 = .ok (.ireturn, 1) := by decide +kernel
theorem dX12_count_183 : decode cX12_count 183 = .ok (.aload_n 0, 1) := by decide +kernel
theorem dX12_count_184 : decode cX12_count 184 = .ok (.getfield 27, 3) := by decide +kernel
theorem dX12_count_187 : decode cX12_count 187 = .ok (.sipush 2650, 3) := by decide +kernel
theorem dX12_count_190 : decode cX12_count 190 = .ok (.iaload, 1) := by decide +kernel
theorem dX12_count_191 : decode cX12_count 191 = .ok (.ireturn, 1) := by decide +kernel
theorem dX12_count_192 : decode cX12_count 192 = .ok (.aload_n 0, 1) := by decide +kernel
theorem dX12_count_193 : decode cX12_count 193 = .ok (.invokevirtual 488, 3) := by decide +kernel
theorem dX12_count_196 : decode cX12_count 196 = .ok (.ireturn, 1) := by decide +kernel
theorem dX12_count_197 : decode cX12_count 197 = .ok (.aload_n 0, 1) := by decide +kernel
theorem dX12_count_198 : decode cX12_count 198 = .ok (.getfield 27, 3) := by decide +kernel
theorem dX12_count_201 : decode cX12_count 201 = .ok (.sipush 1948, 3) := by decide +kernel
theorem dX12_count_204 : decode cX12_count 204 = .ok (.iaload, 1) := by decide +kernel
theorem dX12_count_205 : decode cX12_count 205 = .ok (.ireturn, 1) := by decide +kernel
theorem dX12_count_206 : decode cX12_count 206 = .ok (.aload_n 0, 1) := by decide +kernel
theorem dX12_count_207 : decode cX12_count 207 = .ok (.invokevirtual 449, 3) := by decide +kernel
theorem dX12_count_210 : decode cX12_count 210 = .ok (.ireturn, 1) := by decide +kernel
theorem dX12_count_211 : decode cX12_count 211 = .ok (.aload_n 0, 1) := by decide +kernel
theorem dX12_count_212 : decode cX12_count 212 = .ok (.getfield 27, 3) := by decide +kernel
theorem dX12_count_215 : decode cX12_count 215 = .ok (.iconst 5, 1) := by decide +kernel
theorem dX12_count_216 : decode cX12_count 216 = .ok (.iaload, 1) := by decide +kernel
theorem dX12_count_217 : decode cX12_count 217 = .ok (.ireturn, 1) := by decide +kernel
theorem dX12_count_218 : decode cX12_count 218 = .ok (.aload_n 0, 1) := by decide +kernel
theorem dX12_count_219 : decode cX12_count 219 = .ok (.getfield 27, 3) := by decide +kernel
theorem dX12_count_222 : decode cX12_count 222 = .ok (.bipush 6, 2) := by decide +kernel
theorem dX12_count_224 : decode cX12_count 224 = .ok (.iaload, 1) := by decide +kernel
theorem dX12_count_225 : decode cX12_count 225 = .ok (.ireturn, 1) := by decide +kernel
theorem dX12_count_226 : decode cX12_count 226 = .ok (.iconst 0, 1) := by decide +kernel
theorem dX12_count_227 : decode cX12_count 227 = .ok (.istore_n 3, 1) := by decide +kernel
theorem dX12_count_228 : decode cX12_count 228 = .ok (.iload_n 3, 1) := by decide +kernel
theorem dX12_count_229 : decode cX12_count 229 = .ok (.bipush 48, 2) := by decide +kernel
theorem dX12_count_231 : decode cX12_count 231 = .ok (.if_icmp .ge 19, 3) := by decide +kernel
theorem dX12_count_234 : decode cX12_count 234 = .ok (.iload_n 2, 1) := by decide +kernel
theorem dX12_count_235 : decode cX12_count 235 = .ok (.aload_n 0, 1) := by decide +kernel
theorem dX12_count_236 : decode cX12_count 236 = .ok (.iload_n 3, 1) := by decide +kernel
theorem dX12_count_237 : decode cX12_count 237 = .ok (.bipush 11, 2) := by decide +kernel
theorem dX12_count_239 : decode cX12_count 239 = .ok (.invokevirtual 79, 3) := by decide +kernel
theorem dX12_count_242 : decode cX12_count 242 = .ok (.iadd, 1) := by decide +kernel
theorem dX12_count_243 : decode cX12_count 243 = .ok (.istore_n 2, 1) := by decide +kernel
theorem dX12_count_244 : decode cX12_count 244 = .ok (.iinc 3 1, 3) := by decide +kernel
theorem dX12_count_247 : decode cX12_count 247 = .ok (.goto (-19), 3) := by decide +kernel
theorem dX12_count_250 : decode cX12_count 250 = .ok (.iload_n 2, 1) := by decide +kernel
theorem dX12_count_251 : decode cX12_count 251 = .ok (.ireturn, 1) := by decide +kernel
theorem dX12_count_252 : decode cX12_count 252 = .ok (.aload_n 0, 1) := by decide +kernel
theorem dX12_count_253 : decode cX12_count 253 = .ok (.getfield 27, 3) := by decide +kernel
theorem dX12_count_256 : decode cX12_count 256 = .ok (.iconst 3, 1) := by decide +kernel
theorem dX12_count_257 : decode cX12_count 257 = .ok (.iaload, 1) := by decide +kernel
theorem dX12_count_258 : decode cX12_count 258 = .ok (.ireturn, 1) := by decide +kernel
theorem dX12_count_259 : decode cX12_count 259 = .ok (.aload_n 0, 1) := by decide +kernel
theorem dX12_count_260 : decode cX12_count 260 = .ok (.getfield 27, 3) := by decide +kernel
theorem dX12_count_263 : decode cX12_count 263 = .ok (.iconst 4, 1) := by decide +kernel
theorem dX12_count_264 : decode cX12_count 264 = .ok (.iaload, 1) := by decide +kernel
theorem dX12_count_265 : decode cX12_count 265 = .ok (.ireturn, 1) := by decide +kernel
theorem dX12_count_266 : decode cX12_count 266 = .ok (.aload_n 0, 1) := by decide +kernel
theorem dX12_count_267 : decode cX12_count 267 = .ok (.getfield 27, 3) := by decide +kernel
theorem dX12_count_270 : decode cX12_count 270 = .ok (.sipush 2265, 3) := by decide +kernel
theorem dX12_count_273 : decode cX12_count 273 = .ok (.iaload, 1) := by decide +kernel
theorem dX12_count_274 : decode cX12_count 274 = .ok (.ireturn, 1) := by decide +kernel
theorem dX12_count_275 : decode cX12_count 275 = .ok (.aload_n 0, 1) := by decide +kernel
theorem dX12_count_276 : decode cX12_count 276 = .ok (.getfield 27, 3) := by decide +kernel
theorem dX12_count_279 : decode cX12_count 279 = .ok (.bipush 7, 2) := by decide +kernel
theorem dX12_count_281 : decode cX12_count 281 = .ok (.iaload, 1) := by decide +kernel
theorem dX12_count_282 : decode cX12_count 282 = .ok (.ireturn, 1) := by decide +kernel
theorem dX12_count_283 : decode cX12_count 283 = .ok (.iconst (-1), 1) := by decide +kernel
theorem dX12_count_284 : decode cX12_count 284 = .ok (.ireturn, 1) := by decide +kernel
noncomputable def E_X12_count : mE := (mX12_count, [(124, [(0, (.aload_n 0, 1, false, false, 0, 0, 0, 0, 0, 0, [])), (1, (.iconst 0, 2, false, false, 0, 0, 0, 0, 0, 0, [])), (2, (.putfield 3, 5, false, false, 15, 0, 0, 0, 0, 0, [])), (5, (.iconst 0, 6, false, false, 0, 0, 0, 0, 0, 0, [])), (6, (.istore_n 2, 7, false, false, 2, 0, 0, 0, 0, 0, [])), (7, (.iload_n 1, 8, false, false, 1, 0, 0, 0, 0, 0, [])), (8, (.tableswitch 275 0 18 #[92, 97, 102, 109, 116, 125, 163, 169, 175, 184, 189, 198, 203, 210, 218, 244, 251, 258, 267], 0, false, false, 283, 0, 0, 0, 0, 0, [(0, 100), (1, 105), (2, 110), (3, 117), (4, 124), (5, 133), (6, 171), (7, 177), (8, 183), (9, 192), (10, 197), (11, 206), (12, 211), (13, 218), (14, 226), (15, 252), (16, 259), (17, 266), (18, 275)])), (100, (.aload_n 0, 101, false, false, 0, 0, 0, 0, 0, 0, [])), (101, (.invokevirtual 89, 104, false, false, 48, 0, 1, 15, 0, 0, [])), (104, (.ireturn, 105, false, false, 0, 0, 0, 0, 0, 0, [])), (105, (.aload_n 0, 106, false, false, 0, 0, 0, 0, 0, 0, [])), (106, (.invokevirtual 97, 109, false, false, 152, 0, 1, 15, 0, 0, [])), (109, (.ireturn, 110, false, false, 0, 0, 0, 0, 0, 0, [])), (110, (.aload_n 0, 111, false, false, 0, 0, 0, 0, 0, 0, [])), (111, (.getfield 27, 114, false, false, 15, 1, 1, 0, 0, 0, [])), (114, (.iconst 1, 115, false, false, 0, 0, 0, 0, 1, 0, [])), (115, (.iaload, 116, false, false, 0, 0, 0, 0, 0, 0, [])), (116, (.ireturn, 117, false, false, 0, 0, 0, 0, 0, 0, [])), (117, (.aload_n 0, 118, false, false, 0, 0, 0, 0, 0, 0, [])), (118, (.getfield 27, 121, false, false, 15, 1, 1, 0, 0, 0, [])), (121, (.iconst 2, 122, false, false, 0, 0, 0, 0, 2, 0, [])), (122, (.iaload, 123, false, false, 0, 0, 0, 0, 0, 0, [])), (123, (.ireturn, 124, false, false, 0, 0, 0, 0, 0, 0, [])), (124, (.aload_n 0, 125, false, false, 0, 0, 0, 0, 0, 0, []))]),
  (166, [(125, (.getfield 27, 128, false, false, 15, 1, 1, 0, 0, 0, [])), (128, (.sipush 1683, 131, false, false, 0, 0, 0, 0, 1683, 0, [])), (131, (.iaload, 132, false, false, 0, 0, 0, 0, 0, 0, [])), (132, (.ireturn, 133, false, false, 0, 0, 0, 0, 0, 0, [])), (133, (.iconst 0, 134, false, false, 0, 0, 0, 0, 0, 0, [])), (134, (.istore_n 3, 135, true, false, 3, 0, 0, 0, 0, 0, [])), (135, (.iload_n 3, 136, false, false, 3, 0, 0, 0, 0, 0, [])), (136, (.aload_n 0, 137, false, false, 0, 0, 0, 0, 0, 0, [])), (137, (.getfield 27, 140, false, false, 15, 1, 1, 0, 0, 0, [])), (140, (.sipush 1683, 143, false, false, 0, 0, 0, 0, 1683, 0, [])), (143, (.iaload, 144, false, false, 0, 0, 0, 0, 0, 0, [])), (144, (.if_icmp .ge 25, 147, false, false, 169, 0, 0, 0, 0, 0, [])), (147, (.iload_n 2, 148, false, false, 2, 0, 0, 0, 0, 0, [])), (148, (.aload_n 0, 149, false, false, 0, 0, 0, 0, 0, 0, [])), (149, (.iload_n 3, 150, false, false, 3, 0, 0, 0, 0, 0, [])), (150, (.invokevirtual 386, 153, false, false, 172, 1, 1, 15, 0, 0, [])), (153, (.ifCond .le 7, 156, false, false, 160, 0, 0, 0, 0, 0, [])), (156, (.iconst 1, 157, false, false, 0, 0, 0, 0, 1, 0, [])), (157, (.goto 4, 160, false, false, 161, 0, 0, 0, 0, 0, [])), (160, (.iconst 0, 161, false, false, 0, 0, 0, 0, 0, 0, [])), (161, (.iadd, 162, false, false, 0, 0, 0, 0, 0, 0, [])), (162, (.istore_n 2, 163, false, false, 2, 0, 0, 0, 0, 0, [])), (163, (.iinc 3 1, 166, false, false, 3, 0, 0, 0, 1, 0, [])), (166, (.goto (-31), 169, false, true, 135, 0, 0, 0, 0, 0, []))]),
  (206, [(169, (.iload_n 2, 170, false, false, 2, 0, 0, 0, 0, 0, [])), (170, (.ireturn, 171, false, false, 0, 0, 0, 0, 0, 0, [])), (171, (.aload_n 0, 172, false, false, 0, 0, 0, 0, 0, 0, [])), (172, (.iconst 2, 173, false, false, 0, 0, 0, 0, 2, 0, [])), (173, (.invokevirtual 485, 176, false, false, 384, 1, 1, 15, 0, 0, [])), (176, (.ireturn, 177, false, false, 0, 0, 0, 0, 0, 0, [])), (177, (.aload_n 0, 178, false, false, 0, 0, 0, 0, 0, 0, [])), (178, (.iconst 3, 179, false, false, 0, 0, 0, 0, 3, 0, [])), (179, (.invokevirtual 485, 182, false, false, 384, 1, 1, 15, 0, 0, [])), (182, (.ireturn, 183, false, false, 0, 0, 0, 0, 0, 0, [])), (183, (.aload_n 0, 184, false, false, 0, 0, 0, 0, 0, 0, [])), (184, (.getfield 27, 187, false, false, 15, 1, 1, 0, 0, 0, [])), (187, (.sipush 2650, 190, false, false, 0, 0, 0, 0, 2650, 0, [])), (190, (.iaload, 191, false, false, 0, 0, 0, 0, 0, 0, [])), (191, (.ireturn, 192, false, false, 0, 0, 0, 0, 0, 0, [])), (192, (.aload_n 0, 193, false, false, 0, 0, 0, 0, 0, 0, [])), (193, (.invokevirtual 488, 196, false, false, 385, 0, 1, 15, 0, 0, [])), (196, (.ireturn, 197, false, false, 0, 0, 0, 0, 0, 0, [])), (197, (.aload_n 0, 198, false, false, 0, 0, 0, 0, 0, 0, [])), (198, (.getfield 27, 201, false, false, 15, 1, 1, 0, 0, 0, [])), (201, (.sipush 1948, 204, false, false, 0, 0, 0, 0, 1948, 0, [])), (204, (.iaload, 205, false, false, 0, 0, 0, 0, 0, 0, [])), (205, (.ireturn, 206, false, false, 0, 0, 0, 0, 0, 0, [])), (206, (.aload_n 0, 207, false, false, 0, 0, 0, 0, 0, 0, []))]),
  (243, [(207, (.invokevirtual 449, 210, false, false, 305, 0, 1, 15, 0, 0, [])), (210, (.ireturn, 211, false, false, 0, 0, 0, 0, 0, 0, [])), (211, (.aload_n 0, 212, false, false, 0, 0, 0, 0, 0, 0, [])), (212, (.getfield 27, 215, false, false, 15, 1, 1, 0, 0, 0, [])), (215, (.iconst 5, 216, false, false, 0, 0, 0, 0, 5, 0, [])), (216, (.iaload, 217, false, false, 0, 0, 0, 0, 0, 0, [])), (217, (.ireturn, 218, false, false, 0, 0, 0, 0, 0, 0, [])), (218, (.aload_n 0, 219, false, false, 0, 0, 0, 0, 0, 0, [])), (219, (.getfield 27, 222, false, false, 15, 1, 1, 0, 0, 0, [])), (222, (.bipush 6, 224, false, false, 0, 0, 0, 0, 6, 0, [])), (224, (.iaload, 225, false, false, 0, 0, 0, 0, 0, 0, [])), (225, (.ireturn, 226, false, false, 0, 0, 0, 0, 0, 0, [])), (226, (.iconst 0, 227, false, false, 0, 0, 0, 0, 0, 0, [])), (227, (.istore_n 3, 228, true, false, 3, 0, 0, 0, 0, 0, [])), (228, (.iload_n 3, 229, false, false, 3, 0, 0, 0, 0, 0, [])), (229, (.bipush 48, 231, false, false, 0, 0, 0, 0, 48, 0, [])), (231, (.if_icmp .ge 19, 234, false, false, 250, 0, 0, 0, 0, 0, [])), (234, (.iload_n 2, 235, false, false, 2, 0, 0, 0, 0, 0, [])), (235, (.aload_n 0, 236, false, false, 0, 0, 0, 0, 0, 0, [])), (236, (.iload_n 3, 237, false, false, 3, 0, 0, 0, 0, 0, [])), (237, (.bipush 11, 239, false, false, 0, 0, 0, 0, 11, 0, [])), (239, (.invokevirtual 79, 242, false, false, 31, 2, 1, 15, 0, 0, [])), (242, (.iadd, 243, false, false, 0, 0, 0, 0, 0, 0, [])), (243, (.istore_n 2, 244, false, false, 2, 0, 0, 0, 0, 0, []))]),
  (282, [(244, (.iinc 3 1, 247, false, false, 3, 0, 0, 0, 1, 0, [])), (247, (.goto (-19), 250, false, true, 228, 0, 0, 0, 0, 0, [])), (250, (.iload_n 2, 251, false, false, 2, 0, 0, 0, 0, 0, [])), (251, (.ireturn, 252, false, false, 0, 0, 0, 0, 0, 0, [])), (252, (.aload_n 0, 253, false, false, 0, 0, 0, 0, 0, 0, [])), (253, (.getfield 27, 256, false, false, 15, 1, 1, 0, 0, 0, [])), (256, (.iconst 3, 257, false, false, 0, 0, 0, 0, 3, 0, [])), (257, (.iaload, 258, false, false, 0, 0, 0, 0, 0, 0, [])), (258, (.ireturn, 259, false, false, 0, 0, 0, 0, 0, 0, [])), (259, (.aload_n 0, 260, false, false, 0, 0, 0, 0, 0, 0, [])), (260, (.getfield 27, 263, false, false, 15, 1, 1, 0, 0, 0, [])), (263, (.iconst 4, 264, false, false, 0, 0, 0, 0, 4, 0, [])), (264, (.iaload, 265, false, false, 0, 0, 0, 0, 0, 0, [])), (265, (.ireturn, 266, false, false, 0, 0, 0, 0, 0, 0, [])), (266, (.aload_n 0, 267, false, false, 0, 0, 0, 0, 0, 0, [])), (267, (.getfield 27, 270, false, false, 15, 1, 1, 0, 0, 0, [])), (270, (.sipush 2265, 273, false, false, 0, 0, 0, 0, 2265, 0, [])), (273, (.iaload, 274, false, false, 0, 0, 0, 0, 0, 0, [])), (274, (.ireturn, 275, false, false, 0, 0, 0, 0, 0, 0, [])), (275, (.aload_n 0, 276, false, false, 0, 0, 0, 0, 0, 0, [])), (276, (.getfield 27, 279, false, false, 15, 1, 1, 0, 0, 0, [])), (279, (.bipush 7, 281, false, false, 0, 0, 0, 0, 7, 0, [])), (281, (.iaload, 282, false, false, 0, 0, 0, 0, 0, 0, [])), (282, (.ireturn, 283, false, false, 0, 0, 0, 0, 0, 0, []))]),
  (284, [(283, (.iconst (-1), 284, false, false, 0, 0, 0, 0, -1, 0, [])), (284, (.ireturn, 285, false, false, 0, 0, 0, 0, 0, 0, []))])], 0, [])
set_option maxRecDepth 100000 in
theorem v_X12_count : VE MYT dflT E_X12_count := ⟨⟨⟨⟨⟨dX12_count_0, rfl⟩, rfl⟩, ⟨⟨dX12_count_1, rfl⟩, rfl⟩, ⟨⟨dX12_count_2, rfl⟩, Or.inl ⟨rfl, fX12_3⟩⟩, ⟨⟨dX12_count_5, rfl⟩, rfl⟩, ⟨⟨dX12_count_6, rfl⟩, rfl⟩, ⟨⟨dX12_count_7, rfl⟩, rfl⟩, ⟨⟨_, dX12_count_8⟩, ⟨rfl, rfl, rfl, rfl, rfl, rfl, rfl, rfl, rfl, rfl, rfl, rfl, rfl, rfl, rfl, rfl, rfl, rfl, rfl, rfl, rfl, rfl, rfl, rfl, rfl, rfl, rfl, rfl, rfl, rfl, rfl, rfl, rfl, rfl, rfl, rfl, rfl, rfl, rfl, rfl, trivial⟩⟩, ⟨⟨dX12_count_100, rfl⟩, rfl⟩, ⟨⟨dX12_count_101, rfl⟩, Or.inr ⟨by decide, ⟨_, my_48, sX12_89⟩, fun q => absurd q (by decide)⟩⟩, ⟨⟨dX12_count_104, rfl⟩, Or.inl ⟨rfl, rfl⟩⟩, ⟨⟨dX12_count_105, rfl⟩, rfl⟩, ⟨⟨dX12_count_106, rfl⟩, Or.inr ⟨by decide, ⟨_, my_152, sX12_97⟩, fun q => absurd q (by decide)⟩⟩, ⟨⟨dX12_count_109, rfl⟩, Or.inl ⟨rfl, rfl⟩⟩, ⟨⟨dX12_count_110, rfl⟩, rfl⟩, ⟨⟨dX12_count_111, rfl⟩, Or.inl ⟨by decide, _, _, fX12_27⟩⟩, ⟨⟨dX12_count_114, rfl⟩, rfl⟩, ⟨⟨dX12_count_115, rfl⟩, trivial⟩, ⟨⟨dX12_count_116, rfl⟩, Or.inl ⟨rfl, rfl⟩⟩, ⟨⟨dX12_count_117, rfl⟩, rfl⟩, ⟨⟨dX12_count_118, rfl⟩, Or.inl ⟨by decide, _, _, fX12_27⟩⟩, ⟨⟨dX12_count_121, rfl⟩, rfl⟩, ⟨⟨dX12_count_122, rfl⟩, trivial⟩, ⟨⟨dX12_count_123, rfl⟩, Or.inl ⟨rfl, rfl⟩⟩, ⟨⟨dX12_count_124, rfl⟩, rfl⟩, trivial⟩,
  ⟨⟨⟨dX12_count_125, rfl⟩, Or.inl ⟨by decide, _, _, fX12_27⟩⟩, ⟨⟨dX12_count_128, rfl⟩, rfl⟩, ⟨⟨dX12_count_131, rfl⟩, trivial⟩, ⟨⟨dX12_count_132, rfl⟩, Or.inl ⟨rfl, rfl⟩⟩, ⟨⟨dX12_count_133, rfl⟩, rfl⟩, ⟨⟨dX12_count_134, rfl⟩, rfl⟩, ⟨⟨dX12_count_135, rfl⟩, rfl⟩, ⟨⟨dX12_count_136, rfl⟩, rfl⟩, ⟨⟨dX12_count_137, rfl⟩, Or.inl ⟨by decide, _, _, fX12_27⟩⟩, ⟨⟨dX12_count_140, rfl⟩, rfl⟩, ⟨⟨dX12_count_143, rfl⟩, trivial⟩, ⟨⟨dX12_count_144, rfl⟩, rfl⟩, ⟨⟨dX12_count_147, rfl⟩, rfl⟩, ⟨⟨dX12_count_148, rfl⟩, rfl⟩, ⟨⟨dX12_count_149, rfl⟩, rfl⟩, ⟨⟨dX12_count_150, rfl⟩, Or.inr ⟨by decide, ⟨_, my_172, sX12_386⟩, fun q => absurd q (by decide)⟩⟩, ⟨⟨dX12_count_153, rfl⟩, rfl⟩, ⟨⟨dX12_count_156, rfl⟩, rfl⟩, ⟨⟨dX12_count_157, rfl⟩, rfl⟩, ⟨⟨dX12_count_160, rfl⟩, rfl⟩, ⟨⟨dX12_count_161, rfl⟩, trivial⟩, ⟨⟨dX12_count_162, rfl⟩, rfl⟩, ⟨⟨dX12_count_163, rfl⟩, ⟨rfl, rfl⟩⟩, ⟨⟨dX12_count_166, rfl⟩, rfl⟩, trivial⟩,
  ⟨⟨⟨dX12_count_169, rfl⟩, rfl⟩, ⟨⟨dX12_count_170, rfl⟩, Or.inl ⟨rfl, rfl⟩⟩, ⟨⟨dX12_count_171, rfl⟩, rfl⟩, ⟨⟨dX12_count_172, rfl⟩, rfl⟩, ⟨⟨dX12_count_173, rfl⟩, Or.inr ⟨by decide, ⟨_, my_384, sX12_485⟩, fun q => absurd q (by decide)⟩⟩, ⟨⟨dX12_count_176, rfl⟩, Or.inl ⟨rfl, rfl⟩⟩, ⟨⟨dX12_count_177, rfl⟩, rfl⟩, ⟨⟨dX12_count_178, rfl⟩, rfl⟩, ⟨⟨dX12_count_179, rfl⟩, Or.inr ⟨by decide, ⟨_, my_384, sX12_485⟩, fun q => absurd q (by decide)⟩⟩, ⟨⟨dX12_count_182, rfl⟩, Or.inl ⟨rfl, rfl⟩⟩, ⟨⟨dX12_count_183, rfl⟩, rfl⟩, ⟨⟨dX12_count_184, rfl⟩, Or.inl ⟨by decide, _, _, fX12_27⟩⟩, ⟨⟨dX12_count_187, rfl⟩, rfl⟩, ⟨⟨dX12_count_190, rfl⟩, trivial⟩, ⟨⟨dX12_count_191, rfl⟩, Or.inl ⟨rfl, rfl⟩⟩, ⟨⟨dX12_count_192, rfl⟩, rfl⟩, ⟨⟨dX12_count_193, rfl⟩, Or.inr ⟨by decide, ⟨_, my_385, sX12_488⟩, fun q => absurd q (by decide)⟩⟩, ⟨⟨dX12_count_196, rfl⟩, Or.inl ⟨rfl, rfl⟩⟩, ⟨⟨dX12_count_197, rfl⟩, rfl⟩, ⟨⟨dX12_count_198, rfl⟩, Or.inl ⟨by decide, _, _, fX12_27⟩⟩, ⟨⟨dX12_count_201, rfl⟩, rfl⟩, ⟨⟨dX12_count_204, rfl⟩, trivial⟩, ⟨⟨dX12_count_205, rfl⟩, Or.inl ⟨rfl, rfl⟩⟩, ⟨⟨dX12_count_206, rfl⟩, rfl⟩, trivial⟩,
  ⟨⟨⟨dX12_count_207, rfl⟩, Or.inr ⟨by decide, ⟨_, my_305, sX12_449⟩, fun q => absurd q (by decide)⟩⟩, ⟨⟨dX12_count_210, rfl⟩, Or.inl ⟨rfl, rfl⟩⟩, ⟨⟨dX12_count_211, rfl⟩, rfl⟩, ⟨⟨dX12_count_212, rfl⟩, Or.inl ⟨by decide, _, _, fX12_27⟩⟩, ⟨⟨dX12_count_215, rfl⟩, rfl⟩, ⟨⟨dX12_count_216, rfl⟩, trivial⟩, ⟨⟨dX12_count_217, rfl⟩, Or.inl ⟨rfl, rfl⟩⟩, ⟨⟨dX12_count_218, rfl⟩, rfl⟩, ⟨⟨dX12_count_219, rfl⟩, Or.inl ⟨by decide, _, _, fX12_27⟩⟩, ⟨⟨dX12_count_222, rfl⟩, rfl⟩, ⟨⟨dX12_count_224, rfl⟩, trivial⟩, ⟨⟨dX12_count_225, rfl⟩, Or.inl ⟨rfl, rfl⟩⟩, ⟨⟨dX12_count_226, rfl⟩, rfl⟩, ⟨⟨dX12_count_227, rfl⟩, rfl⟩, ⟨⟨dX12_count_228, rfl⟩, rfl⟩, ⟨⟨dX12_count_229, rfl⟩, rfl⟩, ⟨⟨dX12_count_231, rfl⟩, rfl⟩, ⟨⟨dX12_count_234, rfl⟩, rfl⟩, ⟨⟨dX12_count_235, rfl⟩, rfl⟩, ⟨⟨dX12_count_236, rfl⟩, rfl⟩, ⟨⟨dX12_count_237, rfl⟩, rfl⟩, ⟨⟨dX12_count_239, rfl⟩, Or.inr ⟨by decide, ⟨_, my_31, sX12_79⟩, fun q => absurd q (by decide)⟩⟩, ⟨⟨dX12_count_242, rfl⟩, trivial⟩, ⟨⟨dX12_count_243, rfl⟩, rfl⟩, trivial⟩,
  ⟨⟨⟨dX12_count_244, rfl⟩, ⟨rfl, rfl⟩⟩, ⟨⟨dX12_count_247, rfl⟩, rfl⟩, ⟨⟨dX12_count_250, rfl⟩, rfl⟩, ⟨⟨dX12_count_251, rfl⟩, Or.inl ⟨rfl, rfl⟩⟩, ⟨⟨dX12_count_252, rfl⟩, rfl⟩, ⟨⟨dX12_count_253, rfl⟩, Or.inl ⟨by decide, _, _, fX12_27⟩⟩, ⟨⟨dX12_count_256, rfl⟩, rfl⟩, ⟨⟨dX12_count_257, rfl⟩, trivial⟩, ⟨⟨dX12_count_258, rfl⟩, Or.inl ⟨rfl, rfl⟩⟩, ⟨⟨dX12_count_259, rfl⟩, rfl⟩, ⟨⟨dX12_count_260, rfl⟩, Or.inl ⟨by decide, _, _, fX12_27⟩⟩, ⟨⟨dX12_count_263, rfl⟩, rfl⟩, ⟨⟨dX12_count_264, rfl⟩, trivial⟩, ⟨⟨dX12_count_265, rfl⟩, Or.inl ⟨rfl, rfl⟩⟩, ⟨⟨dX12_count_266, rfl⟩, rfl⟩, ⟨⟨dX12_count_267, rfl⟩, Or.inl ⟨by decide, _, _, fX12_27⟩⟩, ⟨⟨dX12_count_270, rfl⟩, rfl⟩, ⟨⟨dX12_count_273, rfl⟩, trivial⟩, ⟨⟨dX12_count_274, rfl⟩, Or.inl ⟨rfl, rfl⟩⟩, ⟨⟨dX12_count_275, rfl⟩, rfl⟩, ⟨⟨dX12_count_276, rfl⟩, Or.inl ⟨by decide, _, _, fX12_27⟩⟩, ⟨⟨dX12_count_279, rfl⟩, rfl⟩, ⟨⟨dX12_count_281, rfl⟩, trivial⟩, ⟨⟨dX12_count_282, rfl⟩, Or.inl ⟨rfl, rfl⟩⟩, trivial⟩,
  ⟨⟨⟨dX12_count_283, rfl⟩, rfl⟩, ⟨⟨dX12_count_284, rfl⟩, Or.inl ⟨rfl, rfl⟩⟩, trivial⟩, trivial⟩, by decide, Or.inl ⟨rfl, by decide, rfl⟩⟩
set_option maxRecDepth 100000 in
theorem g_X12_count_0 (S : sT) (call : cT) (n : Nat) (a0 : Nat) (x1 : Int32) (h : pH) : bd S call dflT E_X12_count (n + 1) 0 [some (.ref a0), some (.int x1), none, none] [] h = (pF h (.ref a0) 15 0 (.int 0) (fun h1 => (if x1 = 0 then bd S call dflT E_X12_count n 100 [some (.ref a0), some (.int x1), some (.int 0), none] [] h1 else (if x1 = 1 then bd S call dflT E_X12_count n 105 [some (.ref a0), some (.int x1), some (.int 0), none] [] h1 else (if x1 = 2 then bd S call dflT E_X12_count n 110 [some (.ref a0), some (.int x1), some (.int 0), none] [] h1 else (if x1 = 3 then bd S call dflT E_X12_count n 117 [some (.ref a0), some (.int x1), some (.int 0), none] [] h1 else (if x1 = 4 then bd S call dflT E_X12_count n 124 [some (.ref a0), some (.int x1), some (.int 0), none] [] h1 else (if x1 = 5 then bd S call dflT E_X12_count n 133 [some (.ref a0), some (.int x1), some (.int 0), none] [] h1 else (if x1 = 6 then bd S call dflT E_X12_count n 171 [some (.ref a0), some (.int x1), some (.int 0), none] [] h1 else (if x1 = 7 then bd S call dflT E_X12_count n 177 [some (.ref a0), some (.int x1), some (.int 0), none] [] h1 else (if x1 = 8 then bd S call dflT E_X12_count n 183 [some (.ref a0), some (.int x1), some (.int 0), none] [] h1 else (if x1 = 9 then bd S call dflT E_X12_count n 192 [some (.ref a0), some (.int x1), some (.int 0), none] [] h1 else (if x1 = 10 then bd S call dflT E_X12_count n 197 [some (.ref a0), some (.int x1), some (.int 0), none] [] h1 else (if x1 = 11 then bd S call dflT E_X12_count n 206 [some (.ref a0), some (.int x1), some (.int 0), none] [] h1 else (if x1 = 12 then bd S call dflT E_X12_count n 211 [some (.ref a0), some (.int x1), some (.int 0), none] [] h1 else (if x1 = 13 then bd S call dflT E_X12_count n 218 [some (.ref a0), some (.int x1), some (.int 0), none] [] h1 else (if x1 = 14 then bd S call dflT E_X12_count n 226 [some (.ref a0), some (.int x1), some (.int 0), none] [] h1 else (if x1 = 15 then bd S call dflT E_X12_count n 252 [some (.ref a0), some (.int x1), some (.int 0), none] [] h1 else (if x1 = 16 then bd S call dflT E_X12_count n 259 [some (.ref a0), some (.int x1), some (.int 0), none] [] h1 else (if x1 = 17 then bd S call dflT E_X12_count n 266 [some (.ref a0), some (.int x1), some (.int 0), none] [] h1 else (if x1 = 18 then bd S call dflT E_X12_count n 275 [some (.ref a0), some (.int x1), some (.int 0), none] [] h1 else bd S call dflT E_X12_count n 283 [some (.ref a0), some (.int x1), some (.int 0), none] [] h1))))))))))))))))))))) := rfl
set_option maxRecDepth 100000 in
theorem g_X12_count_100 (S : sT) (call : cT) (n : Nat) (a0 : Nat) (x1 : Int32) (x2 : Int32) (o3 : Option Value) (h : pH) : bd S call dflT E_X12_count (n + 1) 100 [some (.ref a0), some (.int x1), some (.int x2), o3] [] h = (rC h (.ref a0) 15 (cI (call 48 [.ref a0] h) (fun y2 h1 => some (.inl (some (.int y2)), h1)))) := rfl
set_option maxRecDepth 100000 in
theorem g_X12_count_105 (S : sT) (call : cT) (n : Nat) (a0 : Nat) (x1 : Int32) (x2 : Int32) (o3 : Option Value) (h : pH) : bd S call dflT E_X12_count (n + 1) 105 [some (.ref a0), some (.int x1), some (.int x2), o3] [] h = (rC h (.ref a0) 15 (cI (call 152 [.ref a0] h) (fun y2 h1 => some (.inl (some (.int y2)), h1)))) := rfl
set_option maxRecDepth 100000 in
theorem g_X12_count_110 (S : sT) (call : cT) (n : Nat) (a0 : Nat) (x1 : Int32) (x2 : Int32) (o3 : Option Value) (h : pH) : bd S call dflT E_X12_count (n + 1) 110 [some (.ref a0), some (.int x1), some (.int x2), o3] [] h = (gV h (.ref a0) 15 1 (fun w1 => aI h w1 0 1 (fun y2 => some (.inl (some (.int y2)), h)))) := rfl
set_option maxRecDepth 100000 in
theorem g_X12_count_117 (S : sT) (call : cT) (n : Nat) (a0 : Nat) (x1 : Int32) (x2 : Int32) (o3 : Option Value) (h : pH) : bd S call dflT E_X12_count (n + 1) 117 [some (.ref a0), some (.int x1), some (.int x2), o3] [] h = (gV h (.ref a0) 15 1 (fun w1 => aI h w1 0 2 (fun y2 => some (.inl (some (.int y2)), h)))) := rfl
set_option maxRecDepth 100000 in
theorem g_X12_count_124 (S : sT) (call : cT) (n : Nat) (a0 : Nat) (x1 : Int32) (x2 : Int32) (o3 : Option Value) (h : pH) : bd S call dflT E_X12_count (n + 1) 124 [some (.ref a0), some (.int x1), some (.int x2), o3] [] h = (gV h (.ref a0) 15 1 (fun w1 => aI h w1 0 1683 (fun y2 => some (.inl (some (.int y2)), h)))) := rfl
set_option maxRecDepth 100000 in
theorem g_X12_count_133 (S : sT) (call : cT) (n : Nat) (a0 : Nat) (x1 : Int32) (x2 : Int32) (o3 : Option Value) (h : pH) : bd S call dflT E_X12_count (n + 1) 133 [some (.ref a0), some (.int x1), some (.int x2), o3] [] h = (bd S call dflT E_X12_count n 135 [some (.ref a0), some (.int x1), some (.int x2), some (.int 0)] [] h) := rfl
set_option maxRecDepth 100000 in
theorem g_X12_count_135 (S : sT) (call : cT) (n : Nat) (a0 : Nat) (x1 : Int32) (x2 : Int32) (x3 : Int32) (h : pH) : bd S call dflT E_X12_count (n + 1) 135 [some (.ref a0), some (.int x1), some (.int x2), some (.int x3)] [] h = (gV h (.ref a0) 15 1 (fun w1 => aI h w1 0 1683 (fun y2 => (if y2 ≤ x3 then some (.inl (some (.int x2)), h) else rC h (.ref a0) 15 (cI (call 172 [.ref a0, .int x3] h) (fun y4 h3 => (if y4 ≤ 0 then bd S call dflT E_X12_count n 135 [some (.ref a0), some (.int x1), some (.int (x2 + 0)), some (.int (x3 + 1))] [] h3 else bd S call dflT E_X12_count n 135 [some (.ref a0), some (.int x1), some (.int (x2 + 1)), some (.int (x3 + 1))] [] h3))))))) := rfl
set_option maxRecDepth 100000 in
theorem g_X12_count_171 (S : sT) (call : cT) (n : Nat) (a0 : Nat) (x1 : Int32) (x2 : Int32) (o3 : Option Value) (h : pH) : bd S call dflT E_X12_count (n + 1) 171 [some (.ref a0), some (.int x1), some (.int x2), o3] [] h = (rC h (.ref a0) 15 (cI (call 384 [.ref a0, .int 2] h) (fun y2 h1 => some (.inl (some (.int y2)), h1)))) := rfl
set_option maxRecDepth 100000 in
theorem g_X12_count_177 (S : sT) (call : cT) (n : Nat) (a0 : Nat) (x1 : Int32) (x2 : Int32) (o3 : Option Value) (h : pH) : bd S call dflT E_X12_count (n + 1) 177 [some (.ref a0), some (.int x1), some (.int x2), o3] [] h = (rC h (.ref a0) 15 (cI (call 384 [.ref a0, .int 3] h) (fun y2 h1 => some (.inl (some (.int y2)), h1)))) := rfl
set_option maxRecDepth 100000 in
theorem g_X12_count_183 (S : sT) (call : cT) (n : Nat) (a0 : Nat) (x1 : Int32) (x2 : Int32) (o3 : Option Value) (h : pH) : bd S call dflT E_X12_count (n + 1) 183 [some (.ref a0), some (.int x1), some (.int x2), o3] [] h = (gV h (.ref a0) 15 1 (fun w1 => aI h w1 0 2650 (fun y2 => some (.inl (some (.int y2)), h)))) := rfl
set_option maxRecDepth 100000 in
theorem g_X12_count_192 (S : sT) (call : cT) (n : Nat) (a0 : Nat) (x1 : Int32) (x2 : Int32) (o3 : Option Value) (h : pH) : bd S call dflT E_X12_count (n + 1) 192 [some (.ref a0), some (.int x1), some (.int x2), o3] [] h = (rC h (.ref a0) 15 (cI (call 385 [.ref a0] h) (fun y2 h1 => some (.inl (some (.int y2)), h1)))) := rfl
set_option maxRecDepth 100000 in
theorem g_X12_count_197 (S : sT) (call : cT) (n : Nat) (a0 : Nat) (x1 : Int32) (x2 : Int32) (o3 : Option Value) (h : pH) : bd S call dflT E_X12_count (n + 1) 197 [some (.ref a0), some (.int x1), some (.int x2), o3] [] h = (gV h (.ref a0) 15 1 (fun w1 => aI h w1 0 1948 (fun y2 => some (.inl (some (.int y2)), h)))) := rfl
set_option maxRecDepth 100000 in
theorem g_X12_count_206 (S : sT) (call : cT) (n : Nat) (a0 : Nat) (x1 : Int32) (x2 : Int32) (o3 : Option Value) (h : pH) : bd S call dflT E_X12_count (n + 1) 206 [some (.ref a0), some (.int x1), some (.int x2), o3] [] h = (rC h (.ref a0) 15 (cI (call 305 [.ref a0] h) (fun y2 h1 => some (.inl (some (.int y2)), h1)))) := rfl
set_option maxRecDepth 100000 in
theorem g_X12_count_211 (S : sT) (call : cT) (n : Nat) (a0 : Nat) (x1 : Int32) (x2 : Int32) (o3 : Option Value) (h : pH) : bd S call dflT E_X12_count (n + 1) 211 [some (.ref a0), some (.int x1), some (.int x2), o3] [] h = (gV h (.ref a0) 15 1 (fun w1 => aI h w1 0 5 (fun y2 => some (.inl (some (.int y2)), h)))) := rfl
set_option maxRecDepth 100000 in
theorem g_X12_count_218 (S : sT) (call : cT) (n : Nat) (a0 : Nat) (x1 : Int32) (x2 : Int32) (o3 : Option Value) (h : pH) : bd S call dflT E_X12_count (n + 1) 218 [some (.ref a0), some (.int x1), some (.int x2), o3] [] h = (gV h (.ref a0) 15 1 (fun w1 => aI h w1 0 6 (fun y2 => some (.inl (some (.int y2)), h)))) := rfl
set_option maxRecDepth 100000 in
theorem g_X12_count_226 (S : sT) (call : cT) (n : Nat) (a0 : Nat) (x1 : Int32) (x2 : Int32) (o3 : Option Value) (h : pH) : bd S call dflT E_X12_count (n + 1) 226 [some (.ref a0), some (.int x1), some (.int x2), o3] [] h = (bd S call dflT E_X12_count n 228 [some (.ref a0), some (.int x1), some (.int x2), some (.int 0)] [] h) := rfl
set_option maxRecDepth 100000 in
theorem g_X12_count_228 (S : sT) (call : cT) (n : Nat) (a0 : Nat) (x1 : Int32) (x2 : Int32) (x3 : Int32) (h : pH) : bd S call dflT E_X12_count (n + 1) 228 [some (.ref a0), some (.int x1), some (.int x2), some (.int x3)] [] h = ((if 48 ≤ x3 then some (.inl (some (.int x2)), h) else rC h (.ref a0) 15 (cI (call 31 [.ref a0, .int x3, .int 11] h) (fun y2 h1 => bd S call dflT E_X12_count n 228 [some (.ref a0), some (.int x1), some (.int (x2 + y2)), some (.int (x3 + 1))] [] h1)))) := rfl
set_option maxRecDepth 100000 in
theorem g_X12_count_252 (S : sT) (call : cT) (n : Nat) (a0 : Nat) (x1 : Int32) (x2 : Int32) (o3 : Option Value) (h : pH) : bd S call dflT E_X12_count (n + 1) 252 [some (.ref a0), some (.int x1), some (.int x2), o3] [] h = (gV h (.ref a0) 15 1 (fun w1 => aI h w1 0 3 (fun y2 => some (.inl (some (.int y2)), h)))) := rfl
set_option maxRecDepth 100000 in
theorem g_X12_count_259 (S : sT) (call : cT) (n : Nat) (a0 : Nat) (x1 : Int32) (x2 : Int32) (o3 : Option Value) (h : pH) : bd S call dflT E_X12_count (n + 1) 259 [some (.ref a0), some (.int x1), some (.int x2), o3] [] h = (gV h (.ref a0) 15 1 (fun w1 => aI h w1 0 4 (fun y2 => some (.inl (some (.int y2)), h)))) := rfl
set_option maxRecDepth 100000 in
theorem g_X12_count_266 (S : sT) (call : cT) (n : Nat) (a0 : Nat) (x1 : Int32) (x2 : Int32) (o3 : Option Value) (h : pH) : bd S call dflT E_X12_count (n + 1) 266 [some (.ref a0), some (.int x1), some (.int x2), o3] [] h = (gV h (.ref a0) 15 1 (fun w1 => aI h w1 0 2265 (fun y2 => some (.inl (some (.int y2)), h)))) := rfl
set_option maxRecDepth 100000 in
theorem g_X12_count_275 (S : sT) (call : cT) (n : Nat) (a0 : Nat) (x1 : Int32) (x2 : Int32) (o3 : Option Value) (h : pH) : bd S call dflT E_X12_count (n + 1) 275 [some (.ref a0), some (.int x1), some (.int x2), o3] [] h = (gV h (.ref a0) 15 1 (fun w1 => aI h w1 0 7 (fun y2 => some (.inl (some (.int y2)), h)))) := rfl
set_option maxRecDepth 100000 in
theorem g_X12_count_283 (S : sT) (call : cT) (n : Nat) (a0 : Nat) (x1 : Int32) (x2 : Int32) (o3 : Option Value) (h : pH) : bd S call dflT E_X12_count (n + 1) 283 [some (.ref a0), some (.int x1), some (.int x2), o3] [] h = (some (.inl (some (.int (-1))), h)) := rfl
