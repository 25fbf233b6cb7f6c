/-! by program: methods as data, that they are right, what their bodies do -/
theorem dX12_at_0 : decode cX12_at 0 = .ok (.bipush 8, 2) := by decide +kernel
theorem dX12_at_2 : decode cX12_at 2 = .ok (.bipush 14, 2) := by decide +kernel
theorem dX12_at_4 : decode cX12_at 4 = .ok (.iload_n 0, 1) := by decide +kernel
theorem dX12_at_5 : decode cX12_at 5 = .ok (.imul, 1) := by decide +kernel
theorem dX12_at_6 : decode cX12_at 6 = .ok (.iadd, 1) := by decide +kernel
theorem dX12_at_7 : decode cX12_at 7 = .ok (.iload_n 1, 1) := by decide +kernel
theorem dX12_at_8 : decode cX12_at 8 = .ok (.iadd, 1) := by decide +kernel
theorem dX12_at_9 : decode cX12_at 9 = .ok (.ireturn, 1) := by decide +kernel
noncomputable def E_X12_at : mE := (mX12_at, [(9, [(0, (.bipush 8, 2, false, false, 0, 0, 0, 0, 8, 0, [])), (2, (.bipush 14, 4, false, false, 0, 0, 0, 0, 14, 0, [])), (4, (.iload_n 0, 5, false, false, 0, 0, 0, 0, 0, 0, [])), (5, (.imul, 6, false, false, 0, 0, 0, 0, 0, 0, [])), (6, (.iadd, 7, false, false, 0, 0, 0, 0, 0, 0, [])), (7, (.iload_n 1, 8, false, false, 1, 0, 0, 0, 0, 0, [])), (8, (.iadd, 9, false, false, 0, 0, 0, 0, 0, 0, [])), (9, (.ireturn, 10, false, false, 0, 0, 0, 0, 0, 0, []))])], 0, [])
set_option maxRecDepth 100000 in
theorem v_X12_at : VE MYT dflT E_X12_at := ⟨⟨⟨⟨⟨dX12_at_0, rfl⟩, rfl⟩, ⟨⟨dX12_at_2, rfl⟩, rfl⟩, ⟨⟨dX12_at_4, rfl⟩, rfl⟩, ⟨⟨dX12_at_5, rfl⟩, trivial⟩, ⟨⟨dX12_at_6, rfl⟩, trivial⟩, ⟨⟨dX12_at_7, rfl⟩, rfl⟩, ⟨⟨dX12_at_8, rfl⟩, trivial⟩, ⟨⟨dX12_at_9, rfl⟩, Or.inl ⟨rfl, rfl⟩⟩, trivial⟩, trivial⟩, by decide, Or.inl ⟨rfl, by decide, rfl⟩⟩
set_option maxRecDepth 100000 in
theorem g_X12_at_0 (S : sT) (call : cT) (n : Nat) (x0 : Int32) (x1 : Int32) (h : pH) : bd S call dflT E_X12_at (n + 1) 0 [some (.int x0), some (.int x1)] [] h = (some (.inl (some (.int ((8 + (14 * x0)) + x1))), h)) := rfl
theorem dX12_init_0 : decode cX12_init 0 = .ok (.aload_n 0, 1) := by decide +kernel
theorem dX12_init_1 : decode cX12_init 1 = .ok (.invokespecial 20, 3) := by decide +kernel
theorem dX12_init_4 : decode cX12_init 4 = .ok (.aload_n 0, 1) := by decide +kernel
theorem dX12_init_5 : decode cX12_init 5 = .ok (.ldc 26, 2) := by decide +kernel
theorem dX12_init_7 : decode cX12_init 7 = .ok (.newarray .int, 2) := by decide +kernel
theorem dX12_init_9 : decode cX12_init 9 = .ok (.putfield 27, 3) := by decide +kernel
theorem dX12_init_12 : decode cX12_init 12 = .ok (.aload_n 0, 1) := by decide +kernel
theorem dX12_init_13 : decode cX12_init 13 = .ok (.ldc 31, 2) := by decide +kernel
theorem dX12_init_15 : decode cX12_init 15 = .ok (.newarray .int, 2) := by decide +kernel
theorem dX12_init_17 : decode cX12_init 17 = .ok (.putfield 32, 3) := by decide +kernel
theorem dX12_init_20 : decode cX12_init 20 = .ok (.aload_n 0, 1) := by decide +kernel
theorem dX12_init_21 : decode cX12_init 21 = .ok (.sipush 400, 3) := by decide +kernel
theorem dX12_init_24 : decode cX12_init 24 = .ok (.newarray .byte, 2) := by decide +kernel
theorem dX12_init_26 : decode cX12_init 26 = .ok (.putfield 35, 3) := by decide +kernel
theorem dX12_init_29 : decode cX12_init 29 = .ok (.aload_n 0, 1) := by decide +kernel
theorem dX12_init_30 : decode cX12_init 30 = .ok (.iconst (-1), 1) := by decide +kernel
theorem dX12_init_31 : decode cX12_init 31 = .ok (.putfield 39, 3) := by decide +kernel
theorem dX12_init_34 : decode cX12_init 34 = .ok (.aload_n 0, 1) := by decide +kernel
theorem dX12_init_35 : decode cX12_init 35 = .ok (.iconst 5, 1) := by decide +kernel
theorem dX12_init_36 : decode cX12_init 36 = .ok (.newarray .int, 2) := by decide +kernel
theorem dX12_init_38 : decode cX12_init 38 = .ok (.putfield 42, 3) := by decide +kernel
theorem dX12_init_41 : decode cX12_init 41 = .ok (.aload_n 0, 1) := by decide +kernel
theorem dX12_init_42 : decode cX12_init 42 = .ok (.sipush 400, 3) := by decide +kernel
theorem dX12_init_45 : decode cX12_init 45 = .ok (.newarray .long, 2) := by decide +kernel
theorem dX12_init_47 : decode cX12_init 47 = .ok (.putfield 45, 3) := by decide +kernel
theorem dX12_init_50 : decode cX12_init 50 = .ok (.aload_n 0, 1) := by decide +kernel
theorem dX12_init_51 : decode cX12_init 51 = .ok (.bipush 11, 2) := by decide +kernel
theorem dX12_init_53 : decode cX12_init 53 = .ok (.newarray .long, 2) := by decide +kernel
theorem dX12_init_55 : decode cX12_init 55 = .ok (.putfield 49, 3) := by decide +kernel
theorem dX12_init_58 : decode cX12_init 58 = .ok (.aload_n 0, 1) := by decide +kernel
theorem dX12_init_59 : decode cX12_init 59 = .ok (.bipush 12, 2) := by decide +kernel
theorem dX12_init_61 : decode cX12_init 61 = .ok (.newarray .int, 2) := by decide +kernel
theorem dX12_init_63 : decode cX12_init 63 = .ok (.putfield 52, 3) := by decide +kernel
theorem dX12_init_66 : decode cX12_init 66 = .ok (.aload_n 0, 1) := by decide +kernel
theorem dX12_init_67 : decode cX12_init 67 = .ok (.bipush 24, 2) := by decide +kernel
theorem dX12_init_69 : decode cX12_init 69 = .ok (.newarray .boolean, 2) := by decide +kernel
theorem dX12_init_71 : decode cX12_init 71 = .ok (.putfield 55, 3) := by decide +kernel
theorem dX12_init_74 : decode cX12_init 74 = .ok (.iconst 0, 1) := by decide +kernel
theorem dX12_init_75 : decode cX12_init 75 = .ok (.istore_n 1, 1) := by decide +kernel
theorem dX12_init_76 : decode cX12_init 76 = .ok (.iload_n 1, 1) := by decide +kernel
theorem dX12_init_77 : decode cX12_init 77 = .ok (.bipush 48, 2) := by decide +kernel
theorem dX12_init_79 : decode cX12_init 79 = .ok (.if_icmp .ge 32, 3) := by decide +kernel
theorem dX12_init_82 : decode cX12_init 82 = .ok (.aload_n 0, 1) := by decide +kernel
theorem dX12_init_83 : decode cX12_init 83 = .ok (.getfield 27, 3) := by decide +kernel
theorem dX12_init_86 : decode cX12_init 86 = .ok (.iload_n 1, 1) := by decide +kernel
theorem dX12_init_87 : decode cX12_init 87 = .ok (.iconst 0, 1) := by decide +kernel
theorem dX12_init_88 : decode cX12_init 88 = .ok (.invokestatic 59, 3) := by decide +kernel
theorem dX12_init_91 : decode cX12_init 91 = .ok (.iconst 5, 1) := by decide +kernel
theorem dX12_init_92 : decode cX12_init 92 = .ok (.iastore, 1) := by decide +kernel
theorem dX12_init_93 : decode cX12_init 93 = .ok (.aload_n 0, 1) := by decide +kernel
theorem dX12_init_94 : decode cX12_init 94 = .ok (.getfield 27, 3) := by decide +kernel
theorem dX12_init_97 : decode cX12_init 97 = .ok (.iload_n 1, 1) := by decide +kernel
theorem dX12_init_98 : decode cX12_init 98 = .ok (.bipush 10, 2) := by decide +kernel
theorem dX12_init_100 : decode cX12_init 100 = .ok (.invokestatic 59, 3) := by decide +kernel
theorem dX12_init_103 : decode cX12_init 103 = .ok (.iconst (-1), 1) := by decide +kernel
theorem dX12_init_104 : decode cX12_init 104 = .ok (.iastore, 1) := by decide +kernel
theorem dX12_init_105 : decode cX12_init 105 = .ok (.iinc 1 1, 3) := by decide +kernel
theorem dX12_init_108 : decode cX12_init 108 = .ok (.goto (-32), 3) := by decide +kernel
theorem dX12_init_111 : decode cX12_init 111 = .ok (.iconst 0, 1) := by decide +kernel
theorem dX12_init_112 : decode cX12_init 112 = .ok (.istore_n 1, 1) := by decide +kernel
theorem dX12_init_113 : decode cX12_init 113 = .ok (.iload_n 1, 1) := by decide +kernel
theorem dX12_init_114 : decode cX12_init 114 = .ok (.bipush 101, 2) := by decide +kernel
theorem dX12_init_116 : decode cX12_init 116 = .ok (.if_icmp .ge 24, 3) := by decide +kernel
theorem dX12_init_119 : decode cX12_init 119 = .ok (.aload_n 0, 1) := by decide +kernel
theorem dX12_init_120 : decode cX12_init 120 = .ok (.getfield 27, 3) := by decide +kernel
theorem dX12_init_123 : decode cX12_init 123 = .ok (.sipush 680, 3) := by decide +kernel
theorem dX12_init_126 : decode cX12_init 126 = .ok (.iconst 2, 1) := by decide +kernel
theorem dX12_init_127 : decode cX12_init 127 = .ok (.iload_n 1, 1) := by decide +kernel
theorem dX12_init_128 : decode cX12_init 128 = .ok (.imul, 1) := by decide +kernel
theorem dX12_init_129 : decode cX12_init 129 = .ok (.iadd, 1) := by decide +kernel
theorem dX12_init_130 : decode cX12_init 130 = .ok (.iconst 1, 1) := by decide +kernel
theorem dX12_init_131 : decode cX12_init 131 = .ok (.iadd, 1) := by decide +kernel
theorem dX12_init_132 : decode cX12_init 132 = .ok (.iconst 1, 1) := by decide +kernel
theorem dX12_init_133 : decode cX12_init 133 = .ok (.iastore, 1) := by decide +kernel
theorem dX12_init_134 : decode cX12_init 134 = .ok (.iinc 1 1, 3) := by decide +kernel
theorem dX12_init_137 : decode cX12_init 137 = .ok (.goto (-24), 3) := by decide +kernel
theorem dX12_init_140 : decode cX12_init 140 = .ok (.return_, 1) := by decide +kernel
noncomputable def E_X12_init : mE := (mX12_init, [(45, [(0, (.aload_n 0, 1, false, false, 0, 0, 0, 0, 0, 0, [])), (1, (.invokespecial 20, 4, false, false, 0, 0, 0, 1, 0, 0, [])), (4, (.aload_n 0, 5, false, false, 0, 0, 0, 0, 0, 0, [])), (5, (.ldc 26, 7, false, false, 0, 0, 0, 0, 35877, 0, [])), (7, (.newarray .int, 9, true, false, 0, 0, 0, 0, 0, 0, [])), (9, (.putfield 27, 12, false, false, 15, 1, 4, 0, 0, 0, [])), (12, (.aload_n 0, 13, false, false, 0, 0, 0, 0, 0, 0, [])), (13, (.ldc 31, 15, false, false, 0, 0, 0, 0, 34979, 0, [])), (15, (.newarray .int, 17, true, false, 0, 0, 0, 0, 0, 0, [])), (17, (.putfield 32, 20, false, false, 15, 2, 4, 0, 0, 0, [])), (20, (.aload_n 0, 21, false, false, 0, 0, 0, 0, 0, 0, [])), (21, (.sipush 400, 24, false, false, 0, 0, 0, 0, 400, 0, [])), (24, (.newarray .byte, 26, true, false, 0, 0, 1, 0, 0, 0, [])), (26, (.putfield 35, 29, false, false, 15, 4, 4, 0, 0, 0, [])), (29, (.aload_n 0, 30, false, false, 0, 0, 0, 0, 0, 0, [])), (30, (.iconst (-1), 31, false, false, 0, 0, 0, 0, -1, 0, [])), (31, (.putfield 39, 34, false, false, 15, 10, 0, 0, 0, 0, [])), (34, (.aload_n 0, 35, false, false, 0, 0, 0, 0, 0, 0, [])), (35, (.iconst 5, 36, false, false, 0, 0, 0, 0, 5, 0, [])), (36, (.newarray .int, 38, true, false, 0, 0, 0, 0, 0, 0, [])), (38, (.putfield 42, 41, false, false, 15, 11, 4, 0, 0, 0, [])), (41, (.aload_n 0, 42, false, false, 0, 0, 0, 0, 0, 0, [])), (42, (.sipush 400, 45, false, false, 0, 0, 0, 0, 400, 0, [])), (45, (.newarray .long, 47, true, false, 0, 0, 3, 0, 0, 0, []))]),
  (91, [(47, (.putfield 45, 50, false, false, 15, 13, 4, 0, 0, 0, [])), (50, (.aload_n 0, 51, false, false, 0, 0, 0, 0, 0, 0, [])), (51, (.bipush 11, 53, false, false, 0, 0, 0, 0, 11, 0, [])), (53, (.newarray .long, 55, true, false, 0, 0, 3, 0, 0, 0, [])), (55, (.putfield 49, 58, false, false, 15, 14, 4, 0, 0, 0, [])), (58, (.aload_n 0, 59, false, false, 0, 0, 0, 0, 0, 0, [])), (59, (.bipush 12, 61, false, false, 0, 0, 0, 0, 12, 0, [])), (61, (.newarray .int, 63, true, false, 0, 0, 0, 0, 0, 0, [])), (63, (.putfield 52, 66, false, false, 15, 15, 4, 0, 0, 0, [])), (66, (.aload_n 0, 67, false, false, 0, 0, 0, 0, 0, 0, [])), (67, (.bipush 24, 69, false, false, 0, 0, 0, 0, 24, 0, [])), (69, (.newarray .boolean, 71, true, false, 0, 0, 2, 0, 0, 0, [])), (71, (.putfield 55, 74, false, false, 15, 17, 4, 0, 0, 0, [])), (74, (.iconst 0, 75, false, false, 0, 0, 0, 0, 0, 0, [])), (75, (.istore_n 1, 76, true, false, 1, 0, 0, 0, 0, 0, [])), (76, (.iload_n 1, 77, false, false, 1, 0, 0, 0, 0, 0, [])), (77, (.bipush 48, 79, false, false, 0, 0, 0, 0, 48, 0, [])), (79, (.if_icmp .ge 32, 82, false, false, 111, 0, 0, 0, 0, 0, [])), (82, (.aload_n 0, 83, false, false, 0, 0, 0, 0, 0, 0, [])), (83, (.getfield 27, 86, false, false, 15, 1, 1, 0, 0, 0, [])), (86, (.iload_n 1, 87, false, false, 1, 0, 0, 0, 0, 0, [])), (87, (.iconst 0, 88, false, false, 0, 0, 0, 0, 0, 0, [])), (88, (.invokestatic 59, 91, false, false, 12, 2, 1, 0, 0, 0, [])), (91, (.iconst 5, 92, false, false, 0, 0, 0, 0, 5, 0, []))]),
  (131, [(92, (.iastore, 93, false, false, 0, 0, 0, 0, 0, 0, [])), (93, (.aload_n 0, 94, false, false, 0, 0, 0, 0, 0, 0, [])), (94, (.getfield 27, 97, false, false, 15, 1, 1, 0, 0, 0, [])), (97, (.iload_n 1, 98, false, false, 1, 0, 0, 0, 0, 0, [])), (98, (.bipush 10, 100, false, false, 0, 0, 0, 0, 10, 0, [])), (100, (.invokestatic 59, 103, false, false, 12, 2, 1, 0, 0, 0, [])), (103, (.iconst (-1), 104, false, false, 0, 0, 0, 0, -1, 0, [])), (104, (.iastore, 105, false, false, 0, 0, 0, 0, 0, 0, [])), (105, (.iinc 1 1, 108, false, false, 1, 0, 0, 0, 1, 0, [])), (108, (.goto (-32), 111, false, true, 76, 0, 0, 0, 0, 0, [])), (111, (.iconst 0, 112, false, false, 0, 0, 0, 0, 0, 0, [])), (112, (.istore_n 1, 113, true, false, 1, 0, 0, 0, 0, 0, [])), (113, (.iload_n 1, 114, false, false, 1, 0, 0, 0, 0, 0, [])), (114, (.bipush 101, 116, false, false, 0, 0, 0, 0, 101, 0, [])), (116, (.if_icmp .ge 24, 119, false, false, 140, 0, 0, 0, 0, 0, [])), (119, (.aload_n 0, 120, false, false, 0, 0, 0, 0, 0, 0, [])), (120, (.getfield 27, 123, false, false, 15, 1, 1, 0, 0, 0, [])), (123, (.sipush 680, 126, false, false, 0, 0, 0, 0, 680, 0, [])), (126, (.iconst 2, 127, false, false, 0, 0, 0, 0, 2, 0, [])), (127, (.iload_n 1, 128, false, false, 1, 0, 0, 0, 0, 0, [])), (128, (.imul, 129, false, false, 0, 0, 0, 0, 0, 0, [])), (129, (.iadd, 130, false, false, 0, 0, 0, 0, 0, 0, [])), (130, (.iconst 1, 131, false, false, 0, 0, 0, 0, 1, 0, [])), (131, (.iadd, 132, false, false, 0, 0, 0, 0, 0, 0, []))]),
  (140, [(132, (.iconst 1, 133, false, false, 0, 0, 0, 0, 1, 0, [])), (133, (.iastore, 134, false, false, 0, 0, 0, 0, 0, 0, [])), (134, (.iinc 1 1, 137, false, false, 1, 0, 0, 0, 1, 0, [])), (137, (.goto (-24), 140, false, true, 113, 0, 0, 0, 0, 0, [])), (140, (.return_, 141, false, false, 0, 0, 0, 0, 0, 0, []))])], 0, [])
set_option maxRecDepth 100000 in
theorem v_X12_init : VE MYT dflT E_X12_init := ⟨⟨⟨⟨⟨dX12_init_0, rfl⟩, rfl⟩, ⟨⟨dX12_init_1, rfl⟩, Or.inr ⟨rfl, oX12_20, o_1, o_2⟩⟩, ⟨⟨dX12_init_4, rfl⟩, rfl⟩, ⟨⟨dX12_init_5, rfl⟩, Or.inl ⟨rfl, kX12_26⟩⟩, ⟨⟨dX12_init_7, rfl⟩, Or.inl ⟨rfl, rfl, a_int⟩⟩, ⟨⟨dX12_init_9, rfl⟩, Or.inr (Or.inr (Or.inr (Or.inr ⟨rfl, ⟨_, (Or.inr ⟨_, rfl⟩), fX12_27⟩, rfl, rfl⟩)))⟩, ⟨⟨dX12_init_12, rfl⟩, rfl⟩, ⟨⟨dX12_init_13, rfl⟩, Or.inl ⟨rfl, kX12_31⟩⟩, ⟨⟨dX12_init_15, rfl⟩, Or.inl ⟨rfl, rfl, a_int⟩⟩, ⟨⟨dX12_init_17, rfl⟩, Or.inr (Or.inr (Or.inr (Or.inr ⟨rfl, ⟨_, (Or.inr ⟨_, rfl⟩), fX12_32⟩, rfl, rfl⟩)))⟩, ⟨⟨dX12_init_20, rfl⟩, rfl⟩, ⟨⟨dX12_init_21, rfl⟩, rfl⟩, ⟨⟨dX12_init_24, rfl⟩, Or.inr (Or.inl ⟨rfl, rfl, a_byte⟩)⟩, ⟨⟨dX12_init_26, rfl⟩, Or.inr (Or.inr (Or.inr (Or.inr ⟨rfl, ⟨_, (Or.inr ⟨_, rfl⟩), fX12_35⟩, rfl, rfl⟩)))⟩, ⟨⟨dX12_init_29, rfl⟩, rfl⟩, ⟨⟨dX12_init_30, rfl⟩, rfl⟩, ⟨⟨dX12_init_31, rfl⟩, Or.inl ⟨rfl, fX12_39⟩⟩, ⟨⟨dX12_init_34, rfl⟩, rfl⟩, ⟨⟨dX12_init_35, rfl⟩, rfl⟩, ⟨⟨dX12_init_36, rfl⟩, Or.inl ⟨rfl, rfl, a_int⟩⟩, ⟨⟨dX12_init_38, rfl⟩, Or.inr (Or.inr (Or.inr (Or.inr ⟨rfl, ⟨_, (Or.inr ⟨_, rfl⟩), fX12_42⟩, rfl, rfl⟩)))⟩, ⟨⟨dX12_init_41, rfl⟩, rfl⟩, ⟨⟨dX12_init_42, rfl⟩, rfl⟩, ⟨⟨dX12_init_45, rfl⟩, Or.inr (Or.inr (Or.inr ⟨rfl, rfl, a_long⟩))⟩, trivial⟩,
  ⟨⟨⟨dX12_init_47, rfl⟩, Or.inr (Or.inr (Or.inr (Or.inr ⟨rfl, ⟨_, (Or.inr ⟨_, rfl⟩), fX12_45⟩, rfl, rfl⟩)))⟩, ⟨⟨dX12_init_50, rfl⟩, rfl⟩, ⟨⟨dX12_init_51, rfl⟩, rfl⟩, ⟨⟨dX12_init_53, rfl⟩, Or.inr (Or.inr (Or.inr ⟨rfl, rfl, a_long⟩))⟩, ⟨⟨dX12_init_55, rfl⟩, Or.inr (Or.inr (Or.inr (Or.inr ⟨rfl, ⟨_, (Or.inr ⟨_, rfl⟩), fX12_49⟩, rfl, rfl⟩)))⟩, ⟨⟨dX12_init_58, rfl⟩, rfl⟩, ⟨⟨dX12_init_59, rfl⟩, rfl⟩, ⟨⟨dX12_init_61, rfl⟩, Or.inl ⟨rfl, rfl, a_int⟩⟩, ⟨⟨dX12_init_63, rfl⟩, Or.inr (Or.inr (Or.inr (Or.inr ⟨rfl, ⟨_, (Or.inr ⟨_, rfl⟩), fX12_52⟩, rfl, rfl⟩)))⟩, ⟨⟨dX12_init_66, rfl⟩, rfl⟩, ⟨⟨dX12_init_67, rfl⟩, rfl⟩, ⟨⟨dX12_init_69, rfl⟩, Or.inr (Or.inr (Or.inl ⟨rfl, rfl, a_boolean⟩))⟩, ⟨⟨dX12_init_71, rfl⟩, Or.inr (Or.inr (Or.inr (Or.inr ⟨rfl, ⟨_, (Or.inr ⟨_, rfl⟩), fX12_55⟩, rfl, rfl⟩)))⟩, ⟨⟨dX12_init_74, rfl⟩, rfl⟩, ⟨⟨dX12_init_75, rfl⟩, rfl⟩, ⟨⟨dX12_init_76, rfl⟩, rfl⟩, ⟨⟨dX12_init_77, rfl⟩, rfl⟩, ⟨⟨dX12_init_79, rfl⟩, rfl⟩, ⟨⟨dX12_init_82, rfl⟩, rfl⟩, ⟨⟨dX12_init_83, rfl⟩, Or.inl ⟨by decide, _, _, fX12_27⟩⟩, ⟨⟨dX12_init_86, rfl⟩, rfl⟩, ⟨⟨dX12_init_87, rfl⟩, rfl⟩, ⟨⟨dX12_init_88, rfl⟩, Or.inl ⟨rfl, _, my_12, sX12_59⟩⟩, ⟨⟨dX12_init_91, rfl⟩, rfl⟩, trivial⟩,
  ⟨⟨⟨dX12_init_92, rfl⟩, trivial⟩, ⟨⟨dX12_init_93, rfl⟩, rfl⟩, ⟨⟨dX12_init_94, rfl⟩, Or.inl ⟨by decide, _, _, fX12_27⟩⟩, ⟨⟨dX12_init_97, rfl⟩, rfl⟩, ⟨⟨dX12_init_98, rfl⟩, rfl⟩, ⟨⟨dX12_init_100, rfl⟩, Or.inl ⟨rfl, _, my_12, sX12_59⟩⟩, ⟨⟨dX12_init_103, rfl⟩, rfl⟩, ⟨⟨dX12_init_104, rfl⟩, trivial⟩, ⟨⟨dX12_init_105, rfl⟩, ⟨rfl, rfl⟩⟩, ⟨⟨dX12_init_108, rfl⟩, rfl⟩, ⟨⟨dX12_init_111, rfl⟩, rfl⟩, ⟨⟨dX12_init_112, rfl⟩, rfl⟩, ⟨⟨dX12_init_113, rfl⟩, rfl⟩, ⟨⟨dX12_init_114, rfl⟩, rfl⟩, ⟨⟨dX12_init_116, rfl⟩, rfl⟩, ⟨⟨dX12_init_119, rfl⟩, rfl⟩, ⟨⟨dX12_init_120, rfl⟩, Or.inl ⟨by decide, _, _, fX12_27⟩⟩, ⟨⟨dX12_init_123, rfl⟩, rfl⟩, ⟨⟨dX12_init_126, rfl⟩, rfl⟩, ⟨⟨dX12_init_127, rfl⟩, rfl⟩, ⟨⟨dX12_init_128, rfl⟩, trivial⟩, ⟨⟨dX12_init_129, rfl⟩, trivial⟩, ⟨⟨dX12_init_130, rfl⟩, rfl⟩, ⟨⟨dX12_init_131, rfl⟩, trivial⟩, trivial⟩,
  ⟨⟨⟨dX12_init_132, rfl⟩, rfl⟩, ⟨⟨dX12_init_133, rfl⟩, trivial⟩, ⟨⟨dX12_init_134, rfl⟩, ⟨rfl, rfl⟩⟩, ⟨⟨dX12_init_137, rfl⟩, rfl⟩, ⟨⟨dX12_init_140, rfl⟩, rfl⟩, trivial⟩, trivial⟩, by decide, Or.inl ⟨rfl, by decide, rfl⟩⟩
set_option maxRecDepth 100000 in
theorem g_X12_init_0 (S : sT) (call : cT) (n : Nat) (a0 : Nat) (h : pH) : bd S call dflT E_X12_init (n + 1) 0 [some (.ref a0), none] [] h = (mkI h 0 35877 (fun h1 => bd S call dflT E_X12_init n 9 [some (.ref a0), none] [.ref (List.length h), .ref a0] h1)) := rfl
set_option maxRecDepth 100000 in
theorem g_X12_init_9 (S : sT) (call : cT) (n : Nat) (a0 : Nat) (o1 : Option Value) (u0 : Value) (u1 : Value) (h : pH) : bd S call dflT E_X12_init (n + 1) 9 [some (.ref a0), o1] [u1, u0] h = (iA u1 (pF h u0 15 1 (u1) (fun h1 => mkI h1 0 34979 (fun h2 => bd S call dflT E_X12_init n 17 [some (.ref a0), o1] [.ref (List.length h1), .ref a0] h2)))) := rfl
set_option maxRecDepth 100000 in
theorem g_X12_init_17 (S : sT) (call : cT) (n : Nat) (a0 : Nat) (o1 : Option Value) (u0 : Value) (u1 : Value) (h : pH) : bd S call dflT E_X12_init (n + 1) 17 [some (.ref a0), o1] [u1, u0] h = (iA u1 (pF h u0 15 2 (u1) (fun h1 => mkI h1 1 400 (fun h2 => bd S call dflT E_X12_init n 26 [some (.ref a0), o1] [.ref (List.length h1), .ref a0] h2)))) := rfl
set_option maxRecDepth 100000 in
theorem g_X12_init_26 (S : sT) (call : cT) (n : Nat) (a0 : Nat) (o1 : Option Value) (u0 : Value) (u1 : Value) (h : pH) : bd S call dflT E_X12_init (n + 1) 26 [some (.ref a0), o1] [u1, u0] h = (iA u1 (pF h u0 15 4 (u1) (fun h1 => pF h1 (.ref a0) 15 10 (.int (-1)) (fun h2 => mkI h2 0 5 (fun h3 => bd S call dflT E_X12_init n 38 [some (.ref a0), o1] [.ref (List.length h2), .ref a0] h3))))) := rfl
set_option maxRecDepth 100000 in
theorem g_X12_init_38 (S : sT) (call : cT) (n : Nat) (a0 : Nat) (o1 : Option Value) (u0 : Value) (u1 : Value) (h : pH) : bd S call dflT E_X12_init (n + 1) 38 [some (.ref a0), o1] [u1, u0] h = (iA u1 (pF h u0 15 11 (u1) (fun h1 => mkJ h1 400 (fun h2 => bd S call dflT E_X12_init n 47 [some (.ref a0), o1] [.ref (List.length h1), .ref a0] h2)))) := rfl
set_option maxRecDepth 100000 in
theorem g_X12_init_47 (S : sT) (call : cT) (n : Nat) (a0 : Nat) (o1 : Option Value) (u0 : Value) (u1 : Value) (h : pH) : bd S call dflT E_X12_init (n + 1) 47 [some (.ref a0), o1] [u1, u0] h = (iA u1 (pF h u0 15 13 (u1) (fun h1 => mkJ h1 11 (fun h2 => bd S call dflT E_X12_init n 55 [some (.ref a0), o1] [.ref (List.length h1), .ref a0] h2)))) := rfl
set_option maxRecDepth 100000 in
theorem g_X12_init_55 (S : sT) (call : cT) (n : Nat) (a0 : Nat) (o1 : Option Value) (u0 : Value) (u1 : Value) (h : pH) : bd S call dflT E_X12_init (n + 1) 55 [some (.ref a0), o1] [u1, u0] h = (iA u1 (pF h u0 15 14 (u1) (fun h1 => mkI h1 0 12 (fun h2 => bd S call dflT E_X12_init n 63 [some (.ref a0), o1] [.ref (List.length h1), .ref a0] h2)))) := rfl
set_option maxRecDepth 100000 in
theorem g_X12_init_63 (S : sT) (call : cT) (n : Nat) (a0 : Nat) (o1 : Option Value) (u0 : Value) (u1 : Value) (h : pH) : bd S call dflT E_X12_init (n + 1) 63 [some (.ref a0), o1] [u1, u0] h = (iA u1 (pF h u0 15 15 (u1) (fun h1 => mkI h1 2 24 (fun h2 => bd S call dflT E_X12_init n 71 [some (.ref a0), o1] [.ref (List.length h1), .ref a0] h2)))) := rfl
set_option maxRecDepth 100000 in
theorem g_X12_init_71 (S : sT) (call : cT) (n : Nat) (a0 : Nat) (o1 : Option Value) (u0 : Value) (u1 : Value) (h : pH) : bd S call dflT E_X12_init (n + 1) 71 [some (.ref a0), o1] [u1, u0] h = (iA u1 (pF h u0 15 17 (u1) (fun h1 => bd S call dflT E_X12_init n 76 [some (.ref a0), some (.int 0)] [] h1))) := rfl
set_option maxRecDepth 100000 in
theorem g_X12_init_76 (S : sT) (call : cT) (n : Nat) (a0 : Nat) (x1 : Int32) (h : pH) : bd S call dflT E_X12_init (n + 1) 76 [some (.ref a0), some (.int x1)] [] h = ((if 48 ≤ x1 then bd S call dflT E_X12_init n 113 [some (.ref a0), some (.int 0)] [] h else gV h (.ref a0) 15 1 (fun w1 => cI (call 12 [.int x1, .int 0] h) (fun y3 h2 => sI h2 w1 0 y3 5 (fun h4 => gV h4 (.ref a0) 15 1 (fun w5 => cI (call 12 [.int x1, .int 10] h4) (fun y7 h6 => sI h6 w5 0 y7 (-1) (fun h8 => bd S call dflT E_X12_init n 76 [some (.ref a0), some (.int (x1 + 1))] [] h8)))))))) := rfl
set_option maxRecDepth 100000 in
theorem g_X12_init_113 (S : sT) (call : cT) (n : Nat) (a0 : Nat) (x1 : Int32) (h : pH) : bd S call dflT E_X12_init (n + 1) 113 [some (.ref a0), some (.int x1)] [] h = ((if 101 ≤ x1 then some (.inl none, h) else gV h (.ref a0) 15 1 (fun w1 => sI h w1 0 ((680 + (2 * x1)) + 1) 1 (fun h2 => bd S call dflT E_X12_init n 113 [some (.ref a0), some (.int (x1 + 1))] [] h2)))) := rfl
theorem dX12_feed_0 : decode cX12_feed 0 = .ok (.aload_n 0, 1) := by decide +kernel
theorem dX12_feed_1 : decode cX12_feed 1 = .ok (.iconst 0, 1) := by decide +kernel
theorem dX12_feed_2 : decode cX12_feed 2 = .ok (.putfield 3, 3) := by decide +kernel
theorem dX12_feed_5 : decode cX12_feed 5 = .ok (.aload_n 0, 1) := by decide +kernel
theorem dX12_feed_6 : decode cX12_feed 6 = .ok (.getfield 105, 3) := by decide +kernel
theorem dX12_feed_9 : decode cX12_feed 9 = .ok (.bipush 20, 2) := by decide +kernel
theorem dX12_feed_11 : decode cX12_feed 11 = .ok (.iadd, 1) := by decide +kernel
theorem dX12_feed_12 : decode cX12_feed 12 = .ok (.sipush 400, 3) := by decide +kernel
theorem dX12_feed_15 : decode cX12_feed 15 = .ok (.if_icmp .le 5, 3) := by decide +kernel
theorem dX12_feed_18 : decode cX12_feed 18 = .ok (.iconst (-1), 1) := by decide +kernel
theorem dX12_feed_19 : decode cX12_feed 19 = .ok (.ireturn, 1) := by decide +kernel
theorem dX12_feed_20 : decode cX12_feed 20 = .ok (.aload_n 0, 1) := by decide +kernel
theorem dX12_feed_21 : decode cX12_feed 21 = .ok (.getfield 42, 3) := by decide +kernel
theorem dX12_feed_24 : decode cX12_feed 24 = .ok (.iconst 0, 1) := by decide +kernel
theorem dX12_feed_25 : decode cX12_feed 25 = .ok (.iload_n 1, 1) := by decide +kernel
theorem dX12_feed_26 : decode cX12_feed 26 = .ok (.iastore, 1) := by decide +kernel
theorem dX12_feed_27 : decode cX12_feed 27 = .ok (.aload_n 0, 1) := by decide +kernel
theorem dX12_feed_28 : decode cX12_feed 28 = .ok (.getfield 42, 3) := by decide +kernel
theorem dX12_feed_31 : decode cX12_feed 31 = .ok (.iconst 1, 1) := by decide +kernel
theorem dX12_feed_32 : decode cX12_feed 32 = .ok (.iload_n 2, 1) := by decide +kernel
theorem dX12_feed_33 : decode cX12_feed 33 = .ok (.iastore, 1) := by decide +kernel
theorem dX12_feed_34 : decode cX12_feed 34 = .ok (.aload_n 0, 1) := by decide +kernel
theorem dX12_feed_35 : decode cX12_feed 35 = .ok (.getfield 42, 3) := by decide +kernel
theorem dX12_feed_38 : decode cX12_feed 38 = .ok (.iconst 2, 1) := by decide +kernel
theorem dX12_feed_39 : decode cX12_feed 39 = .ok (.iload_n 3, 1) := by decide +kernel
theorem dX12_feed_40 : decode cX12_feed 40 = .ok (.iastore, 1) := by decide +kernel
theorem dX12_feed_41 : decode cX12_feed 41 = .ok (.aload_n 0, 1) := by decide +kernel
theorem dX12_feed_42 : decode cX12_feed 42 = .ok (.getfield 42, 3) := by decide +kernel
theorem dX12_feed_45 : decode cX12_feed 45 = .ok (.iconst 3, 1) := by decide +kernel
theorem dX12_feed_46 : decode cX12_feed 46 = .ok (.iload 4, 2) := by decide +kernel
theorem dX12_feed_48 : decode cX12_feed 48 = .ok (.iastore, 1) := by decide +kernel
theorem dX12_feed_49 : decode cX12_feed 49 = .ok (.aload_n 0, 1) := by decide +kernel
theorem dX12_feed_50 : decode cX12_feed 50 = .ok (.getfield 42, 3) := by decide +kernel
theorem dX12_feed_53 : decode cX12_feed 53 = .ok (.iconst 4, 1) := by decide +kernel
theorem dX12_feed_54 : decode cX12_feed 54 = .ok (.iload 5, 2) := by decide +kernel
theorem dX12_feed_56 : decode cX12_feed 56 = .ok (.iastore, 1) := by decide +kernel
theorem dX12_feed_57 : decode cX12_feed 57 = .ok (.iconst 0, 1) := by decide +kernel
theorem dX12_feed_58 : decode cX12_feed 58 = .ok (.istore 6, 2) := by decide +kernel
theorem dX12_feed_60 : decode cX12_feed 60 = .ok (.iload 6, 2) := by decide +kernel
theorem dX12_feed_62 : decode cX12_feed 62 = .ok (.bipush 20, 2) := by decide +kernel
theorem dX12_feed_64 : decode cX12_feed 64 = .ok (.if_icmp .ge 42, 3) := by decide +kernel
theorem dX12_feed_67 : decode cX12_feed 67 = .ok (.aload_n 0, 1) := by decide +kernel
theorem dX12_feed_68 : decode cX12_feed 68 = .ok (.getfield 35, 3) := by decide +kernel
theorem dX12_feed_71 : decode cX12_feed 71 = .ok (.aload_n 0, 1) := by decide +kernel
theorem dX12_feed_72 : decode cX12_feed 72 = .ok (.getfield 105, 3) := by decide +kernel
theorem dX12_feed_75 : decode cX12_feed 75 = .ok (.iload 6, 2) := by decide +kernel
theorem dX12_feed_77 : decode cX12_feed 77 = .ok (.iadd, 1) := by decide +kernel
theorem dX12_feed_78 : decode cX12_feed 78 = .ok (.aload_n 0, 1) := by decide +kernel
theorem dX12_feed_79 : decode cX12_feed 79 = .ok (.getfield 42, 3) := by decide +kernel
theorem dX12_feed_82 : decode cX12_feed 82 = .ok (.iload 6, 2) := by decide +kernel
theorem dX12_feed_84 : decode cX12_feed 84 = .ok (.iconst 4, 1) := by decide +kernel
theorem dX12_feed_85 : decode cX12_feed 85 = .ok (.idiv, 1) := by decide +kernel
theorem dX12_feed_86 : decode cX12_feed 86 = .ok (.iaload, 1) := by decide +kernel
theorem dX12_feed_87 : decode cX12_feed 87 = .ok (.bipush 24, 2) := by decide +kernel
theorem dX12_feed_89 : decode cX12_feed 89 = .ok (.bipush 8, 2) := by decide +kernel
theorem dX12_feed_91 : decode cX12_feed 91 = .ok (.iload 6, 2) := by decide +kernel
theorem dX12_feed_93 : decode cX12_feed 93 = .ok (.iconst 4, 1) := by decide +kernel
theorem dX12_feed_94 : decode cX12_feed 94 = .ok (.irem, 1) := by decide +kernel
theorem dX12_feed_95 : decode cX12_feed 95 = .ok (.imul, 1) := by decide +kernel
theorem dX12_feed_96 : decode cX12_feed 96 = .ok (.isub, 1) := by decide +kernel
theorem dX12_feed_97 : decode cX12_feed 97 = .ok (.ishr, 1) := by decide +kernel
theorem dX12_feed_98 : decode cX12_feed 98 = .ok (.i2b, 1) := by decide +kernel
theorem dX12_feed_99 : decode cX12_feed 99 = .ok (.bastore, 1) := by decide +kernel
theorem dX12_feed_100 : decode cX12_feed 100 = .ok (.iinc 6 1, 3) := by decide +kernel
theorem dX12_feed_103 : decode cX12_feed 103 = .ok (.goto (-43), 3) := by decide +kernel
theorem dX12_feed_106 : decode cX12_feed 106 = .ok (.aload_n 0, 1) := by decide +kernel
theorem dX12_feed_107 : decode cX12_feed 107 = .ok (.dup, 1) := by decide +kernel
theorem dX12_feed_108 : decode cX12_feed 108 = .ok (.getfield 105, 3) := by decide +kernel
theorem dX12_feed_111 : decode cX12_feed 111 = .ok (.bipush 20, 2) := by decide +kernel
theorem dX12_feed_113 : decode cX12_feed 113 = .ok (.iadd, 1) := by decide +kernel
theorem dX12_feed_114 : decode cX12_feed 114 = .ok (.putfield 105, 3) := by decide +kernel
theorem dX12_feed_117 : decode cX12_feed 117 = .ok (.aload_n 0, 1) := by decide +kernel
theorem dX12_feed_118 : decode cX12_feed 118 = .ok (.getfield 105, 3) := by decide +kernel
theorem dX12_feed_121 : decode cX12_feed 121 = .ok (.ireturn, 1) := by decide +kernel
noncomputable def E_X12_feed : mE := (mX12_feed, [(38, [(0, (.aload_n 0, 1, false, false, 0, 0, 0, 0, 0, 0, [])), (1, (.iconst 0, 2, false, false, 0, 0, 0, 0, 0, 0, [])), (2, (.putfield 3, 5, false, false, 15, 0, 0, 0, 0, 0, [])), (5, (.aload_n 0, 6, false, false, 0, 0, 0, 0, 0, 0, [])), (6, (.getfield 105, 9, false, false, 15, 5, 0, 0, 0, 0, [])), (9, (.bipush 20, 11, false, false, 0, 0, 0, 0, 20, 0, [])), (11, (.iadd, 12, false, false, 0, 0, 0, 0, 0, 0, [])), (12, (.sipush 400, 15, false, false, 0, 0, 0, 0, 400, 0, [])), (15, (.if_icmp .le 5, 18, false, false, 20, 0, 0, 0, 0, 0, [])), (18, (.iconst (-1), 19, false, false, 0, 0, 0, 0, -1, 0, [])), (19, (.ireturn, 20, false, false, 0, 0, 0, 0, 0, 0, [])), (20, (.aload_n 0, 21, false, false, 0, 0, 0, 0, 0, 0, [])), (21, (.getfield 42, 24, false, false, 15, 11, 1, 0, 0, 0, [])), (24, (.iconst 0, 25, false, false, 0, 0, 0, 0, 0, 0, [])), (25, (.iload_n 1, 26, false, false, 1, 0, 0, 0, 0, 0, [])), (26, (.iastore, 27, false, false, 0, 0, 0, 0, 0, 0, [])), (27, (.aload_n 0, 28, false, false, 0, 0, 0, 0, 0, 0, [])), (28, (.getfield 42, 31, false, false, 15, 11, 1, 0, 0, 0, [])), (31, (.iconst 1, 32, false, false, 0, 0, 0, 0, 1, 0, [])), (32, (.iload_n 2, 33, false, false, 2, 0, 0, 0, 0, 0, [])), (33, (.iastore, 34, false, false, 0, 0, 0, 0, 0, 0, [])), (34, (.aload_n 0, 35, false, false, 0, 0, 0, 0, 0, 0, [])), (35, (.getfield 42, 38, false, false, 15, 11, 1, 0, 0, 0, [])), (38, (.iconst 2, 39, false, false, 0, 0, 0, 0, 2, 0, []))]),
  (78, [(39, (.iload_n 3, 40, false, false, 3, 0, 0, 0, 0, 0, [])), (40, (.iastore, 41, false, false, 0, 0, 0, 0, 0, 0, [])), (41, (.aload_n 0, 42, false, false, 0, 0, 0, 0, 0, 0, [])), (42, (.getfield 42, 45, false, false, 15, 11, 1, 0, 0, 0, [])), (45, (.iconst 3, 46, false, false, 0, 0, 0, 0, 3, 0, [])), (46, (.iload 4, 48, false, false, 4, 0, 0, 0, 0, 0, [])), (48, (.iastore, 49, false, false, 0, 0, 0, 0, 0, 0, [])), (49, (.aload_n 0, 50, false, false, 0, 0, 0, 0, 0, 0, [])), (50, (.getfield 42, 53, false, false, 15, 11, 1, 0, 0, 0, [])), (53, (.iconst 4, 54, false, false, 0, 0, 0, 0, 4, 0, [])), (54, (.iload 5, 56, false, false, 5, 0, 0, 0, 0, 0, [])), (56, (.iastore, 57, false, false, 0, 0, 0, 0, 0, 0, [])), (57, (.iconst 0, 58, false, false, 0, 0, 0, 0, 0, 0, [])), (58, (.istore 6, 60, true, false, 6, 0, 0, 0, 0, 0, [])), (60, (.iload 6, 62, false, false, 6, 0, 0, 0, 0, 0, [])), (62, (.bipush 20, 64, false, false, 0, 0, 0, 0, 20, 0, [])), (64, (.if_icmp .ge 42, 67, false, false, 106, 0, 0, 0, 0, 0, [])), (67, (.aload_n 0, 68, false, false, 0, 0, 0, 0, 0, 0, [])), (68, (.getfield 35, 71, false, false, 15, 4, 1, 0, 0, 0, [])), (71, (.aload_n 0, 72, false, false, 0, 0, 0, 0, 0, 0, [])), (72, (.getfield 105, 75, false, false, 15, 5, 0, 0, 0, 0, [])), (75, (.iload 6, 77, false, false, 6, 0, 0, 0, 0, 0, [])), (77, (.iadd, 78, false, false, 0, 0, 0, 0, 0, 0, [])), (78, (.aload_n 0, 79, false, false, 0, 0, 0, 0, 0, 0, []))]),
  (117, [(79, (.getfield 42, 82, false, false, 15, 11, 1, 0, 0, 0, [])), (82, (.iload 6, 84, false, false, 6, 0, 0, 0, 0, 0, [])), (84, (.iconst 4, 85, false, false, 0, 0, 0, 0, 4, 0, [])), (85, (.idiv, 86, false, false, 0, 0, 0, 0, 0, 0, [])), (86, (.iaload, 87, false, false, 0, 0, 0, 0, 0, 0, [])), (87, (.bipush 24, 89, false, false, 0, 0, 0, 0, 24, 0, [])), (89, (.bipush 8, 91, false, false, 0, 0, 0, 0, 8, 0, [])), (91, (.iload 6, 93, false, false, 6, 0, 0, 0, 0, 0, [])), (93, (.iconst 4, 94, false, false, 0, 0, 0, 0, 4, 0, [])), (94, (.irem, 95, false, false, 0, 0, 0, 0, 0, 0, [])), (95, (.imul, 96, false, false, 0, 0, 0, 0, 0, 0, [])), (96, (.isub, 97, false, false, 0, 0, 0, 0, 0, 0, [])), (97, (.ishr, 98, false, false, 0, 0, 0, 0, 0, 0, [])), (98, (.i2b, 99, false, false, 0, 0, 0, 0, 0, 0, [])), (99, (.bastore, 100, false, false, 0, 0, 0, 0, 0, 0, [])), (100, (.iinc 6 1, 103, false, false, 6, 0, 0, 0, 1, 0, [])), (103, (.goto (-43), 106, false, true, 60, 0, 0, 0, 0, 0, [])), (106, (.aload_n 0, 107, false, false, 0, 0, 0, 0, 0, 0, [])), (107, (.dup, 108, false, false, 0, 0, 0, 0, 0, 0, [])), (108, (.getfield 105, 111, false, false, 15, 5, 0, 0, 0, 0, [])), (111, (.bipush 20, 113, false, false, 0, 0, 0, 0, 20, 0, [])), (113, (.iadd, 114, false, false, 0, 0, 0, 0, 0, 0, [])), (114, (.putfield 105, 117, false, false, 15, 5, 0, 0, 0, 0, [])), (117, (.aload_n 0, 118, false, false, 0, 0, 0, 0, 0, 0, []))]),
  (121, [(118, (.getfield 105, 121, false, false, 15, 5, 0, 0, 0, 0, [])), (121, (.ireturn, 122, false, false, 0, 0, 0, 0, 0, 0, []))])], 0, [])
set_option maxRecDepth 100000 in
theorem v_X12_feed : VE MYT dflT E_X12_feed := ⟨⟨⟨⟨⟨dX12_feed_0, rfl⟩, rfl⟩, ⟨⟨dX12_feed_1, rfl⟩, rfl⟩, ⟨⟨dX12_feed_2, rfl⟩, Or.inl ⟨rfl, fX12_3⟩⟩, ⟨⟨dX12_feed_5, rfl⟩, rfl⟩, ⟨⟨dX12_feed_6, rfl⟩, Or.inl ⟨by decide, _, _, fX12_105⟩⟩, ⟨⟨dX12_feed_9, rfl⟩, rfl⟩, ⟨⟨dX12_feed_11, rfl⟩, trivial⟩, ⟨⟨dX12_feed_12, rfl⟩, rfl⟩, ⟨⟨dX12_feed_15, rfl⟩, rfl⟩, ⟨⟨dX12_feed_18, rfl⟩, rfl⟩, ⟨⟨dX12_feed_19, rfl⟩, Or.inl ⟨rfl, rfl⟩⟩, ⟨⟨dX12_feed_20, rfl⟩, rfl⟩, ⟨⟨dX12_feed_21, rfl⟩, Or.inl ⟨by decide, _, _, fX12_42⟩⟩, ⟨⟨dX12_feed_24, rfl⟩, rfl⟩, ⟨⟨dX12_feed_25, rfl⟩, rfl⟩, ⟨⟨dX12_feed_26, rfl⟩, trivial⟩, ⟨⟨dX12_feed_27, rfl⟩, rfl⟩, ⟨⟨dX12_feed_28, rfl⟩, Or.inl ⟨by decide, _, _, fX12_42⟩⟩, ⟨⟨dX12_feed_31, rfl⟩, rfl⟩, ⟨⟨dX12_feed_32, rfl⟩, rfl⟩, ⟨⟨dX12_feed_33, rfl⟩, trivial⟩, ⟨⟨dX12_feed_34, rfl⟩, rfl⟩, ⟨⟨dX12_feed_35, rfl⟩, Or.inl ⟨by decide, _, _, fX12_42⟩⟩, ⟨⟨dX12_feed_38, rfl⟩, rfl⟩, trivial⟩,
  ⟨⟨⟨dX12_feed_39, rfl⟩, rfl⟩, ⟨⟨dX12_feed_40, rfl⟩, trivial⟩, ⟨⟨dX12_feed_41, rfl⟩, rfl⟩, ⟨⟨dX12_feed_42, rfl⟩, Or.inl ⟨by decide, _, _, fX12_42⟩⟩, ⟨⟨dX12_feed_45, rfl⟩, rfl⟩, ⟨⟨dX12_feed_46, rfl⟩, rfl⟩, ⟨⟨dX12_feed_48, rfl⟩, trivial⟩, ⟨⟨dX12_feed_49, rfl⟩, rfl⟩, ⟨⟨dX12_feed_50, rfl⟩, Or.inl ⟨by decide, _, _, fX12_42⟩⟩, ⟨⟨dX12_feed_53, rfl⟩, rfl⟩, ⟨⟨dX12_feed_54, rfl⟩, rfl⟩, ⟨⟨dX12_feed_56, rfl⟩, trivial⟩, ⟨⟨dX12_feed_57, rfl⟩, rfl⟩, ⟨⟨dX12_feed_58, rfl⟩, rfl⟩, ⟨⟨dX12_feed_60, rfl⟩, rfl⟩, ⟨⟨dX12_feed_62, rfl⟩, rfl⟩, ⟨⟨dX12_feed_64, rfl⟩, rfl⟩, ⟨⟨dX12_feed_67, rfl⟩, rfl⟩, ⟨⟨dX12_feed_68, rfl⟩, Or.inl ⟨by decide, _, _, fX12_35⟩⟩, ⟨⟨dX12_feed_71, rfl⟩, rfl⟩, ⟨⟨dX12_feed_72, rfl⟩, Or.inl ⟨by decide, _, _, fX12_105⟩⟩, ⟨⟨dX12_feed_75, rfl⟩, rfl⟩, ⟨⟨dX12_feed_77, rfl⟩, trivial⟩, ⟨⟨dX12_feed_78, rfl⟩, rfl⟩, trivial⟩,
  ⟨⟨⟨dX12_feed_79, rfl⟩, Or.inl ⟨by decide, _, _, fX12_42⟩⟩, ⟨⟨dX12_feed_82, rfl⟩, rfl⟩, ⟨⟨dX12_feed_84, rfl⟩, rfl⟩, ⟨⟨dX12_feed_85, rfl⟩, trivial⟩, ⟨⟨dX12_feed_86, rfl⟩, trivial⟩, ⟨⟨dX12_feed_87, rfl⟩, rfl⟩, ⟨⟨dX12_feed_89, rfl⟩, rfl⟩, ⟨⟨dX12_feed_91, rfl⟩, rfl⟩, ⟨⟨dX12_feed_93, rfl⟩, rfl⟩, ⟨⟨dX12_feed_94, rfl⟩, trivial⟩, ⟨⟨dX12_feed_95, rfl⟩, trivial⟩, ⟨⟨dX12_feed_96, rfl⟩, trivial⟩, ⟨⟨dX12_feed_97, rfl⟩, trivial⟩, ⟨⟨dX12_feed_98, rfl⟩, trivial⟩, ⟨⟨dX12_feed_99, rfl⟩, trivial⟩, ⟨⟨dX12_feed_100, rfl⟩, ⟨rfl, rfl⟩⟩, ⟨⟨dX12_feed_103, rfl⟩, rfl⟩, ⟨⟨dX12_feed_106, rfl⟩, rfl⟩, ⟨⟨dX12_feed_107, rfl⟩, trivial⟩, ⟨⟨dX12_feed_108, rfl⟩, Or.inl ⟨by decide, _, _, fX12_105⟩⟩, ⟨⟨dX12_feed_111, rfl⟩, rfl⟩, ⟨⟨dX12_feed_113, rfl⟩, trivial⟩, ⟨⟨dX12_feed_114, rfl⟩, Or.inl ⟨rfl, fX12_105⟩⟩, ⟨⟨dX12_feed_117, rfl⟩, rfl⟩, trivial⟩,
  ⟨⟨⟨dX12_feed_118, rfl⟩, Or.inl ⟨by decide, _, _, fX12_105⟩⟩, ⟨⟨dX12_feed_121, rfl⟩, Or.inl ⟨rfl, rfl⟩⟩, trivial⟩, trivial⟩, by decide, Or.inl ⟨rfl, by decide, rfl⟩⟩
set_option maxRecDepth 100000 in
theorem g_X12_feed_0 (S : sT) (call : cT) (n : Nat) (a0 : Nat) (x1 : Int32) (x2 : Int32) (x3 : Int32) (x4 : Int32) (x5 : Int32) (h : pH) : bd S call dflT E_X12_feed (n + 1) 0 [some (.ref a0), some (.int x1), some (.int x2), some (.int x3), some (.int x4), some (.int x5), none] [] h = (pF h (.ref a0) 15 0 (.int 0) (fun h1 => gI h1 (.ref a0) 15 5 (fun y2 => (if (y2 + 20) ≤ 400 then gV h1 (.ref a0) 15 11 (fun w3 => sI h1 w3 0 0 x1 (fun h4 => gV h4 (.ref a0) 15 11 (fun w5 => sI h4 w5 0 1 x2 (fun h6 => gV h6 (.ref a0) 15 11 (fun w7 => sI h6 w7 0 2 x3 (fun h8 => gV h8 (.ref a0) 15 11 (fun w9 => sI h8 w9 0 3 x4 (fun h10 => gV h10 (.ref a0) 15 11 (fun w11 => sI h10 w11 0 4 x5 (fun h12 => bd S call dflT E_X12_feed n 60 [some (.ref a0), some (.int x1), some (.int x2), some (.int x3), some (.int x4), some (.int x5), some (.int 0)] [] h12)))))))))) else some (.inl (some (.int (-1))), h1))))) := rfl
set_option maxRecDepth 100000 in
theorem g_X12_feed_60 (S : sT) (call : cT) (n : Nat) (a0 : Nat) (x1 : Int32) (x2 : Int32) (x3 : Int32) (x4 : Int32) (x5 : Int32) (x6 : Int32) (h : pH) : bd S call dflT E_X12_feed (n + 1) 60 [some (.ref a0), some (.int x1), some (.int x2), some (.int x3), some (.int x4), some (.int x5), some (.int x6)] [] h = ((if 20 ≤ x6 then gI h (.ref a0) 15 5 (fun y1 => pF h (.ref a0) 15 5 (.int (y1 + 20)) (fun h2 => gI h2 (.ref a0) 15 5 (fun y3 => some (.inl (some (.int y3)), h2)))) else gV h (.ref a0) 15 4 (fun w4 => gI h (.ref a0) 15 5 (fun y5 => gV h (.ref a0) 15 11 (fun w6 => dv 4 (aI h w6 0 (x6 / 4) (fun y7 => dv 4 (sI h w4 1 (y5 + x6) ((y7 >>> ((24 - (8 * (x6 - x6 / 4 * 4))) &&& 31)).toInt8.toInt32).toInt8.toInt32 (fun h8 => bd S call dflT E_X12_feed n 60 [some (.ref a0), some (.int x1), some (.int x2), some (.int x3), some (.int x4), some (.int x5), some (.int (x6 + 1))] [] h8))))))))) := rfl
theorem dX12_end_0 : decode cX12_end 0 = .ok (.aload_n 0, 1) := by decide +kernel
theorem dX12_end_1 : decode cX12_end 1 = .ok (.iconst 0, 1) := by decide +kernel
theorem dX12_end_2 : decode cX12_end 2 = .ok (.putfield 3, 3) := by decide +kernel
theorem dX12_end_5 : decode cX12_end 5 = .ok (.iload_n 1, 1) := by decide +kernel
theorem dX12_end_6 : decode cX12_end 6 = .ok (.ifCond .lt 11, 3) := by decide +kernel
theorem dX12_end_9 : decode cX12_end 9 = .ok (.iload_n 1, 1) := by decide +kernel
theorem dX12_end_10 : decode cX12_end 10 = .ok (.aload_n 0, 1) := by decide +kernel
theorem dX12_end_11 : decode cX12_end 11 = .ok (.getfield 105, 3) := by decide +kernel
theorem dX12_end_14 : decode cX12_end 14 = .ok (.if_icmp .le 5, 3) := by decide +kernel
theorem dX12_end_17 : decode cX12_end 17 = .ok (.iconst 0, 1) := by decide +kernel
theorem dX12_end_18 : decode cX12_end 18 = .ok (.ireturn, 1) := by decide +kernel
theorem dX12_end_19 : decode cX12_end 19 = .ok (.aload_n 0, 1) := by decide +kernel
theorem dX12_end_20 : decode cX12_end 20 = .ok (.iload_n 1, 1) := by decide +kernel
theorem dX12_end_21 : decode cX12_end 21 = .ok (.putfield 105, 3) := by decide +kernel
theorem dX12_end_24 : decode cX12_end 24 = .ok (.iconst 1, 1) := by decide +kernel
theorem dX12_end_25 : decode cX12_end 25 = .ok (.ireturn, 1) := by decide +kernel
noncomputable def E_X12_end : mE := (mX12_end, [(25, [(0, (.aload_n 0, 1, false, false, 0, 0, 0, 0, 0, 0, [])), (1, (.iconst 0, 2, false, false, 0, 0, 0, 0, 0, 0, [])), (2, (.putfield 3, 5, false, false, 15, 0, 0, 0, 0, 0, [])), (5, (.iload_n 1, 6, false, false, 1, 0, 0, 0, 0, 0, [])), (6, (.ifCond .lt 11, 9, false, false, 17, 0, 0, 0, 0, 0, [])), (9, (.iload_n 1, 10, false, false, 1, 0, 0, 0, 0, 0, [])), (10, (.aload_n 0, 11, false, false, 0, 0, 0, 0, 0, 0, [])), (11, (.getfield 105, 14, false, false, 15, 5, 0, 0, 0, 0, [])), (14, (.if_icmp .le 5, 17, false, false, 19, 0, 0, 0, 0, 0, [])), (17, (.iconst 0, 18, false, false, 0, 0, 0, 0, 0, 0, [])), (18, (.ireturn, 19, false, false, 0, 0, 1, 0, 0, 0, [])), (19, (.aload_n 0, 20, false, false, 0, 0, 0, 0, 0, 0, [])), (20, (.iload_n 1, 21, false, false, 1, 0, 0, 0, 0, 0, [])), (21, (.putfield 105, 24, false, false, 15, 5, 0, 0, 0, 0, [])), (24, (.iconst 1, 25, false, false, 0, 0, 0, 0, 1, 0, [])), (25, (.ireturn, 26, false, false, 0, 0, 1, 0, 0, 0, []))])], 0, [])
set_option maxRecDepth 100000 in
theorem v_X12_end : VE MYT dflT E_X12_end := ⟨⟨⟨⟨⟨dX12_end_0, rfl⟩, rfl⟩, ⟨⟨dX12_end_1, rfl⟩, rfl⟩, ⟨⟨dX12_end_2, rfl⟩, Or.inl ⟨rfl, fX12_3⟩⟩, ⟨⟨dX12_end_5, rfl⟩, rfl⟩, ⟨⟨dX12_end_6, rfl⟩, rfl⟩, ⟨⟨dX12_end_9, rfl⟩, rfl⟩, ⟨⟨dX12_end_10, rfl⟩, rfl⟩, ⟨⟨dX12_end_11, rfl⟩, Or.inl ⟨by decide, _, _, fX12_105⟩⟩, ⟨⟨dX12_end_14, rfl⟩, rfl⟩, ⟨⟨dX12_end_17, rfl⟩, rfl⟩, ⟨⟨dX12_end_18, rfl⟩, Or.inr (Or.inl ⟨rfl, rfl⟩)⟩, ⟨⟨dX12_end_19, rfl⟩, rfl⟩, ⟨⟨dX12_end_20, rfl⟩, rfl⟩, ⟨⟨dX12_end_21, rfl⟩, Or.inl ⟨rfl, fX12_105⟩⟩, ⟨⟨dX12_end_24, rfl⟩, rfl⟩, ⟨⟨dX12_end_25, rfl⟩, Or.inr (Or.inl ⟨rfl, rfl⟩)⟩, trivial⟩, trivial⟩, by decide, Or.inl ⟨rfl, by decide, rfl⟩⟩
set_option maxRecDepth 100000 in
theorem g_X12_end_0 (S : sT) (call : cT) (n : Nat) (a0 : Nat) (x1 : Int32) (h : pH) : bd S call dflT E_X12_end (n + 1) 0 [some (.ref a0), some (.int x1)] [] h = (pF h (.ref a0) 15 0 (.int 0) (fun h1 => (if x1 < 0 then zR 0 (some (.inl (some (.int 0)), h1)) else gI h1 (.ref a0) 15 5 (fun y2 => (if x1 ≤ y2 then pF h1 (.ref a0) 15 5 (.int x1) (fun h3 => zR 1 (some (.inl (some (.int 1)), h3))) else zR 0 (some (.inl (some (.int 0)), h1))))))) := rfl
theorem dX12_in_0 : decode cX12_in 0 = .ok (.iload_n 0, 1) := by decide +kernel
theorem dX12_in_1 : decode cX12_in 1 = .ok (.iload_n 1, 1) := by decide +kernel
theorem dX12_in_2 : decode cX12_in 2 = .ok (.if_icmp .lt 12, 3) := by decide +kernel
theorem dX12_in_5 : decode cX12_in 5 = .ok (.iload_n 0, 1) := by decide +kernel
theorem dX12_in_6 : decode cX12_in 6 = .ok (.iload_n 2, 1) := by decide +kernel
theorem dX12_in_7 : decode cX12_in 7 = .ok (.if_icmp .gt 7, 3) := by decide +kernel
theorem dX12_in_10 : decode cX12_in 10 = .ok (.iconst 1, 1) := by decide +kernel
theorem dX12_in_11 : decode cX12_in 11 = .ok (.goto 4, 3) := by decide +kernel
theorem dX12_in_14 : decode cX12_in 14 = .ok (.iconst 0, 1) := by decide +kernel
theorem dX12_in_15 : decode cX12_in 15 = .ok (.ireturn, 1) := by decide +kernel
noncomputable def E_X12_in : mE := (mX12_in, [(15, [(0, (.iload_n 0, 1, false, false, 0, 0, 0, 0, 0, 0, [])), (1, (.iload_n 1, 2, false, false, 1, 0, 0, 0, 0, 0, [])), (2, (.if_icmp .lt 12, 5, false, false, 14, 0, 0, 0, 0, 0, [])), (5, (.iload_n 0, 6, false, false, 0, 0, 0, 0, 0, 0, [])), (6, (.iload_n 2, 7, false, false, 2, 0, 0, 0, 0, 0, [])), (7, (.if_icmp .gt 7, 10, false, false, 14, 0, 0, 0, 0, 0, [])), (10, (.iconst 1, 11, false, false, 0, 0, 0, 0, 1, 0, [])), (11, (.goto 4, 14, false, false, 15, 0, 0, 0, 0, 0, [])), (14, (.iconst 0, 15, false, false, 0, 0, 0, 0, 0, 0, [])), (15, (.ireturn, 16, false, false, 0, 0, 1, 0, 0, 0, []))])], 0, [])
set_option maxRecDepth 100000 in
theorem v_X12_in : VE MYT dflT E_X12_in := ⟨⟨⟨⟨⟨dX12_in_0, rfl⟩, rfl⟩, ⟨⟨dX12_in_1, rfl⟩, rfl⟩, ⟨⟨dX12_in_2, rfl⟩, rfl⟩, ⟨⟨dX12_in_5, rfl⟩, rfl⟩, ⟨⟨dX12_in_6, rfl⟩, rfl⟩, ⟨⟨dX12_in_7, rfl⟩, rfl⟩, ⟨⟨dX12_in_10, rfl⟩, rfl⟩, ⟨⟨dX12_in_11, rfl⟩, rfl⟩, ⟨⟨dX12_in_14, rfl⟩, rfl⟩, ⟨⟨dX12_in_15, rfl⟩, Or.inr (Or.inl ⟨rfl, rfl⟩)⟩, trivial⟩, trivial⟩, by decide, Or.inl ⟨rfl, by decide, rfl⟩⟩
set_option maxRecDepth 100000 in
theorem g_X12_in_0 (S : sT) (call : cT) (n : Nat) (x0 : Int32) (x1 : Int32) (x2 : Int32) (h : pH) : bd S call dflT E_X12_in (n + 1) 0 [some (.int x0), some (.int x1), some (.int x2)] [] h = ((if x0 < x1 then zR 0 (some (.inl (some (.int 0)), h)) else (if x2 < x0 then zR 0 (some (.inl (some (.int 0)), h)) else zR 1 (some (.inl (some (.int 1)), h))))) := rfl
theorem dX12_noField_0 : decode cX12_noField 0 = .ok (.iload_n 0, 1) := by decide +kernel
theorem dX12_noField_1 : decode cX12_noField 1 = .ok (.iconst 0, 1) := by decide +kernel
theorem dX12_noField_2 : decode cX12_noField 2 = .ok (.bipush 47, 2) := by decide +kernel
theorem dX12_noField_4 : decode cX12_noField 4 = .ok (.invokestatic 63, 3) := by decide +kernel
theorem dX12_noField_7 : decode cX12_noField 7 = .ok (.ifCond .ne 7, 3) := by decide +kernel
theorem dX12_noField_10 : decode cX12_noField 10 = .ok (.iconst 1, 1) := by decide +kernel
theorem dX12_noField_11 : decode cX12_noField 11 = .ok (.goto 4, 3) := by decide +kernel
theorem dX12_noField_14 : decode cX12_noField 14 = .ok (.iconst 0, 1) := by decide +kernel
theorem dX12_noField_15 : decode cX12_noField 15 = .ok (.ireturn, 1) := by decide +kernel
noncomputable def E_X12_noField : mE := (mX12_noField, [(15, [(0, (.iload_n 0, 1, false, false, 0, 0, 0, 0, 0, 0, [])), (1, (.iconst 0, 2, false, false, 0, 0, 0, 0, 0, 0, [])), (2, (.bipush 47, 4, false, false, 0, 0, 0, 0, 47, 0, [])), (4, (.invokestatic 63, 7, false, false, 28, 3, 1, 0, 0, 0, [])), (7, (.ifCond .ne 7, 10, false, false, 14, 0, 0, 0, 0, 0, [])), (10, (.iconst 1, 11, false, false, 0, 0, 0, 0, 1, 0, [])), (11, (.goto 4, 14, false, false, 15, 0, 0, 0, 0, 0, [])), (14, (.iconst 0, 15, false, false, 0, 0, 0, 0, 0, 0, [])), (15, (.ireturn, 16, false, false, 0, 0, 1, 0, 0, 0, []))])], 0, [])
set_option maxRecDepth 100000 in
theorem v_X12_noField : VE MYT dflT E_X12_noField := ⟨⟨⟨⟨⟨dX12_noField_0, rfl⟩, rfl⟩, ⟨⟨dX12_noField_1, rfl⟩, rfl⟩, ⟨⟨dX12_noField_2, rfl⟩, rfl⟩, ⟨⟨dX12_noField_4, rfl⟩, Or.inl ⟨rfl, _, my_28, sX12_63⟩⟩, ⟨⟨dX12_noField_7, rfl⟩, rfl⟩, ⟨⟨dX12_noField_10, rfl⟩, rfl⟩, ⟨⟨dX12_noField_11, rfl⟩, rfl⟩, ⟨⟨dX12_noField_14, rfl⟩, rfl⟩, ⟨⟨dX12_noField_15, rfl⟩, Or.inr (Or.inl ⟨rfl, rfl⟩)⟩, trivial⟩, trivial⟩, by decide, Or.inl ⟨rfl, by decide, rfl⟩⟩
set_option maxRecDepth 100000 in
theorem g_X12_noField_0 (S : sT) (call : cT) (n : Nat) (x0 : Int32) (h : pH) : bd S call dflT E_X12_noField (n + 1) 0 [some (.int x0)] [] h = (cI (call 28 [.int x0, .int 0, .int 47] h) (fun y2 h1 => (if y2 = 0 then zR 1 (some (.inl (some (.int 1)), h1)) else zR 0 (some (.inl (some (.int 0)), h1))))) := rfl
theorem dX12_throwsIf_0 : decode cX12_throwsIf 0 = .ok (.iload_n 1, 1) := by decide +kernel
theorem dX12_throwsIf_1 : decode cX12_throwsIf 1 = .ok (.ifCond .eq 8, 3) := by decide +kernel
theorem dX12_throwsIf_4 : decode cX12_throwsIf 4 = .ok (.aload_n 0, 1) := by decide +kernel
theorem dX12_throwsIf_5 : decode cX12_throwsIf 5 = .ok (.iload_n 2, 1) := by decide +kernel
theorem dX12_throwsIf_6 : decode cX12_throwsIf 6 = .ok (.putfield 3, 3) := by decide +kernel
theorem dX12_throwsIf_9 : decode cX12_throwsIf 9 = .ok (.iload_n 1, 1) := by decide +kernel
theorem dX12_throwsIf_10 : decode cX12_throwsIf 10 = .ok (.ireturn, 1) := by decide +kernel
noncomputable def E_X12_throwsIf : mE := (mX12_throwsIf, [(10, [(0, (.iload_n 1, 1, false, false, 1, 0, 0, 0, 0, 0, [])), (1, (.ifCond .eq 8, 4, false, false, 9, 0, 0, 0, 0, 0, [])), (4, (.aload_n 0, 5, false, false, 0, 0, 0, 0, 0, 0, [])), (5, (.iload_n 2, 6, false, false, 2, 0, 0, 0, 0, 0, [])), (6, (.putfield 3, 9, false, false, 15, 0, 0, 0, 0, 0, [])), (9, (.iload_n 1, 10, false, false, 1, 0, 0, 0, 0, 0, [])), (10, (.ireturn, 11, false, false, 0, 0, 1, 0, 0, 0, []))])], 0, [])
set_option maxRecDepth 100000 in
theorem v_X12_throwsIf : VE MYT dflT E_X12_throwsIf := ⟨⟨⟨⟨⟨dX12_throwsIf_0, rfl⟩, rfl⟩, ⟨⟨dX12_throwsIf_1, rfl⟩, rfl⟩, ⟨⟨dX12_throwsIf_4, rfl⟩, rfl⟩, ⟨⟨dX12_throwsIf_5, rfl⟩, rfl⟩, ⟨⟨dX12_throwsIf_6, rfl⟩, Or.inl ⟨rfl, fX12_3⟩⟩, ⟨⟨dX12_throwsIf_9, rfl⟩, rfl⟩, ⟨⟨dX12_throwsIf_10, rfl⟩, Or.inr (Or.inl ⟨rfl, rfl⟩)⟩, trivial⟩, trivial⟩, by decide, Or.inl ⟨rfl, by decide, rfl⟩⟩
set_option maxRecDepth 100000 in
theorem g_X12_throwsIf_0 (S : sT) (call : cT) (n : Nat) (a0 : Nat) (x1 : Int32) (x2 : Int32) (h : pH) : bd S call dflT E_X12_throwsIf (n + 1) 0 [some (.ref a0), some (.int x1), some (.int x2)] [] h = ((if x1 = 0 then zR x1 (some (.inl (some (.int x1)), h)) else pF h (.ref a0) 15 0 (.int x2) (fun h1 => zR x1 (some (.inl (some (.int x1)), h1))))) := rfl
theorem dX12_of_0 : decode cX12_of 0 = .ok (.aload_n 0, 1) := by decide +kernel
theorem dX12_of_1 : decode cX12_of 1 = .ok (.getfield 27, 3) := by decide +kernel
theorem dX12_of_4 : decode cX12_of 4 = .ok (.iload_n 1, 1) := by decide +kernel
theorem dX12_of_5 : decode cX12_of 5 = .ok (.iload_n 2, 1) := by decide +kernel
theorem dX12_of_6 : decode cX12_of 6 = .ok (.invokestatic 59, 3) := by decide +kernel
theorem dX12_of_9 : decode cX12_of 9 = .ok (.iaload, 1) := by decide +kernel
theorem dX12_of_10 : decode cX12_of 10 = .ok (.ireturn, 1) := by decide +kernel
noncomputable def E_X12_of : mE := (mX12_of, [(10, [(0, (.aload_n 0, 1, false, false, 0, 0, 0, 0, 0, 0, [])), (1, (.getfield 27, 4, false, false, 15, 1, 1, 0, 0, 0, [])), (4, (.iload_n 1, 5, false, false, 1, 0, 0, 0, 0, 0, [])), (5, (.iload_n 2, 6, false, false, 2, 0, 0, 0, 0, 0, [])), (6, (.invokestatic 59, 9, false, false, 12, 2, 1, 0, 0, 0, [])), (9, (.iaload, 10, false, false, 0, 0, 0, 0, 0, 0, [])), (10, (.ireturn, 11, false, false, 0, 0, 0, 0, 0, 0, []))])], 0, [])
set_option maxRecDepth 100000 in
theorem v_X12_of : VE MYT dflT E_X12_of := ⟨⟨⟨⟨⟨dX12_of_0, rfl⟩, rfl⟩, ⟨⟨dX12_of_1, rfl⟩, Or.inl ⟨by decide, _, _, fX12_27⟩⟩, ⟨⟨dX12_of_4, rfl⟩, rfl⟩, ⟨⟨dX12_of_5, rfl⟩, rfl⟩, ⟨⟨dX12_of_6, rfl⟩, Or.inl ⟨rfl, _, my_12, sX12_59⟩⟩, ⟨⟨dX12_of_9, rfl⟩, trivial⟩, ⟨⟨dX12_of_10, rfl⟩, Or.inl ⟨rfl, rfl⟩⟩, trivial⟩, trivial⟩, by decide, Or.inl ⟨rfl, by decide, rfl⟩⟩
set_option maxRecDepth 100000 in
theorem g_X12_of_0 (S : sT) (call : cT) (n : Nat) (a0 : Nat) (x1 : Int32) (x2 : Int32) (h : pH) : bd S call dflT E_X12_of (n + 1) 0 [some (.ref a0), some (.int x1), some (.int x2)] [] h = (gV h (.ref a0) 15 1 (fun w1 => cI (call 12 [.int x1, .int x2] h) (fun y3 h2 => aI h2 w1 0 y3 (fun y4 => some (.inl (some (.int y4)), h2))))) := rfl
theorem dX12_field_0 : decode cX12_field 0 = .ok (.aload_n 0, 1) := by decide +kernel
theorem dX12_field_1 : decode cX12_field 1 = .ok (.iconst 0, 1) := by decide +kernel
theorem dX12_field_2 : decode cX12_field 2 = .ok (.putfield 3, 3) := by decide +kernel
theorem dX12_field_5 : decode cX12_field 5 = .ok (.aload_n 0, 1) := by decide +kernel
theorem dX12_field_6 : decode cX12_field 6 = .ok (.iload_n 1, 1) := by decide +kernel
theorem dX12_field_7 : decode cX12_field 7 = .ok (.invokestatic 71, 3) := by decide +kernel
theorem dX12_field_10 : decode cX12_field 10 = .ok (.iconst 1, 1) := by decide +kernel
theorem dX12_field_11 : decode cX12_field 11 = .ok (.invokevirtual 75, 3) := by decide +kernel
theorem dX12_field_14 : decode cX12_field 14 = .ok (.ifCond .ne 81, 3) := by decide +kernel
theorem dX12_field_17 : decode cX12_field 17 = .ok (.aload_n 0, 1) := by decide +kernel
theorem dX12_field_18 : decode cX12_field 18 = .ok (.iload_n 2, 1) := by decide +kernel
theorem dX12_field_19 : decode cX12_field 19 = .ok (.iconst 0, 1) := by decide +kernel
theorem dX12_field_20 : decode cX12_field 20 = .ok (.bipush 9, 2) := by decide +kernel
theorem dX12_field_22 : decode cX12_field 22 = .ok (.invokestatic 63, 3) := by decide +kernel
theorem dX12_field_25 : decode cX12_field 25 = .ok (.ifCond .eq 47, 3) := by decide +kernel
theorem dX12_field_28 : decode cX12_field 28 = .ok (.iload_n 3, 1) := by decide +kernel
theorem dX12_field_29 : decode cX12_field 29 = .ok (.iconst 0, 1) := by decide +kernel
theorem dX12_field_30 : decode cX12_field 30 = .ok (.bipush 9, 2) := by decide +kernel
theorem dX12_field_32 : decode cX12_field 32 = .ok (.invokestatic 63, 3) := by decide +kernel
theorem dX12_field_35 : decode cX12_field 35 = .ok (.ifCond .eq 37, 3) := by decide +kernel
theorem dX12_field_38 : decode cX12_field 38 = .ok (.iload 4, 2) := by decide +kernel
theorem dX12_field_40 : decode cX12_field 40 = .ok (.iconst 0, 1) := by decide +kernel
theorem dX12_field_41 : decode cX12_field 41 = .ok (.bipush 20, 2) := by decide +kernel
theorem dX12_field_43 : decode cX12_field 43 = .ok (.invokestatic 63, 3) := by decide +kernel
theorem dX12_field_46 : decode cX12_field 46 = .ok (.ifCond .eq 26, 3) := by decide +kernel
theorem dX12_field_49 : decode cX12_field 49 = .ok (.iload 5, 2) := by decide +kernel
theorem dX12_field_51 : decode cX12_field 51 = .ok (.iconst 0, 1) := by decide +kernel
theorem dX12_field_52 : decode cX12_field 52 = .ok (.bipush 99, 2) := by decide +kernel
theorem dX12_field_54 : decode cX12_field 54 = .ok (.invokestatic 63, 3) := by decide +kernel
theorem dX12_field_57 : decode cX12_field 57 = .ok (.ifCond .eq 15, 3) := by decide +kernel
theorem dX12_field_60 : decode cX12_field 60 = .ok (.iload 6, 2) := by decide +kernel
theorem dX12_field_62 : decode cX12_field 62 = .ok (.iconst 0, 1) := by decide +kernel
theorem dX12_field_63 : decode cX12_field 63 = .ok (.sipush 300, 3) := by decide +kernel
theorem dX12_field_66 : decode cX12_field 66 = .ok (.invokestatic 63, 3) := by decide +kernel
theorem dX12_field_69 : decode cX12_field 69 = .ok (.ifCond .ne 7, 3) := by decide +kernel
theorem dX12_field_72 : decode cX12_field 72 = .ok (.iconst 1, 1) := by decide +kernel
theorem dX12_field_73 : decode cX12_field 73 = .ok (.goto 4, 3) := by decide +kernel
theorem dX12_field_76 : decode cX12_field 76 = .ok (.iconst 0, 1) := by decide +kernel
theorem dX12_field_77 : decode cX12_field 77 = .ok (.iconst 2, 1) := by decide +kernel
theorem dX12_field_78 : decode cX12_field 78 = .ok (.invokevirtual 75, 3) := by decide +kernel
theorem dX12_field_81 : decode cX12_field 81 = .ok (.ifCond .ne 14, 3) := by decide +kernel
theorem dX12_field_84 : decode cX12_field 84 = .ok (.aload_n 0, 1) := by decide +kernel
theorem dX12_field_85 : decode cX12_field 85 = .ok (.iload_n 1, 1) := by decide +kernel
theorem dX12_field_86 : decode cX12_field 86 = .ok (.bipush 11, 2) := by decide +kernel
theorem dX12_field_88 : decode cX12_field 88 = .ok (.invokevirtual 79, 3) := by decide +kernel
theorem dX12_field_91 : decode cX12_field 91 = .ok (.iconst 1, 1) := by decide +kernel
theorem dX12_field_92 : decode cX12_field 92 = .ok (.if_icmp .ne 5, 3) := by decide +kernel
theorem dX12_field_95 : decode cX12_field 95 = .ok (.iconst 0, 1) := by decide +kernel
theorem dX12_field_96 : decode cX12_field 96 = .ok (.ireturn, 1) := by decide +kernel
theorem dX12_field_97 : decode cX12_field 97 = .ok (.aload_n 0, 1) := by decide +kernel
theorem dX12_field_98 : decode cX12_field 98 = .ok (.getfield 27, 3) := by decide +kernel
theorem dX12_field_101 : decode cX12_field 101 = .ok (.iload_n 1, 1) := by decide +kernel
theorem dX12_field_102 : decode cX12_field 102 = .ok (.iconst 0, 1) := by decide +kernel
theorem dX12_field_103 : decode cX12_field 103 = .ok (.invokestatic 59, 3) := by decide +kernel
theorem dX12_field_106 : decode cX12_field 106 = .ok (.iload_n 2, 1) := by decide +kernel
theorem dX12_field_107 : decode cX12_field 107 = .ok (.iastore, 1) := by decide +kernel
theorem dX12_field_108 : decode cX12_field 108 = .ok (.aload_n 0, 1) := by decide +kernel
theorem dX12_field_109 : decode cX12_field 109 = .ok (.getfield 27, 3) := by decide +kernel
theorem dX12_field_112 : decode cX12_field 112 = .ok (.iload_n 1, 1) := by decide +kernel
theorem dX12_field_113 : decode cX12_field 113 = .ok (.iconst 1, 1) := by decide +kernel
theorem dX12_field_114 : decode cX12_field 114 = .ok (.invokestatic 59, 3) := by decide +kernel
theorem dX12_field_117 : decode cX12_field 117 = .ok (.iload_n 3, 1) := by decide +kernel
theorem dX12_field_118 : decode cX12_field 118 = .ok (.iastore, 1) := by decide +kernel
theorem dX12_field_119 : decode cX12_field 119 = .ok (.aload_n 0, 1) := by decide +kernel
theorem dX12_field_120 : decode cX12_field 120 = .ok (.getfield 27, 3) := by decide +kernel
theorem dX12_field_123 : decode cX12_field 123 = .ok (.iload_n 1, 1) := by decide +kernel
theorem dX12_field_124 : decode cX12_field 124 = .ok (.iconst 2, 1) := by decide +kernel
theorem dX12_field_125 : decode cX12_field 125 = .ok (.invokestatic 59, 3) := by decide +kernel
theorem dX12_field_128 : decode cX12_field 128 = .ok (.iload 4, 2) := by decide +kernel
theorem dX12_field_130 : decode cX12_field 130 = .ok (.iastore, 1) := by decide +kernel
theorem dX12_field_131 : decode cX12_field 131 = .ok (.aload_n 0, 1) := by decide +kernel
theorem dX12_field_132 : decode cX12_field 132 = .ok (.getfield 27, 3) := by decide +kernel
theorem dX12_field_135 : decode cX12_field 135 = .ok (.iload_n 1, 1) := by decide +kernel
theorem dX12_field_136 : decode cX12_field 136 = .ok (.bipush 6, 2) := by decide +kernel
theorem dX12_field_138 : decode cX12_field 138 = .ok (.invokestatic 59, 3) := by decide +kernel
theorem dX12_field_141 : decode cX12_field 141 = .ok (.iload 5, 2) := by decide +kernel
theorem dX12_field_143 : decode cX12_field 143 = .ok (.iastore, 1) := by decide +kernel
theorem dX12_field_144 : decode cX12_field 144 = .ok (.aload_n 0, 1) := by decide +kernel
theorem dX12_field_145 : decode cX12_field 145 = .ok (.getfield 27, 3) := by decide +kernel
theorem dX12_field_148 : decode cX12_field 148 = .ok (.iload_n 1, 1) := by decide +kernel
theorem dX12_field_149 : decode cX12_field 149 = .ok (.bipush 7, 2) := by decide +kernel
theorem dX12_field_151 : decode cX12_field 151 = .ok (.invokestatic 59, 3) := by decide +kernel
theorem dX12_field_154 : decode cX12_field 154 = .ok (.iload 6, 2) := by decide +kernel
theorem dX12_field_156 : decode cX12_field 156 = .ok (.iastore, 1) := by decide +kernel
theorem dX12_field_157 : decode cX12_field 157 = .ok (.iconst 1, 1) := by decide +kernel
theorem dX12_field_158 : decode cX12_field 158 = .ok (.ireturn, 1) := by decide +kernel
noncomputable def E_X12_field : mE := (mX12_field, [(43, [(0, (.aload_n 0, 1, false, false, 0, 0, 0, 0, 0, 0, [])), (1, (.iconst 0, 2, false, false, 0, 0, 0, 0, 0, 0, [])), (2, (.putfield 3, 5, false, false, 15, 0, 0, 0, 0, 0, [])), (5, (.aload_n 0, 6, false, false, 0, 0, 0, 0, 0, 0, [])), (6, (.iload_n 1, 7, false, false, 1, 0, 0, 0, 0, 0, [])), (7, (.invokestatic 71, 10, false, false, 29, 1, 1, 0, 0, 0, [])), (10, (.iconst 1, 11, false, false, 0, 0, 0, 0, 1, 0, [])), (11, (.invokevirtual 75, 14, false, false, 30, 2, 1, 15, 0, 0, [])), (14, (.ifCond .ne 81, 17, false, false, 95, 0, 0, 0, 0, 0, [])), (17, (.aload_n 0, 18, false, false, 0, 0, 0, 0, 0, 0, [])), (18, (.iload_n 2, 19, false, false, 2, 0, 0, 0, 0, 0, [])), (19, (.iconst 0, 20, false, false, 0, 0, 0, 0, 0, 0, [])), (20, (.bipush 9, 22, false, false, 0, 0, 0, 0, 9, 0, [])), (22, (.invokestatic 63, 25, false, false, 28, 3, 1, 0, 0, 0, [])), (25, (.ifCond .eq 47, 28, false, false, 72, 0, 0, 0, 0, 0, [])), (28, (.iload_n 3, 29, false, false, 3, 0, 0, 0, 0, 0, [])), (29, (.iconst 0, 30, false, false, 0, 0, 0, 0, 0, 0, [])), (30, (.bipush 9, 32, false, false, 0, 0, 0, 0, 9, 0, [])), (32, (.invokestatic 63, 35, false, false, 28, 3, 1, 0, 0, 0, [])), (35, (.ifCond .eq 37, 38, false, false, 72, 0, 0, 0, 0, 0, [])), (38, (.iload 4, 40, false, false, 4, 0, 0, 0, 0, 0, [])), (40, (.iconst 0, 41, false, false, 0, 0, 0, 0, 0, 0, [])), (41, (.bipush 20, 43, false, false, 0, 0, 0, 0, 20, 0, [])), (43, (.invokestatic 63, 46, false, false, 28, 3, 1, 0, 0, 0, []))]),
  (95, [(46, (.ifCond .eq 26, 49, false, false, 72, 0, 0, 0, 0, 0, [])), (49, (.iload 5, 51, false, false, 5, 0, 0, 0, 0, 0, [])), (51, (.iconst 0, 52, false, false, 0, 0, 0, 0, 0, 0, [])), (52, (.bipush 99, 54, false, false, 0, 0, 0, 0, 99, 0, [])), (54, (.invokestatic 63, 57, false, false, 28, 3, 1, 0, 0, 0, [])), (57, (.ifCond .eq 15, 60, false, false, 72, 0, 0, 0, 0, 0, [])), (60, (.iload 6, 62, false, false, 6, 0, 0, 0, 0, 0, [])), (62, (.iconst 0, 63, false, false, 0, 0, 0, 0, 0, 0, [])), (63, (.sipush 300, 66, false, false, 0, 0, 0, 0, 300, 0, [])), (66, (.invokestatic 63, 69, false, false, 28, 3, 1, 0, 0, 0, [])), (69, (.ifCond .ne 7, 72, false, false, 76, 0, 0, 0, 0, 0, [])), (72, (.iconst 1, 73, false, false, 0, 0, 0, 0, 1, 0, [])), (73, (.goto 4, 76, false, true, 77, 0, 0, 0, 0, 0, [])), (76, (.iconst 0, 77, true, false, 0, 0, 0, 0, 0, 0, [])), (77, (.iconst 2, 78, false, false, 0, 0, 0, 0, 2, 0, [])), (78, (.invokevirtual 75, 81, false, false, 30, 2, 1, 15, 0, 0, [])), (81, (.ifCond .ne 14, 84, false, false, 95, 0, 0, 0, 0, 0, [])), (84, (.aload_n 0, 85, false, false, 0, 0, 0, 0, 0, 0, [])), (85, (.iload_n 1, 86, false, false, 1, 0, 0, 0, 0, 0, [])), (86, (.bipush 11, 88, false, false, 0, 0, 0, 0, 11, 0, [])), (88, (.invokevirtual 79, 91, false, false, 31, 2, 1, 15, 0, 0, [])), (91, (.iconst 1, 92, false, false, 0, 0, 0, 0, 1, 0, [])), (92, (.if_icmp .ne 5, 95, false, false, 97, 0, 0, 0, 0, 0, [])), (95, (.iconst 0, 96, false, false, 0, 0, 0, 0, 0, 0, []))]),
  (132, [(96, (.ireturn, 97, false, false, 0, 0, 1, 0, 0, 0, [])), (97, (.aload_n 0, 98, false, false, 0, 0, 0, 0, 0, 0, [])), (98, (.getfield 27, 101, false, false, 15, 1, 1, 0, 0, 0, [])), (101, (.iload_n 1, 102, false, false, 1, 0, 0, 0, 0, 0, [])), (102, (.iconst 0, 103, false, false, 0, 0, 0, 0, 0, 0, [])), (103, (.invokestatic 59, 106, false, false, 12, 2, 1, 0, 0, 0, [])), (106, (.iload_n 2, 107, false, false, 2, 0, 0, 0, 0, 0, [])), (107, (.iastore, 108, false, false, 0, 0, 0, 0, 0, 0, [])), (108, (.aload_n 0, 109, false, false, 0, 0, 0, 0, 0, 0, [])), (109, (.getfield 27, 112, false, false, 15, 1, 1, 0, 0, 0, [])), (112, (.iload_n 1, 113, false, false, 1, 0, 0, 0, 0, 0, [])), (113, (.iconst 1, 114, false, false, 0, 0, 0, 0, 1, 0, [])), (114, (.invokestatic 59, 117, false, false, 12, 2, 1, 0, 0, 0, [])), (117, (.iload_n 3, 118, false, false, 3, 0, 0, 0, 0, 0, [])), (118, (.iastore, 119, false, false, 0, 0, 0, 0, 0, 0, [])), (119, (.aload_n 0, 120, false, false, 0, 0, 0, 0, 0, 0, [])), (120, (.getfield 27, 123, false, false, 15, 1, 1, 0, 0, 0, [])), (123, (.iload_n 1, 124, false, false, 1, 0, 0, 0, 0, 0, [])), (124, (.iconst 2, 125, false, false, 0, 0, 0, 0, 2, 0, [])), (125, (.invokestatic 59, 128, false, false, 12, 2, 1, 0, 0, 0, [])), (128, (.iload 4, 130, false, false, 4, 0, 0, 0, 0, 0, [])), (130, (.iastore, 131, false, false, 0, 0, 0, 0, 0, 0, [])), (131, (.aload_n 0, 132, false, false, 0, 0, 0, 0, 0, 0, [])), (132, (.getfield 27, 135, false, false, 15, 1, 1, 0, 0, 0, []))]),
  (158, [(135, (.iload_n 1, 136, false, false, 1, 0, 0, 0, 0, 0, [])), (136, (.bipush 6, 138, false, false, 0, 0, 0, 0, 6, 0, [])), (138, (.invokestatic 59, 141, false, false, 12, 2, 1, 0, 0, 0, [])), (141, (.iload 5, 143, false, false, 5, 0, 0, 0, 0, 0, [])), (143, (.iastore, 144, false, false, 0, 0, 0, 0, 0, 0, [])), (144, (.aload_n 0, 145, false, false, 0, 0, 0, 0, 0, 0, [])), (145, (.getfield 27, 148, false, false, 15, 1, 1, 0, 0, 0, [])), (148, (.iload_n 1, 149, false, false, 1, 0, 0, 0, 0, 0, [])), (149, (.bipush 7, 151, false, false, 0, 0, 0, 0, 7, 0, [])), (151, (.invokestatic 59, 154, false, false, 12, 2, 1, 0, 0, 0, [])), (154, (.iload 6, 156, false, false, 6, 0, 0, 0, 0, 0, [])), (156, (.iastore, 157, false, false, 0, 0, 0, 0, 0, 0, [])), (157, (.iconst 1, 158, false, false, 0, 0, 0, 0, 1, 0, [])), (158, (.ireturn, 159, false, false, 0, 0, 1, 0, 0, 0, []))])], 0, [])
set_option maxRecDepth 100000 in
theorem v_X12_field : VE MYT dflT E_X12_field := ⟨⟨⟨⟨⟨dX12_field_0, rfl⟩, rfl⟩, ⟨⟨dX12_field_1, rfl⟩, rfl⟩, ⟨⟨dX12_field_2, rfl⟩, Or.inl ⟨rfl, fX12_3⟩⟩, ⟨⟨dX12_field_5, rfl⟩, rfl⟩, ⟨⟨dX12_field_6, rfl⟩, rfl⟩, ⟨⟨dX12_field_7, rfl⟩, Or.inl ⟨rfl, _, my_29, sX12_71⟩⟩, ⟨⟨dX12_field_10, rfl⟩, rfl⟩, ⟨⟨dX12_field_11, rfl⟩, Or.inr ⟨by decide, ⟨_, my_30, sX12_75⟩, fun q => absurd q (by decide)⟩⟩, ⟨⟨dX12_field_14, rfl⟩, rfl⟩, ⟨⟨dX12_field_17, rfl⟩, rfl⟩, ⟨⟨dX12_field_18, rfl⟩, rfl⟩, ⟨⟨dX12_field_19, rfl⟩, rfl⟩, ⟨⟨dX12_field_20, rfl⟩, rfl⟩, ⟨⟨dX12_field_22, rfl⟩, Or.inl ⟨rfl, _, my_28, sX12_63⟩⟩, ⟨⟨dX12_field_25, rfl⟩, rfl⟩, ⟨⟨dX12_field_28, rfl⟩, rfl⟩, ⟨⟨dX12_field_29, rfl⟩, rfl⟩, ⟨⟨dX12_field_30, rfl⟩, rfl⟩, ⟨⟨dX12_field_32, rfl⟩, Or.inl ⟨rfl, _, my_28, sX12_63⟩⟩, ⟨⟨dX12_field_35, rfl⟩, rfl⟩, ⟨⟨dX12_field_38, rfl⟩, rfl⟩, ⟨⟨dX12_field_40, rfl⟩, rfl⟩, ⟨⟨dX12_field_41, rfl⟩, rfl⟩, ⟨⟨dX12_field_43, rfl⟩, Or.inl ⟨rfl, _, my_28, sX12_63⟩⟩, trivial⟩,
  ⟨⟨⟨dX12_field_46, rfl⟩, rfl⟩, ⟨⟨dX12_field_49, rfl⟩, rfl⟩, ⟨⟨dX12_field_51, rfl⟩, rfl⟩, ⟨⟨dX12_field_52, rfl⟩, rfl⟩, ⟨⟨dX12_field_54, rfl⟩, Or.inl ⟨rfl, _, my_28, sX12_63⟩⟩, ⟨⟨dX12_field_57, rfl⟩, rfl⟩, ⟨⟨dX12_field_60, rfl⟩, rfl⟩, ⟨⟨dX12_field_62, rfl⟩, rfl⟩, ⟨⟨dX12_field_63, rfl⟩, rfl⟩, ⟨⟨dX12_field_66, rfl⟩, Or.inl ⟨rfl, _, my_28, sX12_63⟩⟩, ⟨⟨dX12_field_69, rfl⟩, rfl⟩, ⟨⟨dX12_field_72, rfl⟩, rfl⟩, ⟨⟨dX12_field_73, rfl⟩, rfl⟩, ⟨⟨dX12_field_76, rfl⟩, rfl⟩, ⟨⟨dX12_field_77, rfl⟩, rfl⟩, ⟨⟨dX12_field_78, rfl⟩, Or.inr ⟨by decide, ⟨_, my_30, sX12_75⟩, fun q => absurd q (by decide)⟩⟩, ⟨⟨dX12_field_81, rfl⟩, rfl⟩, ⟨⟨dX12_field_84, rfl⟩, rfl⟩, ⟨⟨dX12_field_85, rfl⟩, rfl⟩, ⟨⟨dX12_field_86, rfl⟩, rfl⟩, ⟨⟨dX12_field_88, rfl⟩, Or.inr ⟨by decide, ⟨_, my_31, sX12_79⟩, fun q => absurd q (by decide)⟩⟩, ⟨⟨dX12_field_91, rfl⟩, rfl⟩, ⟨⟨dX12_field_92, rfl⟩, rfl⟩, ⟨⟨dX12_field_95, rfl⟩, rfl⟩, trivial⟩,
  ⟨⟨⟨dX12_field_96, rfl⟩, Or.inr (Or.inl ⟨rfl, rfl⟩)⟩, ⟨⟨dX12_field_97, rfl⟩, rfl⟩, ⟨⟨dX12_field_98, rfl⟩, Or.inl ⟨by decide, _, _, fX12_27⟩⟩, ⟨⟨dX12_field_101, rfl⟩, rfl⟩, ⟨⟨dX12_field_102, rfl⟩, rfl⟩, ⟨⟨dX12_field_103, rfl⟩, Or.inl ⟨rfl, _, my_12, sX12_59⟩⟩, ⟨⟨dX12_field_106, rfl⟩, rfl⟩, ⟨⟨dX12_field_107, rfl⟩, trivial⟩, ⟨⟨dX12_field_108, rfl⟩, rfl⟩, ⟨⟨dX12_field_109, rfl⟩, Or.inl ⟨by decide, _, _, fX12_27⟩⟩, ⟨⟨dX12_field_112, rfl⟩, rfl⟩, ⟨⟨dX12_field_113, rfl⟩, rfl⟩, ⟨⟨dX12_field_114, rfl⟩, Or.inl ⟨rfl, _, my_12, sX12_59⟩⟩, ⟨⟨dX12_field_117, rfl⟩, rfl⟩, ⟨⟨dX12_field_118, rfl⟩, trivial⟩, ⟨⟨dX12_field_119, rfl⟩, rfl⟩, ⟨⟨dX12_field_120, rfl⟩, Or.inl ⟨by decide, _, _, fX12_27⟩⟩, ⟨⟨dX12_field_123, rfl⟩, rfl⟩, ⟨⟨dX12_field_124, rfl⟩, rfl⟩, ⟨⟨dX12_field_125, rfl⟩, Or.inl ⟨rfl, _, my_12, sX12_59⟩⟩, ⟨⟨dX12_field_128, rfl⟩, rfl⟩, ⟨⟨dX12_field_130, rfl⟩, trivial⟩, ⟨⟨dX12_field_131, rfl⟩, rfl⟩, ⟨⟨dX12_field_132, rfl⟩, Or.inl ⟨by decide, _, _, fX12_27⟩⟩, trivial⟩,
  ⟨⟨⟨dX12_field_135, rfl⟩, rfl⟩, ⟨⟨dX12_field_136, rfl⟩, rfl⟩, ⟨⟨dX12_field_138, rfl⟩, Or.inl ⟨rfl, _, my_12, sX12_59⟩⟩, ⟨⟨dX12_field_141, rfl⟩, rfl⟩, ⟨⟨dX12_field_143, rfl⟩, trivial⟩, ⟨⟨dX12_field_144, rfl⟩, rfl⟩, ⟨⟨dX12_field_145, rfl⟩, Or.inl ⟨by decide, _, _, fX12_27⟩⟩, ⟨⟨dX12_field_148, rfl⟩, rfl⟩, ⟨⟨dX12_field_149, rfl⟩, rfl⟩, ⟨⟨dX12_field_151, rfl⟩, Or.inl ⟨rfl, _, my_12, sX12_59⟩⟩, ⟨⟨dX12_field_154, rfl⟩, rfl⟩, ⟨⟨dX12_field_156, rfl⟩, trivial⟩, ⟨⟨dX12_field_157, rfl⟩, rfl⟩, ⟨⟨dX12_field_158, rfl⟩, Or.inr (Or.inl ⟨rfl, rfl⟩)⟩, trivial⟩, trivial⟩, by decide, Or.inl ⟨rfl, by decide, rfl⟩⟩
set_option maxRecDepth 100000 in
theorem g_X12_field_0 (S : sT) (call : cT) (n : Nat) (a0 : Nat) (x1 : Int32) (x2 : Int32) (x3 : Int32) (x4 : Int32) (x5 : Int32) (x6 : Int32) (h : pH) : bd S call dflT E_X12_field (n + 1) 0 [some (.ref a0), some (.int x1), some (.int x2), some (.int x3), some (.int x4), some (.int x5), some (.int x6)] [] h = (pF h (.ref a0) 15 0 (.int 0) (fun h1 => cI (call 29 [.int x1] h1) (fun y3 h2 => rC h2 (.ref a0) 15 (cI (call 30 [.ref a0, .int y3, .int 1] h2) (fun y5 h4 => (if y5 = 0 then cI (call 28 [.int x2, .int 0, .int 9] h4) (fun y7 h6 => (if y7 = 0 then bd S call dflT E_X12_field n 77 [some (.ref a0), some (.int x1), some (.int x2), some (.int x3), some (.int x4), some (.int x5), some (.int x6)] [.int 1, .ref a0] h6 else cI (call 28 [.int x3, .int 0, .int 9] h6) (fun y9 h8 => (if y9 = 0 then bd S call dflT E_X12_field n 77 [some (.ref a0), some (.int x1), some (.int x2), some (.int x3), some (.int x4), some (.int x5), some (.int x6)] [.int 1, .ref a0] h8 else cI (call 28 [.int x4, .int 0, .int 20] h8) (fun y11 h10 => (if y11 = 0 then bd S call dflT E_X12_field n 77 [some (.ref a0), some (.int x1), some (.int x2), some (.int x3), some (.int x4), some (.int x5), some (.int x6)] [.int 1, .ref a0] h10 else cI (call 28 [.int x5, .int 0, .int 99] h10) (fun y13 h12 => (if y13 = 0 then bd S call dflT E_X12_field n 77 [some (.ref a0), some (.int x1), some (.int x2), some (.int x3), some (.int x4), some (.int x5), some (.int x6)] [.int 1, .ref a0] h12 else cI (call 28 [.int x6, .int 0, .int 300] h12) (fun y15 h14 => (if y15 = 0 then bd S call dflT E_X12_field n 77 [some (.ref a0), some (.int x1), some (.int x2), some (.int x3), some (.int x4), some (.int x5), some (.int x6)] [.int 1, .ref a0] h14 else bd S call dflT E_X12_field n 77 [some (.ref a0), some (.int x1), some (.int x2), some (.int x3), some (.int x4), some (.int x5), some (.int x6)] [.int 0, .ref a0] h14)))))))))) else zR 0 (some (.inl (some (.int 0)), h4)))))))) := rfl
set_option maxRecDepth 100000 in
theorem g_X12_field_77 (S : sT) (call : cT) (n : Nat) (a0 : Nat) (x1 : Int32) (x2 : Int32) (x3 : Int32) (x4 : Int32) (x5 : Int32) (x6 : Int32) (u0 : Value) (y1 : Int32) (h : pH) : bd S call dflT E_X12_field (n + 1) 77 [some (.ref a0), some (.int x1), some (.int x2), some (.int x3), some (.int x4), some (.int x5), some (.int x6)] [.int y1, u0] h = (rC h u0 15 (cI (call 30 [u0, .int y1, .int 2] h) (fun y2 h1 => (if y2 = 0 then rC h1 (.ref a0) 15 (cI (call 31 [.ref a0, .int x1, .int 11] h1) (fun y4 h3 => (if y4 = 1 then zR 0 (some (.inl (some (.int 0)), h3)) else gV h3 (.ref a0) 15 1 (fun w5 => cI (call 12 [.int x1, .int 0] h3) (fun y7 h6 => sI h6 w5 0 y7 x2 (fun h8 => gV h8 (.ref a0) 15 1 (fun w9 => cI (call 12 [.int x1, .int 1] h8) (fun y11 h10 => sI h10 w9 0 y11 x3 (fun h12 => gV h12 (.ref a0) 15 1 (fun w13 => cI (call 12 [.int x1, .int 2] h12) (fun y15 h14 => sI h14 w13 0 y15 x4 (fun h16 => gV h16 (.ref a0) 15 1 (fun w17 => cI (call 12 [.int x1, .int 6] h16) (fun y19 h18 => sI h18 w17 0 y19 x5 (fun h20 => gV h20 (.ref a0) 15 1 (fun w21 => cI (call 12 [.int x1, .int 7] h20) (fun y23 h22 => sI h22 w21 0 y23 x6 (fun h24 => zR 1 (some (.inl (some (.int 1)), h24)))))))))))))))))))) else zR 0 (some (.inl (some (.int 0)), h1)))))) := rfl
theorem dX12_thrown_0 : decode cX12_thrown 0 = .ok (.aload_n 0, 1) := by decide +kernel
theorem dX12_thrown_1 : decode cX12_thrown 1 = .ok (.getfield 3, 3) := by decide +kernel
theorem dX12_thrown_4 : decode cX12_thrown 4 = .ok (.ireturn, 1) := by decide +kernel
noncomputable def E_X12_thrown : mE := (mX12_thrown, [(4, [(0, (.aload_n 0, 1, false, false, 0, 0, 0, 0, 0, 0, [])), (1, (.getfield 3, 4, false, false, 15, 0, 0, 0, 0, 0, [])), (4, (.ireturn, 5, false, false, 0, 0, 0, 0, 0, 0, []))])], 0, [])
set_option maxRecDepth 100000 in
theorem v_X12_thrown : VE MYT dflT E_X12_thrown := ⟨⟨⟨⟨⟨dX12_thrown_0, rfl⟩, rfl⟩, ⟨⟨dX12_thrown_1, rfl⟩, Or.inl ⟨by decide, _, _, fX12_3⟩⟩, ⟨⟨dX12_thrown_4, rfl⟩, Or.inl ⟨rfl, rfl⟩⟩, trivial⟩, trivial⟩, by decide, Or.inl ⟨rfl, by decide, rfl⟩⟩
set_option maxRecDepth 100000 in
theorem g_X12_thrown_0 (S : sT) (call : cT) (n : Nat) (a0 : Nat) (h : pH) : bd S call dflT E_X12_thrown (n + 1) 0 [some (.ref a0)] [] h = (gI h (.ref a0) 15 0 (fun y1 => some (.inl (some (.int y1)), h))) := rfl
theorem dX12_rain_0 : decode cX12_rain 0 = .ok (.aload_n 0, 1) := by decide +kernel
theorem dX12_rain_1 : decode cX12_rain 1 = .ok (.iconst 0, 1) := by decide +kernel
theorem dX12_rain_2 : decode cX12_rain 2 = .ok (.putfield 3, 3) := by decide +kernel
theorem dX12_rain_5 : decode cX12_rain 5 = .ok (.aload_n 0, 1) := by decide +kernel
theorem dX12_rain_6 : decode cX12_rain 6 = .ok (.iload_n 1, 1) := by decide +kernel
theorem dX12_rain_7 : decode cX12_rain 7 = .ok (.iconst 0, 1) := by decide +kernel
theorem dX12_rain_8 : decode cX12_rain 8 = .ok (.bipush 100, 2) := by decide +kernel
theorem dX12_rain_10 : decode cX12_rain 10 = .ok (.invokestatic 63, 3) := by decide +kernel
theorem dX12_rain_13 : decode cX12_rain 13 = .ok (.ifCond .eq 17, 3) := by decide +kernel
theorem dX12_rain_16 : decode cX12_rain 16 = .ok (.iload_n 3, 1) := by decide +kernel
theorem dX12_rain_17 : decode cX12_rain 17 = .ok (.ifCond .eq 17, 3) := by decide +kernel
theorem dX12_rain_20 : decode cX12_rain 20 = .ok (.iload_n 2, 1) := by decide +kernel
theorem dX12_rain_21 : decode cX12_rain 21 = .ok (.bipush (-5), 2) := by decide +kernel
theorem dX12_rain_23 : decode cX12_rain 23 = .ok (.iconst 5, 1) := by decide +kernel
theorem dX12_rain_24 : decode cX12_rain 24 = .ok (.invokestatic 63, 3) := by decide +kernel
theorem dX12_rain_27 : decode cX12_rain 27 = .ok (.ifCond .ne 7, 3) := by decide +kernel
theorem dX12_rain_30 : decode cX12_rain 30 = .ok (.iconst 1, 1) := by decide +kernel
theorem dX12_rain_31 : decode cX12_rain 31 = .ok (.goto 4, 3) := by decide +kernel
theorem dX12_rain_34 : decode cX12_rain 34 = .ok (.iconst 0, 1) := by decide +kernel
theorem dX12_rain_35 : decode cX12_rain 35 = .ok (.iconst 1, 1) := by decide +kernel
theorem dX12_rain_36 : decode cX12_rain 36 = .ok (.invokevirtual 75, 3) := by decide +kernel
theorem dX12_rain_39 : decode cX12_rain 39 = .ok (.ifCond .eq 4, 3) := by decide +kernel
theorem dX12_rain_42 : decode cX12_rain 42 = .ok (.return_, 1) := by decide +kernel
theorem dX12_rain_43 : decode cX12_rain 43 = .ok (.aload_n 0, 1) := by decide +kernel
theorem dX12_rain_44 : decode cX12_rain 44 = .ok (.getfield 27, 3) := by decide +kernel
theorem dX12_rain_47 : decode cX12_rain 47 = .ok (.sipush 680, 3) := by decide +kernel
theorem dX12_rain_50 : decode cX12_rain 50 = .ok (.iconst 2, 1) := by decide +kernel
theorem dX12_rain_51 : decode cX12_rain 51 = .ok (.iload_n 1, 1) := by decide +kernel
theorem dX12_rain_52 : decode cX12_rain 52 = .ok (.imul, 1) := by decide +kernel
theorem dX12_rain_53 : decode cX12_rain 53 = .ok (.iadd, 1) := by decide +kernel
theorem dX12_rain_54 : decode cX12_rain 54 = .ok (.iload_n 3, 1) := by decide +kernel
theorem dX12_rain_55 : decode cX12_rain 55 = .ok (.ifCond .eq 7, 3) := by decide +kernel
theorem dX12_rain_58 : decode cX12_rain 58 = .ok (.iload_n 2, 1) := by decide +kernel
theorem dX12_rain_59 : decode cX12_rain 59 = .ok (.goto 4, 3) := by decide +kernel
theorem dX12_rain_62 : decode cX12_rain 62 = .ok (.iconst 0, 1) := by decide +kernel
theorem dX12_rain_63 : decode cX12_rain 63 = .ok (.iastore, 1) := by decide +kernel
theorem dX12_rain_64 : decode cX12_rain 64 = .ok (.aload_n 0, 1) := by decide +kernel
theorem dX12_rain_65 : decode cX12_rain 65 = .ok (.getfield 27, 3) := by decide +kernel
theorem dX12_rain_68 : decode cX12_rain 68 = .ok (.sipush 680, 3) := by decide +kernel
theorem dX12_rain_71 : decode cX12_rain 71 = .ok (.iconst 2, 1) := by decide +kernel
theorem dX12_rain_72 : decode cX12_rain 72 = .ok (.iload_n 1, 1) := by decide +kernel
theorem dX12_rain_73 : decode cX12_rain 73 = .ok (.imul, 1) := by decide +kernel
theorem dX12_rain_74 : decode cX12_rain 74 = .ok (.iadd, 1) := by decide +kernel
theorem dX12_rain_75 : decode cX12_rain 75 = .ok (.iconst 1, 1) := by decide +kernel
theorem dX12_rain_76 : decode cX12_rain 76 = .ok (.iadd, 1) := by decide +kernel
theorem dX12_rain_77 : decode cX12_rain 77 = .ok (.iload_n 3, 1) := by decide +kernel
theorem dX12_rain_78 : decode cX12_rain 78 = .ok (.ifCond .eq 7, 3) := by decide +kernel
theorem dX12_rain_81 : decode cX12_rain 81 = .ok (.iconst 1, 1) := by decide +kernel
theorem dX12_rain_82 : decode cX12_rain 82 = .ok (.goto 4, 3) := by decide +kernel
theorem dX12_rain_85 : decode cX12_rain 85 = .ok (.iconst 0, 1) := by decide +kernel
theorem dX12_rain_86 : decode cX12_rain 86 = .ok (.iastore, 1) := by decide +kernel
theorem dX12_rain_87 : decode cX12_rain 87 = .ok (.return_, 1) := by decide +kernel
noncomputable def E_X12_rain : mE := (mX12_rain, [(43, [(0, (.aload_n 0, 1, false, false, 0, 0, 0, 0, 0, 0, [])), (1, (.iconst 0, 2, false, false, 0, 0, 0, 0, 0, 0, [])), (2, (.putfield 3, 5, false, false, 15, 0, 0, 0, 0, 0, [])), (5, (.aload_n 0, 6, false, false, 0, 0, 0, 0, 0, 0, [])), (6, (.iload_n 1, 7, false, false, 1, 0, 0, 0, 0, 0, [])), (7, (.iconst 0, 8, false, false, 0, 0, 0, 0, 0, 0, [])), (8, (.bipush 100, 10, false, false, 0, 0, 0, 0, 100, 0, [])), (10, (.invokestatic 63, 13, false, false, 28, 3, 1, 0, 0, 0, [])), (13, (.ifCond .eq 17, 16, false, false, 30, 0, 0, 0, 0, 0, [])), (16, (.iload_n 3, 17, false, false, 3, 0, 0, 0, 0, 0, [])), (17, (.ifCond .eq 17, 20, false, false, 34, 0, 0, 0, 0, 0, [])), (20, (.iload_n 2, 21, false, false, 2, 0, 0, 0, 0, 0, [])), (21, (.bipush (-5), 23, false, false, 0, 0, 0, 0, -5, 0, [])), (23, (.iconst 5, 24, false, false, 0, 0, 0, 0, 5, 0, [])), (24, (.invokestatic 63, 27, false, false, 28, 3, 1, 0, 0, 0, [])), (27, (.ifCond .ne 7, 30, false, false, 34, 0, 0, 0, 0, 0, [])), (30, (.iconst 1, 31, false, false, 0, 0, 0, 0, 1, 0, [])), (31, (.goto 4, 34, false, true, 35, 0, 0, 0, 0, 0, [])), (34, (.iconst 0, 35, true, false, 0, 0, 0, 0, 0, 0, [])), (35, (.iconst 1, 36, false, false, 0, 0, 0, 0, 1, 0, [])), (36, (.invokevirtual 75, 39, false, false, 30, 2, 1, 15, 0, 0, [])), (39, (.ifCond .eq 4, 42, false, false, 43, 0, 0, 0, 0, 0, [])), (42, (.return_, 43, false, false, 0, 0, 0, 0, 0, 0, [])), (43, (.aload_n 0, 44, false, false, 0, 0, 0, 0, 0, 0, []))]),
  (81, [(44, (.getfield 27, 47, false, false, 15, 1, 1, 0, 0, 0, [])), (47, (.sipush 680, 50, false, false, 0, 0, 0, 0, 680, 0, [])), (50, (.iconst 2, 51, false, false, 0, 0, 0, 0, 2, 0, [])), (51, (.iload_n 1, 52, false, false, 1, 0, 0, 0, 0, 0, [])), (52, (.imul, 53, false, false, 0, 0, 0, 0, 0, 0, [])), (53, (.iadd, 54, false, false, 0, 0, 0, 0, 0, 0, [])), (54, (.iload_n 3, 55, false, false, 3, 0, 0, 0, 0, 0, [])), (55, (.ifCond .eq 7, 58, false, false, 62, 0, 0, 0, 0, 0, [])), (58, (.iload_n 2, 59, false, false, 2, 0, 0, 0, 0, 0, [])), (59, (.goto 4, 62, false, true, 63, 0, 0, 0, 0, 0, [])), (62, (.iconst 0, 63, true, false, 0, 0, 0, 0, 0, 0, [])), (63, (.iastore, 64, false, false, 0, 0, 0, 0, 0, 0, [])), (64, (.aload_n 0, 65, false, false, 0, 0, 0, 0, 0, 0, [])), (65, (.getfield 27, 68, false, false, 15, 1, 1, 0, 0, 0, [])), (68, (.sipush 680, 71, false, false, 0, 0, 0, 0, 680, 0, [])), (71, (.iconst 2, 72, false, false, 0, 0, 0, 0, 2, 0, [])), (72, (.iload_n 1, 73, false, false, 1, 0, 0, 0, 0, 0, [])), (73, (.imul, 74, false, false, 0, 0, 0, 0, 0, 0, [])), (74, (.iadd, 75, false, false, 0, 0, 0, 0, 0, 0, [])), (75, (.iconst 1, 76, false, false, 0, 0, 0, 0, 1, 0, [])), (76, (.iadd, 77, false, false, 0, 0, 0, 0, 0, 0, [])), (77, (.iload_n 3, 78, false, false, 3, 0, 0, 0, 0, 0, [])), (78, (.ifCond .eq 7, 81, false, false, 85, 0, 0, 0, 0, 0, [])), (81, (.iconst 1, 82, false, false, 0, 0, 0, 0, 1, 0, []))]),
  (87, [(82, (.goto 4, 85, false, false, 86, 0, 0, 0, 0, 0, [])), (85, (.iconst 0, 86, false, false, 0, 0, 0, 0, 0, 0, [])), (86, (.iastore, 87, false, false, 0, 0, 0, 0, 0, 0, [])), (87, (.return_, 88, false, false, 0, 0, 0, 0, 0, 0, []))])], 0, [])
set_option maxRecDepth 100000 in
theorem v_X12_rain : VE MYT dflT E_X12_rain := ⟨⟨⟨⟨⟨dX12_rain_0, rfl⟩, rfl⟩, ⟨⟨dX12_rain_1, rfl⟩, rfl⟩, ⟨⟨dX12_rain_2, rfl⟩, Or.inl ⟨rfl, fX12_3⟩⟩, ⟨⟨dX12_rain_5, rfl⟩, rfl⟩, ⟨⟨dX12_rain_6, rfl⟩, rfl⟩, ⟨⟨dX12_rain_7, rfl⟩, rfl⟩, ⟨⟨dX12_rain_8, rfl⟩, rfl⟩, ⟨⟨dX12_rain_10, rfl⟩, Or.inl ⟨rfl, _, my_28, sX12_63⟩⟩, ⟨⟨dX12_rain_13, rfl⟩, rfl⟩, ⟨⟨dX12_rain_16, rfl⟩, rfl⟩, ⟨⟨dX12_rain_17, rfl⟩, rfl⟩, ⟨⟨dX12_rain_20, rfl⟩, rfl⟩, ⟨⟨dX12_rain_21, rfl⟩, rfl⟩, ⟨⟨dX12_rain_23, rfl⟩, rfl⟩, ⟨⟨dX12_rain_24, rfl⟩, Or.inl ⟨rfl, _, my_28, sX12_63⟩⟩, ⟨⟨dX12_rain_27, rfl⟩, rfl⟩, ⟨⟨dX12_rain_30, rfl⟩, rfl⟩, ⟨⟨dX12_rain_31, rfl⟩, rfl⟩, ⟨⟨dX12_rain_34, rfl⟩, rfl⟩, ⟨⟨dX12_rain_35, rfl⟩, rfl⟩, ⟨⟨dX12_rain_36, rfl⟩, Or.inr ⟨by decide, ⟨_, my_30, sX12_75⟩, fun q => absurd q (by decide)⟩⟩, ⟨⟨dX12_rain_39, rfl⟩, rfl⟩, ⟨⟨dX12_rain_42, rfl⟩, rfl⟩, ⟨⟨dX12_rain_43, rfl⟩, rfl⟩, trivial⟩,
  ⟨⟨⟨dX12_rain_44, rfl⟩, Or.inl ⟨by decide, _, _, fX12_27⟩⟩, ⟨⟨dX12_rain_47, rfl⟩, rfl⟩, ⟨⟨dX12_rain_50, rfl⟩, rfl⟩, ⟨⟨dX12_rain_51, rfl⟩, rfl⟩, ⟨⟨dX12_rain_52, rfl⟩, trivial⟩, ⟨⟨dX12_rain_53, rfl⟩, trivial⟩, ⟨⟨dX12_rain_54, rfl⟩, rfl⟩, ⟨⟨dX12_rain_55, rfl⟩, rfl⟩, ⟨⟨dX12_rain_58, rfl⟩, rfl⟩, ⟨⟨dX12_rain_59, rfl⟩, rfl⟩, ⟨⟨dX12_rain_62, rfl⟩, rfl⟩, ⟨⟨dX12_rain_63, rfl⟩, trivial⟩, ⟨⟨dX12_rain_64, rfl⟩, rfl⟩, ⟨⟨dX12_rain_65, rfl⟩, Or.inl ⟨by decide, _, _, fX12_27⟩⟩, ⟨⟨dX12_rain_68, rfl⟩, rfl⟩, ⟨⟨dX12_rain_71, rfl⟩, rfl⟩, ⟨⟨dX12_rain_72, rfl⟩, rfl⟩, ⟨⟨dX12_rain_73, rfl⟩, trivial⟩, ⟨⟨dX12_rain_74, rfl⟩, trivial⟩, ⟨⟨dX12_rain_75, rfl⟩, rfl⟩, ⟨⟨dX12_rain_76, rfl⟩, trivial⟩, ⟨⟨dX12_rain_77, rfl⟩, rfl⟩, ⟨⟨dX12_rain_78, rfl⟩, rfl⟩, ⟨⟨dX12_rain_81, rfl⟩, rfl⟩, trivial⟩,
  ⟨⟨⟨dX12_rain_82, rfl⟩, rfl⟩, ⟨⟨dX12_rain_85, rfl⟩, rfl⟩, ⟨⟨dX12_rain_86, rfl⟩, trivial⟩, ⟨⟨dX12_rain_87, rfl⟩, rfl⟩, trivial⟩, trivial⟩, by decide, Or.inl ⟨rfl, by decide, rfl⟩⟩
set_option maxRecDepth 100000 in
theorem g_X12_rain_0 (S : sT) (call : cT) (n : Nat) (a0 : Nat) (x1 : Int32) (x2 : Int32) (x3 : Int32) (h : pH) : bd S call dflT E_X12_rain (n + 1) 0 [some (.ref a0), some (.int x1), some (.int x2), some (.int x3)] [] h = (pF h (.ref a0) 15 0 (.int 0) (fun h1 => cI (call 28 [.int x1, .int 0, .int 100] h1) (fun y3 h2 => (if y3 = 0 then bd S call dflT E_X12_rain n 35 [some (.ref a0), some (.int x1), some (.int x2), some (.int x3)] [.int 1, .ref a0] h2 else (if x3 = 0 then bd S call dflT E_X12_rain n 35 [some (.ref a0), some (.int x1), some (.int x2), some (.int x3)] [.int 0, .ref a0] h2 else cI (call 28 [.int x2, .int (-5), .int 5] h2) (fun y5 h4 => (if y5 = 0 then bd S call dflT E_X12_rain n 35 [some (.ref a0), some (.int x1), some (.int x2), some (.int x3)] [.int 1, .ref a0] h4 else bd S call dflT E_X12_rain n 35 [some (.ref a0), some (.int x1), some (.int x2), some (.int x3)] [.int 0, .ref a0] h4))))))) := rfl
set_option maxRecDepth 100000 in
theorem g_X12_rain_35 (S : sT) (call : cT) (n : Nat) (a0 : Nat) (x1 : Int32) (x2 : Int32) (x3 : Int32) (u0 : Value) (y1 : Int32) (h : pH) : bd S call dflT E_X12_rain (n + 1) 35 [some (.ref a0), some (.int x1), some (.int x2), some (.int x3)] [.int y1, u0] h = (rC h u0 15 (cI (call 30 [u0, .int y1, .int 1] h) (fun y2 h1 => (if y2 = 0 then gV h1 (.ref a0) 15 1 (fun w3 => (if x3 = 0 then bd S call dflT E_X12_rain n 63 [some (.ref a0), some (.int x1), some (.int x2), some (.int x3)] [.int 0, .int (680 + (2 * x1)), w3] h1 else bd S call dflT E_X12_rain n 63 [some (.ref a0), some (.int x1), some (.int x2), some (.int x3)] [.int x2, .int (680 + (2 * x1)), w3] h1)) else some (.inl none, h1))))) := rfl
set_option maxRecDepth 100000 in
theorem g_X12_rain_63 (S : sT) (call : cT) (n : Nat) (a0 : Nat) (x1 : Int32) (x2 : Int32) (x3 : Int32) (u0 : Value) (y1 : Int32) (y2 : Int32) (h : pH) : bd S call dflT E_X12_rain (n + 1) 63 [some (.ref a0), some (.int x1), some (.int x2), some (.int x3)] [.int y2, .int y1, u0] h = (sI h u0 0 y1 y2 (fun h1 => gV h1 (.ref a0) 15 1 (fun w2 => (if x3 = 0 then sI h1 w2 0 ((680 + (2 * x1)) + 1) 0 (fun h3 => some (.inl none, h3)) else sI h1 w2 0 ((680 + (2 * x1)) + 1) 1 (fun h4 => some (.inl none, h4)))))) := rfl
theorem dX12_rainTold_0 : decode cX12_rainTold 0 = .ok (.iload_n 1, 1) := by decide +kernel
theorem dX12_rainTold_1 : decode cX12_rainTold 1 = .ok (.iconst 0, 1) := by decide +kernel
theorem dX12_rainTold_2 : decode cX12_rainTold 2 = .ok (.bipush 100, 2) := by decide +kernel
theorem dX12_rainTold_4 : decode cX12_rainTold 4 = .ok (.invokestatic 63, 3) := by decide +kernel
theorem dX12_rainTold_7 : decode cX12_rainTold 7 = .ok (.ifCond .eq 18, 3) := by decide +kernel
theorem dX12_rainTold_10 : decode cX12_rainTold 10 = .ok (.aload_n 0, 1) := by decide +kernel
theorem dX12_rainTold_11 : decode cX12_rainTold 11 = .ok (.getfield 27, 3) := by decide +kernel
theorem dX12_rainTold_14 : decode cX12_rainTold 14 = .ok (.sipush 680, 3) := by decide +kernel
theorem dX12_rainTold_17 : decode cX12_rainTold 17 = .ok (.iconst 2, 1) := by decide +kernel
theorem dX12_rainTold_18 : decode cX12_rainTold 18 = .ok (.iload_n 1, 1) := by decide +kernel
theorem dX12_rainTold_19 : decode cX12_rainTold 19 = .ok (.imul, 1) := by decide +kernel
theorem dX12_rainTold_20 : decode cX12_rainTold 20 = .ok (.iadd, 1) := by decide +kernel
theorem dX12_rainTold_21 : decode cX12_rainTold 21 = .ok (.iaload, 1) := by decide +kernel
theorem dX12_rainTold_22 : decode cX12_rainTold 22 = .ok (.goto 4, 3) := by decide +kernel
theorem dX12_rainTold_25 : decode cX12_rainTold 25 = .ok (.iconst 0, 1) := by decide +kernel
theorem dX12_rainTold_26 : decode cX12_rainTold 26 = .ok (.ireturn, 1) := by decide +kernel
noncomputable def E_X12_rainTold : mE := (mX12_rainTold, [(26, [(0, (.iload_n 1, 1, false, false, 1, 0, 0, 0, 0, 0, [])), (1, (.iconst 0, 2, false, false, 0, 0, 0, 0, 0, 0, [])), (2, (.bipush 100, 4, false, false, 0, 0, 0, 0, 100, 0, [])), (4, (.invokestatic 63, 7, false, false, 28, 3, 1, 0, 0, 0, [])), (7, (.ifCond .eq 18, 10, false, false, 25, 0, 0, 0, 0, 0, [])), (10, (.aload_n 0, 11, false, false, 0, 0, 0, 0, 0, 0, [])), (11, (.getfield 27, 14, false, false, 15, 1, 1, 0, 0, 0, [])), (14, (.sipush 680, 17, false, false, 0, 0, 0, 0, 680, 0, [])), (17, (.iconst 2, 18, false, false, 0, 0, 0, 0, 2, 0, [])), (18, (.iload_n 1, 19, false, false, 1, 0, 0, 0, 0, 0, [])), (19, (.imul, 20, false, false, 0, 0, 0, 0, 0, 0, [])), (20, (.iadd, 21, false, false, 0, 0, 0, 0, 0, 0, [])), (21, (.iaload, 22, false, false, 0, 0, 0, 0, 0, 0, [])), (22, (.goto 4, 25, false, false, 26, 0, 0, 0, 0, 0, [])), (25, (.iconst 0, 26, false, false, 0, 0, 0, 0, 0, 0, [])), (26, (.ireturn, 27, false, false, 0, 0, 0, 0, 0, 0, []))])], 0, [])
set_option maxRecDepth 100000 in
theorem v_X12_rainTold : VE MYT dflT E_X12_rainTold := ⟨⟨⟨⟨⟨dX12_rainTold_0, rfl⟩, rfl⟩, ⟨⟨dX12_rainTold_1, rfl⟩, rfl⟩, ⟨⟨dX12_rainTold_2, rfl⟩, rfl⟩, ⟨⟨dX12_rainTold_4, rfl⟩, Or.inl ⟨rfl, _, my_28, sX12_63⟩⟩, ⟨⟨dX12_rainTold_7, rfl⟩, rfl⟩, ⟨⟨dX12_rainTold_10, rfl⟩, rfl⟩, ⟨⟨dX12_rainTold_11, rfl⟩, Or.inl ⟨by decide, _, _, fX12_27⟩⟩, ⟨⟨dX12_rainTold_14, rfl⟩, rfl⟩, ⟨⟨dX12_rainTold_17, rfl⟩, rfl⟩, ⟨⟨dX12_rainTold_18, rfl⟩, rfl⟩, ⟨⟨dX12_rainTold_19, rfl⟩, trivial⟩, ⟨⟨dX12_rainTold_20, rfl⟩, trivial⟩, ⟨⟨dX12_rainTold_21, rfl⟩, trivial⟩, ⟨⟨dX12_rainTold_22, rfl⟩, rfl⟩, ⟨⟨dX12_rainTold_25, rfl⟩, rfl⟩, ⟨⟨dX12_rainTold_26, rfl⟩, Or.inl ⟨rfl, rfl⟩⟩, trivial⟩, trivial⟩, by decide, Or.inl ⟨rfl, by decide, rfl⟩⟩
set_option maxRecDepth 100000 in
theorem g_X12_rainTold_0 (S : sT) (call : cT) (n : Nat) (a0 : Nat) (x1 : Int32) (h : pH) : bd S call dflT E_X12_rainTold (n + 1) 0 [some (.ref a0), some (.int x1)] [] h = (cI (call 28 [.int x1, .int 0, .int 100] h) (fun y2 h1 => (if y2 = 0 then some (.inl (some (.int 0)), h1) else gV h1 (.ref a0) 15 1 (fun w3 => aI h1 w3 0 (680 + (2 * x1)) (fun y4 => some (.inl (some (.int y4)), h1)))))) := rfl
theorem dX12_rainOf_0 : decode cX12_rainOf 0 = .ok (.aload_n 0, 1) := by decide +kernel
theorem dX12_rainOf_1 : decode cX12_rainOf 1 = .ok (.getfield 27, 3) := by decide +kernel
theorem dX12_rainOf_4 : decode cX12_rainOf 4 = .ok (.sipush 680, 3) := by decide +kernel
theorem dX12_rainOf_7 : decode cX12_rainOf 7 = .ok (.iconst 2, 1) := by decide +kernel
theorem dX12_rainOf_8 : decode cX12_rainOf 8 = .ok (.iload_n 1, 1) := by decide +kernel
theorem dX12_rainOf_9 : decode cX12_rainOf 9 = .ok (.imul, 1) := by decide +kernel
theorem dX12_rainOf_10 : decode cX12_rainOf 10 = .ok (.iadd, 1) := by decide +kernel
theorem dX12_rainOf_11 : decode cX12_rainOf 11 = .ok (.iconst 1, 1) := by decide +kernel
theorem dX12_rainOf_12 : decode cX12_rainOf 12 = .ok (.iadd, 1) := by decide +kernel
theorem dX12_rainOf_13 : decode cX12_rainOf 13 = .ok (.iaload, 1) := by decide +kernel
theorem dX12_rainOf_14 : decode cX12_rainOf 14 = .ok (.iconst 1, 1) := by decide +kernel
theorem dX12_rainOf_15 : decode cX12_rainOf 15 = .ok (.if_icmp .ne 11, 3) := by decide +kernel
theorem dX12_rainOf_18 : decode cX12_rainOf 18 = .ok (.aload_n 0, 1) := by decide +kernel
theorem dX12_rainOf_19 : decode cX12_rainOf 19 = .ok (.iload_n 1, 1) := by decide +kernel
theorem dX12_rainOf_20 : decode cX12_rainOf 20 = .ok (.invokevirtual 82, 3) := by decide +kernel
theorem dX12_rainOf_23 : decode cX12_rainOf 23 = .ok (.goto 20, 3) := by decide +kernel
theorem dX12_rainOf_26 : decode cX12_rainOf 26 = .ok (.aload_n 0, 1) := by decide +kernel
theorem dX12_rainOf_27 : decode cX12_rainOf 27 = .ok (.iload_n 1, 1) := by decide +kernel
theorem dX12_rainOf_28 : decode cX12_rainOf 28 = .ok (.iconst 1, 1) := by decide +kernel
theorem dX12_rainOf_29 : decode cX12_rainOf 29 = .ok (.isub, 1) := by decide +kernel
theorem dX12_rainOf_30 : decode cX12_rainOf 30 = .ok (.invokevirtual 82, 3) := by decide +kernel
theorem dX12_rainOf_33 : decode cX12_rainOf 33 = .ok (.aload_n 0, 1) := by decide +kernel
theorem dX12_rainOf_34 : decode cX12_rainOf 34 = .ok (.iload_n 1, 1) := by decide +kernel
theorem dX12_rainOf_35 : decode cX12_rainOf 35 = .ok (.iconst 1, 1) := by decide +kernel
theorem dX12_rainOf_36 : decode cX12_rainOf 36 = .ok (.iadd, 1) := by decide +kernel
theorem dX12_rainOf_37 : decode cX12_rainOf 37 = .ok (.invokevirtual 82, 3) := by decide +kernel
theorem dX12_rainOf_40 : decode cX12_rainOf 40 = .ok (.iadd, 1) := by decide +kernel
theorem dX12_rainOf_41 : decode cX12_rainOf 41 = .ok (.iconst 2, 1) := by decide +kernel
theorem dX12_rainOf_42 : decode cX12_rainOf 42 = .ok (.idiv, 1) := by decide +kernel
theorem dX12_rainOf_43 : decode cX12_rainOf 43 = .ok (.ireturn, 1) := by decide +kernel
noncomputable def E_X12_rainOf : mE := (mX12_rainOf, [(35, [(0, (.aload_n 0, 1, false, false, 0, 0, 0, 0, 0, 0, [])), (1, (.getfield 27, 4, false, false, 15, 1, 1, 0, 0, 0, [])), (4, (.sipush 680, 7, false, false, 0, 0, 0, 0, 680, 0, [])), (7, (.iconst 2, 8, false, false, 0, 0, 0, 0, 2, 0, [])), (8, (.iload_n 1, 9, false, false, 1, 0, 0, 0, 0, 0, [])), (9, (.imul, 10, false, false, 0, 0, 0, 0, 0, 0, [])), (10, (.iadd, 11, false, false, 0, 0, 0, 0, 0, 0, [])), (11, (.iconst 1, 12, false, false, 0, 0, 0, 0, 1, 0, [])), (12, (.iadd, 13, false, false, 0, 0, 0, 0, 0, 0, [])), (13, (.iaload, 14, false, false, 0, 0, 0, 0, 0, 0, [])), (14, (.iconst 1, 15, false, false, 0, 0, 0, 0, 1, 0, [])), (15, (.if_icmp .ne 11, 18, false, false, 26, 0, 0, 0, 0, 0, [])), (18, (.aload_n 0, 19, false, false, 0, 0, 0, 0, 0, 0, [])), (19, (.iload_n 1, 20, false, false, 1, 0, 0, 0, 0, 0, [])), (20, (.invokevirtual 82, 23, false, false, 42, 1, 1, 15, 0, 0, [])), (23, (.goto 20, 26, false, false, 43, 0, 0, 0, 0, 0, [])), (26, (.aload_n 0, 27, false, false, 0, 0, 0, 0, 0, 0, [])), (27, (.iload_n 1, 28, false, false, 1, 0, 0, 0, 0, 0, [])), (28, (.iconst 1, 29, false, false, 0, 0, 0, 0, 1, 0, [])), (29, (.isub, 30, false, false, 0, 0, 0, 0, 0, 0, [])), (30, (.invokevirtual 82, 33, false, false, 42, 1, 1, 15, 0, 0, [])), (33, (.aload_n 0, 34, false, false, 0, 0, 0, 0, 0, 0, [])), (34, (.iload_n 1, 35, false, false, 1, 0, 0, 0, 0, 0, [])), (35, (.iconst 1, 36, false, false, 0, 0, 0, 0, 1, 0, []))]),
  (43, [(36, (.iadd, 37, false, false, 0, 0, 0, 0, 0, 0, [])), (37, (.invokevirtual 82, 40, false, false, 42, 1, 1, 15, 0, 0, [])), (40, (.iadd, 41, false, false, 0, 0, 0, 0, 0, 0, [])), (41, (.iconst 2, 42, false, false, 0, 0, 0, 0, 2, 0, [])), (42, (.idiv, 43, false, false, 0, 0, 0, 0, 0, 0, [])), (43, (.ireturn, 44, false, false, 0, 0, 0, 0, 0, 0, []))])], 0, [])
set_option maxRecDepth 100000 in
theorem v_X12_rainOf : VE MYT dflT E_X12_rainOf := ⟨⟨⟨⟨⟨dX12_rainOf_0, rfl⟩, rfl⟩, ⟨⟨dX12_rainOf_1, rfl⟩, Or.inl ⟨by decide, _, _, fX12_27⟩⟩, ⟨⟨dX12_rainOf_4, rfl⟩, rfl⟩, ⟨⟨dX12_rainOf_7, rfl⟩, rfl⟩, ⟨⟨dX12_rainOf_8, rfl⟩, rfl⟩, ⟨⟨dX12_rainOf_9, rfl⟩, trivial⟩, ⟨⟨dX12_rainOf_10, rfl⟩, trivial⟩, ⟨⟨dX12_rainOf_11, rfl⟩, rfl⟩, ⟨⟨dX12_rainOf_12, rfl⟩, trivial⟩, ⟨⟨dX12_rainOf_13, rfl⟩, trivial⟩, ⟨⟨dX12_rainOf_14, rfl⟩, rfl⟩, ⟨⟨dX12_rainOf_15, rfl⟩, rfl⟩, ⟨⟨dX12_rainOf_18, rfl⟩, rfl⟩, ⟨⟨dX12_rainOf_19, rfl⟩, rfl⟩, ⟨⟨dX12_rainOf_20, rfl⟩, Or.inr ⟨by decide, ⟨_, my_42, sX12_82⟩, fun q => absurd q (by decide)⟩⟩, ⟨⟨dX12_rainOf_23, rfl⟩, rfl⟩, ⟨⟨dX12_rainOf_26, rfl⟩, rfl⟩, ⟨⟨dX12_rainOf_27, rfl⟩, rfl⟩, ⟨⟨dX12_rainOf_28, rfl⟩, rfl⟩, ⟨⟨dX12_rainOf_29, rfl⟩, trivial⟩, ⟨⟨dX12_rainOf_30, rfl⟩, Or.inr ⟨by decide, ⟨_, my_42, sX12_82⟩, fun q => absurd q (by decide)⟩⟩, ⟨⟨dX12_rainOf_33, rfl⟩, rfl⟩, ⟨⟨dX12_rainOf_34, rfl⟩, rfl⟩, ⟨⟨dX12_rainOf_35, rfl⟩, rfl⟩, trivial⟩,
  ⟨⟨⟨dX12_rainOf_36, rfl⟩, trivial⟩, ⟨⟨dX12_rainOf_37, rfl⟩, Or.inr ⟨by decide, ⟨_, my_42, sX12_82⟩, fun q => absurd q (by decide)⟩⟩, ⟨⟨dX12_rainOf_40, rfl⟩, trivial⟩, ⟨⟨dX12_rainOf_41, rfl⟩, rfl⟩, ⟨⟨dX12_rainOf_42, rfl⟩, trivial⟩, ⟨⟨dX12_rainOf_43, rfl⟩, Or.inl ⟨rfl, rfl⟩⟩, trivial⟩, trivial⟩, by decide, Or.inl ⟨rfl, by decide, rfl⟩⟩
set_option maxRecDepth 100000 in
theorem g_X12_rainOf_0 (S : sT) (call : cT) (n : Nat) (a0 : Nat) (x1 : Int32) (h : pH) : bd S call dflT E_X12_rainOf (n + 1) 0 [some (.ref a0), some (.int x1)] [] h = (gV h (.ref a0) 15 1 (fun w1 => aI h w1 0 ((680 + (2 * x1)) + 1) (fun y2 => (if y2 = 1 then rC h (.ref a0) 15 (cI (call 42 [.ref a0, .int x1] h) (fun y8 h7 => some (.inl (some (.int y8)), h7))) else rC h (.ref a0) 15 (cI (call 42 [.ref a0, .int (x1 - 1)] h) (fun y4 h3 => rC h3 (.ref a0) 15 (cI (call 42 [.ref a0, .int (x1 + 1)] h3) (fun y6 h5 => dv 2 (some (.inl (some (.int ((y4 + y6) / 2))), h5)))))))))) := rfl
theorem dX12_fell_0 : decode cX12_fell 0 = .ok (.aload_n 0, 1) := by decide +kernel
theorem dX12_fell_1 : decode cX12_fell 1 = .ok (.iconst 0, 1) := by decide +kernel
theorem dX12_fell_2 : decode cX12_fell 2 = .ok (.putfield 3, 3) := by decide +kernel
theorem dX12_fell_5 : decode cX12_fell 5 = .ok (.aload_n 0, 1) := by decide +kernel
theorem dX12_fell_6 : decode cX12_fell 6 = .ok (.iload_n 1, 1) := by decide +kernel
theorem dX12_fell_7 : decode cX12_fell 7 = .ok (.iconst 0, 1) := by decide +kernel
theorem dX12_fell_8 : decode cX12_fell 8 = .ok (.bipush 100, 2) := by decide +kernel
theorem dX12_fell_10 : decode cX12_fell 10 = .ok (.invokestatic 63, 3) := by decide +kernel
theorem dX12_fell_13 : decode cX12_fell 13 = .ok (.ifCond .ne 7, 3) := by decide +kernel
theorem dX12_fell_16 : decode cX12_fell 16 = .ok (.iconst 1, 1) := by decide +kernel
theorem dX12_fell_17 : decode cX12_fell 17 = .ok (.goto 4, 3) := by decide +kernel
theorem dX12_fell_20 : decode cX12_fell 20 = .ok (.iconst 0, 1) := by decide +kernel
theorem dX12_fell_21 : decode cX12_fell 21 = .ok (.iconst 1, 1) := by decide +kernel
theorem dX12_fell_22 : decode cX12_fell 22 = .ok (.invokevirtual 75, 3) := by decide +kernel
theorem dX12_fell_25 : decode cX12_fell 25 = .ok (.ifCond .eq 7, 3) := by decide +kernel
theorem dX12_fell_28 : decode cX12_fell 28 = .ok (.iconst 0, 1) := by decide +kernel
theorem dX12_fell_29 : decode cX12_fell 29 = .ok (.goto 8, 3) := by decide +kernel
theorem dX12_fell_32 : decode cX12_fell 32 = .ok (.aload_n 0, 1) := by decide +kernel
theorem dX12_fell_33 : decode cX12_fell 33 = .ok (.iload_n 1, 1) := by decide +kernel
theorem dX12_fell_34 : decode cX12_fell 34 = .ok (.invokevirtual 86, 3) := by decide +kernel
theorem dX12_fell_37 : decode cX12_fell 37 = .ok (.ireturn, 1) := by decide +kernel
noncomputable def E_X12_fell : mE := (mX12_fell, [(37, [(0, (.aload_n 0, 1, false, false, 0, 0, 0, 0, 0, 0, [])), (1, (.iconst 0, 2, false, false, 0, 0, 0, 0, 0, 0, [])), (2, (.putfield 3, 5, false, false, 15, 0, 0, 0, 0, 0, [])), (5, (.aload_n 0, 6, false, false, 0, 0, 0, 0, 0, 0, [])), (6, (.iload_n 1, 7, false, false, 1, 0, 0, 0, 0, 0, [])), (7, (.iconst 0, 8, false, false, 0, 0, 0, 0, 0, 0, [])), (8, (.bipush 100, 10, false, false, 0, 0, 0, 0, 100, 0, [])), (10, (.invokestatic 63, 13, false, false, 28, 3, 1, 0, 0, 0, [])), (13, (.ifCond .ne 7, 16, false, false, 20, 0, 0, 0, 0, 0, [])), (16, (.iconst 1, 17, false, false, 0, 0, 0, 0, 1, 0, [])), (17, (.goto 4, 20, false, false, 21, 0, 0, 0, 0, 0, [])), (20, (.iconst 0, 21, false, false, 0, 0, 0, 0, 0, 0, [])), (21, (.iconst 1, 22, false, false, 0, 0, 0, 0, 1, 0, [])), (22, (.invokevirtual 75, 25, false, false, 30, 2, 1, 15, 0, 0, [])), (25, (.ifCond .eq 7, 28, false, false, 32, 0, 0, 0, 0, 0, [])), (28, (.iconst 0, 29, false, false, 0, 0, 0, 0, 0, 0, [])), (29, (.goto 8, 32, false, false, 37, 0, 0, 0, 0, 0, [])), (32, (.aload_n 0, 33, false, false, 0, 0, 0, 0, 0, 0, [])), (33, (.iload_n 1, 34, false, false, 1, 0, 0, 0, 0, 0, [])), (34, (.invokevirtual 86, 37, false, false, 43, 1, 1, 15, 0, 0, [])), (37, (.ireturn, 38, false, false, 0, 0, 0, 0, 0, 0, []))])], 0, [])
set_option maxRecDepth 100000 in
theorem v_X12_fell : VE MYT dflT E_X12_fell := ⟨⟨⟨⟨⟨dX12_fell_0, rfl⟩, rfl⟩, ⟨⟨dX12_fell_1, rfl⟩, rfl⟩, ⟨⟨dX12_fell_2, rfl⟩, Or.inl ⟨rfl, fX12_3⟩⟩, ⟨⟨dX12_fell_5, rfl⟩, rfl⟩, ⟨⟨dX12_fell_6, rfl⟩, rfl⟩, ⟨⟨dX12_fell_7, rfl⟩, rfl⟩, ⟨⟨dX12_fell_8, rfl⟩, rfl⟩, ⟨⟨dX12_fell_10, rfl⟩, Or.inl ⟨rfl, _, my_28, sX12_63⟩⟩, ⟨⟨dX12_fell_13, rfl⟩, rfl⟩, ⟨⟨dX12_fell_16, rfl⟩, rfl⟩, ⟨⟨dX12_fell_17, rfl⟩, rfl⟩, ⟨⟨dX12_fell_20, rfl⟩, rfl⟩, ⟨⟨dX12_fell_21, rfl⟩, rfl⟩, ⟨⟨dX12_fell_22, rfl⟩, Or.inr ⟨by decide, ⟨_, my_30, sX12_75⟩, fun q => absurd q (by decide)⟩⟩, ⟨⟨dX12_fell_25, rfl⟩, rfl⟩, ⟨⟨dX12_fell_28, rfl⟩, rfl⟩, ⟨⟨dX12_fell_29, rfl⟩, rfl⟩, ⟨⟨dX12_fell_32, rfl⟩, rfl⟩, ⟨⟨dX12_fell_33, rfl⟩, rfl⟩, ⟨⟨dX12_fell_34, rfl⟩, Or.inr ⟨by decide, ⟨_, my_43, sX12_86⟩, fun q => absurd q (by decide)⟩⟩, ⟨⟨dX12_fell_37, rfl⟩, Or.inl ⟨rfl, rfl⟩⟩, trivial⟩, trivial⟩, by decide, Or.inl ⟨rfl, by decide, rfl⟩⟩
set_option maxRecDepth 100000 in
theorem g_X12_fell_0 (S : sT) (call : cT) (n : Nat) (a0 : Nat) (x1 : Int32) (h : pH) : bd S call dflT E_X12_fell (n + 1) 0 [some (.ref a0), some (.int x1)] [] h = (pF h (.ref a0) 15 0 (.int 0) (fun h1 => cI (call 28 [.int x1, .int 0, .int 100] h1) (fun y3 h2 => (if y3 = 0 then rC h2 (.ref a0) 15 (cI (call 30 [.ref a0, .int 1, .int 1] h2) (fun y9 h8 => (if y9 = 0 then rC h8 (.ref a0) 15 (cI (call 43 [.ref a0, .int x1] h8) (fun y11 h10 => some (.inl (some (.int y11)), h10))) else some (.inl (some (.int 0)), h8)))) else rC h2 (.ref a0) 15 (cI (call 30 [.ref a0, .int 0, .int 1] h2) (fun y5 h4 => (if y5 = 0 then rC h4 (.ref a0) 15 (cI (call 43 [.ref a0, .int x1] h4) (fun y7 h6 => some (.inl (some (.int y7)), h6))) else some (.inl (some (.int 0)), h4)))))))) := rfl
theorem dX12_season_0 : decode cX12_season 0 = .ok (.aload_n 0, 1) := by decide +kernel
theorem dX12_season_1 : decode cX12_season 1 = .ok (.getfield 27, 3) := by decide +kernel
theorem dX12_season_4 : decode cX12_season 4 = .ok (.iconst 0, 1) := by decide +kernel
theorem dX12_season_5 : decode cX12_season 5 = .ok (.iaload, 1) := by decide +kernel
theorem dX12_season_6 : decode cX12_season 6 = .ok (.ireturn, 1) := by decide +kernel
noncomputable def E_X12_season : mE := (mX12_season, [(6, [(0, (.aload_n 0, 1, false, false, 0, 0, 0, 0, 0, 0, [])), (1, (.getfield 27, 4, false, false, 15, 1, 1, 0, 0, 0, [])), (4, (.iconst 0, 5, false, false, 0, 0, 0, 0, 0, 0, [])), (5, (.iaload, 6, false, false, 0, 0, 0, 0, 0, 0, [])), (6, (.ireturn, 7, false, false, 0, 0, 0, 0, 0, 0, []))])], 0, [])
set_option maxRecDepth 100000 in
theorem v_X12_season : VE MYT dflT E_X12_season := ⟨⟨⟨⟨⟨dX12_season_0, rfl⟩, rfl⟩, ⟨⟨dX12_season_1, rfl⟩, Or.inl ⟨by decide, _, _, fX12_27⟩⟩, ⟨⟨dX12_season_4, rfl⟩, rfl⟩, ⟨⟨dX12_season_5, rfl⟩, trivial⟩, ⟨⟨dX12_season_6, rfl⟩, Or.inl ⟨rfl, rfl⟩⟩, trivial⟩, trivial⟩, by decide, Or.inl ⟨rfl, by decide, rfl⟩⟩
set_option maxRecDepth 100000 in
theorem g_X12_season_0 (S : sT) (call : cT) (n : Nat) (a0 : Nat) (h : pH) : bd S call dflT E_X12_season (n + 1) 0 [some (.ref a0)] [] h = (gV h (.ref a0) 15 1 (fun w1 => aI h w1 0 0 (fun y2 => some (.inl (some (.int y2)), h)))) := rfl
theorem dX12_price_0 : decode cX12_price 0 = .ok (.aload_n 0, 1) := by decide +kernel
theorem dX12_price_1 : decode cX12_price 1 = .ok (.iconst 0, 1) := by decide +kernel
theorem dX12_price_2 : decode cX12_price 2 = .ok (.putfield 3, 3) := by decide +kernel
theorem dX12_price_5 : decode cX12_price 5 = .ok (.aload_n 0, 1) := by decide +kernel
theorem dX12_price_6 : decode cX12_price 6 = .ok (.iload_n 1, 1) := by decide +kernel
theorem dX12_price_7 : decode cX12_price 7 = .ok (.iconst 1, 1) := by decide +kernel
theorem dX12_price_8 : decode cX12_price 8 = .ok (.iconst 4, 1) := by decide +kernel
theorem dX12_price_9 : decode cX12_price 9 = .ok (.invokestatic 63, 3) := by decide +kernel
theorem dX12_price_12 : decode cX12_price 12 = .ok (.ifCond .eq 23, 3) := by decide +kernel
theorem dX12_price_15 : decode cX12_price 15 = .ok (.iload_n 2, 1) := by decide +kernel
theorem dX12_price_16 : decode cX12_price 16 = .ok (.iconst 0, 1) := by decide +kernel
theorem dX12_price_17 : decode cX12_price 17 = .ok (.bipush 100, 2) := by decide +kernel
theorem dX12_price_19 : decode cX12_price 19 = .ok (.invokestatic 63, 3) := by decide +kernel
theorem dX12_price_22 : decode cX12_price 22 = .ok (.ifCond .eq 13, 3) := by decide +kernel
theorem dX12_price_25 : decode cX12_price 25 = .ok (.iload_n 3, 1) := by decide +kernel
theorem dX12_price_26 : decode cX12_price 26 = .ok (.iconst 0, 1) := by decide +kernel
theorem dX12_price_27 : decode cX12_price 27 = .ok (.bipush 100, 2) := by decide +kernel
theorem dX12_price_29 : decode cX12_price 29 = .ok (.invokestatic 63, 3) := by decide +kernel
theorem dX12_price_32 : decode cX12_price 32 = .ok (.ifCond .ne 7, 3) := by decide +kernel
theorem dX12_price_35 : decode cX12_price 35 = .ok (.iconst 1, 1) := by decide +kernel
theorem dX12_price_36 : decode cX12_price 36 = .ok (.goto 4, 3) := by decide +kernel
theorem dX12_price_39 : decode cX12_price 39 = .ok (.iconst 0, 1) := by decide +kernel
theorem dX12_price_40 : decode cX12_price 40 = .ok (.iconst 1, 1) := by decide +kernel
theorem dX12_price_41 : decode cX12_price 41 = .ok (.invokevirtual 75, 3) := by decide +kernel
theorem dX12_price_44 : decode cX12_price 44 = .ok (.ifCond .eq 5, 3) := by decide +kernel
theorem dX12_price_47 : decode cX12_price 47 = .ok (.iconst 0, 1) := by decide +kernel
theorem dX12_price_48 : decode cX12_price 48 = .ok (.ireturn, 1) := by decide +kernel
theorem dX12_price_49 : decode cX12_price 49 = .ok (.aload_n 0, 1) := by decide +kernel
theorem dX12_price_50 : decode cX12_price 50 = .ok (.getfield 27, 3) := by decide +kernel
theorem dX12_price_53 : decode cX12_price 53 = .ok (.sipush 882, 3) := by decide +kernel
theorem dX12_price_56 : decode cX12_price 56 = .ok (.iaload, 1) := by decide +kernel
theorem dX12_price_57 : decode cX12_price 57 = .ok (.istore 4, 2) := by decide +kernel
theorem dX12_price_59 : decode cX12_price 59 = .ok (.iload 4, 2) := by decide +kernel
theorem dX12_price_61 : decode cX12_price 61 = .ok (.sipush 200, 3) := by decide +kernel
theorem dX12_price_64 : decode cX12_price 64 = .ok (.if_icmp .ne 5, 3) := by decide +kernel
theorem dX12_price_67 : decode cX12_price 67 = .ok (.iconst (-1), 1) := by decide +kernel
theorem dX12_price_68 : decode cX12_price 68 = .ok (.ireturn, 1) := by decide +kernel
theorem dX12_price_69 : decode cX12_price 69 = .ok (.aload_n 0, 1) := by decide +kernel
theorem dX12_price_70 : decode cX12_price 70 = .ok (.getfield 27, 3) := by decide +kernel
theorem dX12_price_73 : decode cX12_price 73 = .ok (.sipush 883, 3) := by decide +kernel
theorem dX12_price_76 : decode cX12_price 76 = .ok (.iconst 4, 1) := by decide +kernel
theorem dX12_price_77 : decode cX12_price 77 = .ok (.iload 4, 2) := by decide +kernel
theorem dX12_price_79 : decode cX12_price 79 = .ok (.imul, 1) := by decide +kernel
theorem dX12_price_80 : decode cX12_price 80 = .ok (.iadd, 1) := by decide +kernel
theorem dX12_price_81 : decode cX12_price 81 = .ok (.iload_n 1, 1) := by decide +kernel
theorem dX12_price_82 : decode cX12_price 82 = .ok (.iastore, 1) := by decide +kernel
theorem dX12_price_83 : decode cX12_price 83 = .ok (.aload_n 0, 1) := by decide +kernel
theorem dX12_price_84 : decode cX12_price 84 = .ok (.getfield 27, 3) := by decide +kernel
theorem dX12_price_87 : decode cX12_price 87 = .ok (.sipush 883, 3) := by decide +kernel
theorem dX12_price_90 : decode cX12_price 90 = .ok (.iconst 4, 1) := by decide +kernel
theorem dX12_price_91 : decode cX12_price 91 = .ok (.iload 4, 2) := by decide +kernel
theorem dX12_price_93 : decode cX12_price 93 = .ok (.imul, 1) := by decide +kernel
theorem dX12_price_94 : decode cX12_price 94 = .ok (.iadd, 1) := by decide +kernel
theorem dX12_price_95 : decode cX12_price 95 = .ok (.iconst 1, 1) := by decide +kernel
theorem dX12_price_96 : decode cX12_price 96 = .ok (.iadd, 1) := by decide +kernel
theorem dX12_price_97 : decode cX12_price 97 = .ok (.iload_n 2, 1) := by decide +kernel
theorem dX12_price_98 : decode cX12_price 98 = .ok (.iastore, 1) := by decide +kernel
theorem dX12_price_99 : decode cX12_price 99 = .ok (.aload_n 0, 1) := by decide +kernel
theorem dX12_price_100 : decode cX12_price 100 = .ok (.getfield 27, 3) := by decide +kernel
theorem dX12_price_103 : decode cX12_price 103 = .ok (.sipush 883, 3) := by decide +kernel
theorem dX12_price_106 : decode cX12_price 106 = .ok (.iconst 4, 1) := by decide +kernel
theorem dX12_price_107 : decode cX12_price 107 = .ok (.iload 4, 2) := by decide +kernel
theorem dX12_price_109 : decode cX12_price 109 = .ok (.imul, 1) := by decide +kernel
theorem dX12_price_110 : decode cX12_price 110 = .ok (.iadd, 1) := by decide +kernel
theorem dX12_price_111 : decode cX12_price 111 = .ok (.iconst 2, 1) := by decide +kernel
theorem dX12_price_112 : decode cX12_price 112 = .ok (.iadd, 1) := by decide +kernel
theorem dX12_price_113 : decode cX12_price 113 = .ok (.iload_n 3, 1) := by decide +kernel
theorem dX12_price_114 : decode cX12_price 114 = .ok (.iastore, 1) := by decide +kernel
theorem dX12_price_115 : decode cX12_price 115 = .ok (.aload_n 0, 1) := by decide +kernel
theorem dX12_price_116 : decode cX12_price 116 = .ok (.getfield 27, 3) := by decide +kernel
theorem dX12_price_119 : decode cX12_price 119 = .ok (.sipush 883, 3) := by decide +kernel
theorem dX12_price_122 : decode cX12_price 122 = .ok (.iconst 4, 1) := by decide +kernel
theorem dX12_price_123 : decode cX12_price 123 = .ok (.iload 4, 2) := by decide +kernel
theorem dX12_price_125 : decode cX12_price 125 = .ok (.imul, 1) := by decide +kernel
theorem dX12_price_126 : decode cX12_price 126 = .ok (.iadd, 1) := by decide +kernel
theorem dX12_price_127 : decode cX12_price 127 = .ok (.iconst 3, 1) := by decide +kernel
theorem dX12_price_128 : decode cX12_price 128 = .ok (.iadd, 1) := by decide +kernel
theorem dX12_price_129 : decode cX12_price 129 = .ok (.aload_n 0, 1) := by decide +kernel
theorem dX12_price_130 : decode cX12_price 130 = .ok (.invokevirtual 89, 3) := by decide +kernel
theorem dX12_price_133 : decode cX12_price 133 = .ok (.iastore, 1) := by decide +kernel
theorem dX12_price_134 : decode cX12_price 134 = .ok (.aload_n 0, 1) := by decide +kernel
theorem dX12_price_135 : decode cX12_price 135 = .ok (.getfield 27, 3) := by decide +kernel
theorem dX12_price_138 : decode cX12_price 138 = .ok (.sipush 882, 3) := by decide +kernel
theorem dX12_price_141 : decode cX12_price 141 = .ok (.dup2, 1) := by decide +kernel
theorem dX12_price_142 : decode cX12_price 142 = .ok (.iaload, 1) := by decide +kernel
theorem dX12_price_143 : decode cX12_price 143 = .ok (.iconst 1, 1) := by decide +kernel
theorem dX12_price_144 : decode cX12_price 144 = .ok (.iadd, 1) := by decide +kernel
theorem dX12_price_145 : decode cX12_price 145 = .ok (.iastore, 1) := by decide +kernel
theorem dX12_price_146 : decode cX12_price 146 = .ok (.iload 4, 2) := by decide +kernel
theorem dX12_price_148 : decode cX12_price 148 = .ok (.iconst 1, 1) := by decide +kernel
theorem dX12_price_149 : decode cX12_price 149 = .ok (.iadd, 1) := by decide +kernel
theorem dX12_price_150 : decode cX12_price 150 = .ok (.ireturn, 1) := by decide +kernel
noncomputable def E_X12_price : mE := (mX12_price, [(41, [(0, (.aload_n 0, 1, false, false, 0, 0, 0, 0, 0, 0, [])), (1, (.iconst 0, 2, false, false, 0, 0, 0, 0, 0, 0, [])), (2, (.putfield 3, 5, false, false, 15, 0, 0, 0, 0, 0, [])), (5, (.aload_n 0, 6, false, false, 0, 0, 0, 0, 0, 0, [])), (6, (.iload_n 1, 7, false, false, 1, 0, 0, 0, 0, 0, [])), (7, (.iconst 1, 8, false, false, 0, 0, 0, 0, 1, 0, [])), (8, (.iconst 4, 9, false, false, 0, 0, 0, 0, 4, 0, [])), (9, (.invokestatic 63, 12, false, false, 28, 3, 1, 0, 0, 0, [])), (12, (.ifCond .eq 23, 15, false, false, 35, 0, 0, 0, 0, 0, [])), (15, (.iload_n 2, 16, false, false, 2, 0, 0, 0, 0, 0, [])), (16, (.iconst 0, 17, false, false, 0, 0, 0, 0, 0, 0, [])), (17, (.bipush 100, 19, false, false, 0, 0, 0, 0, 100, 0, [])), (19, (.invokestatic 63, 22, false, false, 28, 3, 1, 0, 0, 0, [])), (22, (.ifCond .eq 13, 25, false, false, 35, 0, 0, 0, 0, 0, [])), (25, (.iload_n 3, 26, false, false, 3, 0, 0, 0, 0, 0, [])), (26, (.iconst 0, 27, false, false, 0, 0, 0, 0, 0, 0, [])), (27, (.bipush 100, 29, false, false, 0, 0, 0, 0, 100, 0, [])), (29, (.invokestatic 63, 32, false, false, 28, 3, 1, 0, 0, 0, [])), (32, (.ifCond .ne 7, 35, false, false, 39, 0, 0, 0, 0, 0, [])), (35, (.iconst 1, 36, false, false, 0, 0, 0, 0, 1, 0, [])), (36, (.goto 4, 39, false, true, 40, 0, 0, 0, 0, 0, [])), (39, (.iconst 0, 40, true, false, 0, 0, 0, 0, 0, 0, [])), (40, (.iconst 1, 41, false, false, 0, 0, 0, 0, 1, 0, [])), (41, (.invokevirtual 75, 44, false, false, 30, 2, 1, 15, 0, 0, []))]),
  (84, [(44, (.ifCond .eq 5, 47, false, false, 49, 0, 0, 0, 0, 0, [])), (47, (.iconst 0, 48, false, false, 0, 0, 0, 0, 0, 0, [])), (48, (.ireturn, 49, false, false, 0, 0, 0, 0, 0, 0, [])), (49, (.aload_n 0, 50, false, false, 0, 0, 0, 0, 0, 0, [])), (50, (.getfield 27, 53, false, false, 15, 1, 1, 0, 0, 0, [])), (53, (.sipush 882, 56, false, false, 0, 0, 0, 0, 882, 0, [])), (56, (.iaload, 57, false, false, 0, 0, 0, 0, 0, 0, [])), (57, (.istore 4, 59, false, false, 4, 0, 0, 0, 0, 0, [])), (59, (.iload 4, 61, false, false, 4, 0, 0, 0, 0, 0, [])), (61, (.sipush 200, 64, false, false, 0, 0, 0, 0, 200, 0, [])), (64, (.if_icmp .ne 5, 67, false, false, 69, 0, 0, 0, 0, 0, [])), (67, (.iconst (-1), 68, false, false, 0, 0, 0, 0, -1, 0, [])), (68, (.ireturn, 69, false, false, 0, 0, 0, 0, 0, 0, [])), (69, (.aload_n 0, 70, false, false, 0, 0, 0, 0, 0, 0, [])), (70, (.getfield 27, 73, false, false, 15, 1, 1, 0, 0, 0, [])), (73, (.sipush 883, 76, false, false, 0, 0, 0, 0, 883, 0, [])), (76, (.iconst 4, 77, false, false, 0, 0, 0, 0, 4, 0, [])), (77, (.iload 4, 79, false, false, 4, 0, 0, 0, 0, 0, [])), (79, (.imul, 80, false, false, 0, 0, 0, 0, 0, 0, [])), (80, (.iadd, 81, false, false, 0, 0, 0, 0, 0, 0, [])), (81, (.iload_n 1, 82, false, false, 1, 0, 0, 0, 0, 0, [])), (82, (.iastore, 83, false, false, 0, 0, 0, 0, 0, 0, [])), (83, (.aload_n 0, 84, false, false, 0, 0, 0, 0, 0, 0, [])), (84, (.getfield 27, 87, false, false, 15, 1, 1, 0, 0, 0, []))]),
  (122, [(87, (.sipush 883, 90, false, false, 0, 0, 0, 0, 883, 0, [])), (90, (.iconst 4, 91, false, false, 0, 0, 0, 0, 4, 0, [])), (91, (.iload 4, 93, false, false, 4, 0, 0, 0, 0, 0, [])), (93, (.imul, 94, false, false, 0, 0, 0, 0, 0, 0, [])), (94, (.iadd, 95, false, false, 0, 0, 0, 0, 0, 0, [])), (95, (.iconst 1, 96, false, false, 0, 0, 0, 0, 1, 0, [])), (96, (.iadd, 97, false, false, 0, 0, 0, 0, 0, 0, [])), (97, (.iload_n 2, 98, false, false, 2, 0, 0, 0, 0, 0, [])), (98, (.iastore, 99, false, false, 0, 0, 0, 0, 0, 0, [])), (99, (.aload_n 0, 100, false, false, 0, 0, 0, 0, 0, 0, [])), (100, (.getfield 27, 103, false, false, 15, 1, 1, 0, 0, 0, [])), (103, (.sipush 883, 106, false, false, 0, 0, 0, 0, 883, 0, [])), (106, (.iconst 4, 107, false, false, 0, 0, 0, 0, 4, 0, [])), (107, (.iload 4, 109, false, false, 4, 0, 0, 0, 0, 0, [])), (109, (.imul, 110, false, false, 0, 0, 0, 0, 0, 0, [])), (110, (.iadd, 111, false, false, 0, 0, 0, 0, 0, 0, [])), (111, (.iconst 2, 112, false, false, 0, 0, 0, 0, 2, 0, [])), (112, (.iadd, 113, false, false, 0, 0, 0, 0, 0, 0, [])), (113, (.iload_n 3, 114, false, false, 3, 0, 0, 0, 0, 0, [])), (114, (.iastore, 115, false, false, 0, 0, 0, 0, 0, 0, [])), (115, (.aload_n 0, 116, false, false, 0, 0, 0, 0, 0, 0, [])), (116, (.getfield 27, 119, false, false, 15, 1, 1, 0, 0, 0, [])), (119, (.sipush 883, 122, false, false, 0, 0, 0, 0, 883, 0, [])), (122, (.iconst 4, 123, false, false, 0, 0, 0, 0, 4, 0, []))]),
  (150, [(123, (.iload 4, 125, false, false, 4, 0, 0, 0, 0, 0, [])), (125, (.imul, 126, false, false, 0, 0, 0, 0, 0, 0, [])), (126, (.iadd, 127, false, false, 0, 0, 0, 0, 0, 0, [])), (127, (.iconst 3, 128, false, false, 0, 0, 0, 0, 3, 0, [])), (128, (.iadd, 129, false, false, 0, 0, 0, 0, 0, 0, [])), (129, (.aload_n 0, 130, false, false, 0, 0, 0, 0, 0, 0, [])), (130, (.invokevirtual 89, 133, false, false, 48, 0, 1, 15, 0, 0, [])), (133, (.iastore, 134, false, false, 0, 0, 0, 0, 0, 0, [])), (134, (.aload_n 0, 135, false, false, 0, 0, 0, 0, 0, 0, [])), (135, (.getfield 27, 138, false, false, 15, 1, 1, 0, 0, 0, [])), (138, (.sipush 882, 141, false, false, 0, 0, 0, 0, 882, 0, [])), (141, (.dup2, 142, false, false, 0, 0, 0, 0, 0, 0, [])), (142, (.iaload, 143, false, false, 0, 0, 0, 0, 0, 0, [])), (143, (.iconst 1, 144, false, false, 0, 0, 0, 0, 1, 0, [])), (144, (.iadd, 145, false, false, 0, 0, 0, 0, 0, 0, [])), (145, (.iastore, 146, false, false, 0, 0, 0, 0, 0, 0, [])), (146, (.iload 4, 148, false, false, 4, 0, 0, 0, 0, 0, [])), (148, (.iconst 1, 149, false, false, 0, 0, 0, 0, 1, 0, [])), (149, (.iadd, 150, false, false, 0, 0, 0, 0, 0, 0, [])), (150, (.ireturn, 151, false, false, 0, 0, 0, 0, 0, 0, []))])], 0, [])
set_option maxRecDepth 100000 in
theorem v_X12_price : VE MYT dflT E_X12_price := ⟨⟨⟨⟨⟨dX12_price_0, rfl⟩, rfl⟩, ⟨⟨dX12_price_1, rfl⟩, rfl⟩, ⟨⟨dX12_price_2, rfl⟩, Or.inl ⟨rfl, fX12_3⟩⟩, ⟨⟨dX12_price_5, rfl⟩, rfl⟩, ⟨⟨dX12_price_6, rfl⟩, rfl⟩, ⟨⟨dX12_price_7, rfl⟩, rfl⟩, ⟨⟨dX12_price_8, rfl⟩, rfl⟩, ⟨⟨dX12_price_9, rfl⟩, Or.inl ⟨rfl, _, my_28, sX12_63⟩⟩, ⟨⟨dX12_price_12, rfl⟩, rfl⟩, ⟨⟨dX12_price_15, rfl⟩, rfl⟩, ⟨⟨dX12_price_16, rfl⟩, rfl⟩, ⟨⟨dX12_price_17, rfl⟩, rfl⟩, ⟨⟨dX12_price_19, rfl⟩, Or.inl ⟨rfl, _, my_28, sX12_63⟩⟩, ⟨⟨dX12_price_22, rfl⟩, rfl⟩, ⟨⟨dX12_price_25, rfl⟩, rfl⟩, ⟨⟨dX12_price_26, rfl⟩, rfl⟩, ⟨⟨dX12_price_27, rfl⟩, rfl⟩, ⟨⟨dX12_price_29, rfl⟩, Or.inl ⟨rfl, _, my_28, sX12_63⟩⟩, ⟨⟨dX12_price_32, rfl⟩, rfl⟩, ⟨⟨dX12_price_35, rfl⟩, rfl⟩, ⟨⟨dX12_price_36, rfl⟩, rfl⟩, ⟨⟨dX12_price_39, rfl⟩, rfl⟩, ⟨⟨dX12_price_40, rfl⟩, rfl⟩, ⟨⟨dX12_price_41, rfl⟩, Or.inr ⟨by decide, ⟨_, my_30, sX12_75⟩, fun q => absurd q (by decide)⟩⟩, trivial⟩,
  ⟨⟨⟨dX12_price_44, rfl⟩, rfl⟩, ⟨⟨dX12_price_47, rfl⟩, rfl⟩, ⟨⟨dX12_price_48, rfl⟩, Or.inl ⟨rfl, rfl⟩⟩, ⟨⟨dX12_price_49, rfl⟩, rfl⟩, ⟨⟨dX12_price_50, rfl⟩, Or.inl ⟨by decide, _, _, fX12_27⟩⟩, ⟨⟨dX12_price_53, rfl⟩, rfl⟩, ⟨⟨dX12_price_56, rfl⟩, trivial⟩, ⟨⟨dX12_price_57, rfl⟩, rfl⟩, ⟨⟨dX12_price_59, rfl⟩, rfl⟩, ⟨⟨dX12_price_61, rfl⟩, rfl⟩, ⟨⟨dX12_price_64, rfl⟩, rfl⟩, ⟨⟨dX12_price_67, rfl⟩, rfl⟩, ⟨⟨dX12_price_68, rfl⟩, Or.inl ⟨rfl, rfl⟩⟩, ⟨⟨dX12_price_69, rfl⟩, rfl⟩, ⟨⟨dX12_price_70, rfl⟩, Or.inl ⟨by decide, _, _, fX12_27⟩⟩, ⟨⟨dX12_price_73, rfl⟩, rfl⟩, ⟨⟨dX12_price_76, rfl⟩, rfl⟩, ⟨⟨dX12_price_77, rfl⟩, rfl⟩, ⟨⟨dX12_price_79, rfl⟩, trivial⟩, ⟨⟨dX12_price_80, rfl⟩, trivial⟩, ⟨⟨dX12_price_81, rfl⟩, rfl⟩, ⟨⟨dX12_price_82, rfl⟩, trivial⟩, ⟨⟨dX12_price_83, rfl⟩, rfl⟩, ⟨⟨dX12_price_84, rfl⟩, Or.inl ⟨by decide, _, _, fX12_27⟩⟩, trivial⟩,
  ⟨⟨⟨dX12_price_87, rfl⟩, rfl⟩, ⟨⟨dX12_price_90, rfl⟩, rfl⟩, ⟨⟨dX12_price_91, rfl⟩, rfl⟩, ⟨⟨dX12_price_93, rfl⟩, trivial⟩, ⟨⟨dX12_price_94, rfl⟩, trivial⟩, ⟨⟨dX12_price_95, rfl⟩, rfl⟩, ⟨⟨dX12_price_96, rfl⟩, trivial⟩, ⟨⟨dX12_price_97, rfl⟩, rfl⟩, ⟨⟨dX12_price_98, rfl⟩, trivial⟩, ⟨⟨dX12_price_99, rfl⟩, rfl⟩, ⟨⟨dX12_price_100, rfl⟩, Or.inl ⟨by decide, _, _, fX12_27⟩⟩, ⟨⟨dX12_price_103, rfl⟩, rfl⟩, ⟨⟨dX12_price_106, rfl⟩, rfl⟩, ⟨⟨dX12_price_107, rfl⟩, rfl⟩, ⟨⟨dX12_price_109, rfl⟩, trivial⟩, ⟨⟨dX12_price_110, rfl⟩, trivial⟩, ⟨⟨dX12_price_111, rfl⟩, rfl⟩, ⟨⟨dX12_price_112, rfl⟩, trivial⟩, ⟨⟨dX12_price_113, rfl⟩, rfl⟩, ⟨⟨dX12_price_114, rfl⟩, trivial⟩, ⟨⟨dX12_price_115, rfl⟩, rfl⟩, ⟨⟨dX12_price_116, rfl⟩, Or.inl ⟨by decide, _, _, fX12_27⟩⟩, ⟨⟨dX12_price_119, rfl⟩, rfl⟩, ⟨⟨dX12_price_122, rfl⟩, rfl⟩, trivial⟩,
  ⟨⟨⟨dX12_price_123, rfl⟩, rfl⟩, ⟨⟨dX12_price_125, rfl⟩, trivial⟩, ⟨⟨dX12_price_126, rfl⟩, trivial⟩, ⟨⟨dX12_price_127, rfl⟩, rfl⟩, ⟨⟨dX12_price_128, rfl⟩, trivial⟩, ⟨⟨dX12_price_129, rfl⟩, rfl⟩, ⟨⟨dX12_price_130, rfl⟩, Or.inr ⟨by decide, ⟨_, my_48, sX12_89⟩, fun q => absurd q (by decide)⟩⟩, ⟨⟨dX12_price_133, rfl⟩, trivial⟩, ⟨⟨dX12_price_134, rfl⟩, rfl⟩, ⟨⟨dX12_price_135, rfl⟩, Or.inl ⟨by decide, _, _, fX12_27⟩⟩, ⟨⟨dX12_price_138, rfl⟩, rfl⟩, ⟨⟨dX12_price_141, rfl⟩, trivial⟩, ⟨⟨dX12_price_142, rfl⟩, trivial⟩, ⟨⟨dX12_price_143, rfl⟩, rfl⟩, ⟨⟨dX12_price_144, rfl⟩, trivial⟩, ⟨⟨dX12_price_145, rfl⟩, trivial⟩, ⟨⟨dX12_price_146, rfl⟩, rfl⟩, ⟨⟨dX12_price_148, rfl⟩, rfl⟩, ⟨⟨dX12_price_149, rfl⟩, trivial⟩, ⟨⟨dX12_price_150, rfl⟩, Or.inl ⟨rfl, rfl⟩⟩, trivial⟩, trivial⟩, by decide, Or.inl ⟨rfl, by decide, rfl⟩⟩
set_option maxRecDepth 100000 in
theorem g_X12_price_0 (S : sT) (call : cT) (n : Nat) (a0 : Nat) (x1 : Int32) (x2 : Int32) (x3 : Int32) (h : pH) : bd S call dflT E_X12_price (n + 1) 0 [some (.ref a0), some (.int x1), some (.int x2), some (.int x3), none] [] h = (pF h (.ref a0) 15 0 (.int 0) (fun h1 => cI (call 28 [.int x1, .int 1, .int 4] h1) (fun y3 h2 => (if y3 = 0 then bd S call dflT E_X12_price n 40 [some (.ref a0), some (.int x1), some (.int x2), some (.int x3), none] [.int 1, .ref a0] h2 else cI (call 28 [.int x2, .int 0, .int 100] h2) (fun y5 h4 => (if y5 = 0 then bd S call dflT E_X12_price n 40 [some (.ref a0), some (.int x1), some (.int x2), some (.int x3), none] [.int 1, .ref a0] h4 else cI (call 28 [.int x3, .int 0, .int 100] h4) (fun y7 h6 => (if y7 = 0 then bd S call dflT E_X12_price n 40 [some (.ref a0), some (.int x1), some (.int x2), some (.int x3), none] [.int 1, .ref a0] h6 else bd S call dflT E_X12_price n 40 [some (.ref a0), some (.int x1), some (.int x2), some (.int x3), none] [.int 0, .ref a0] h6)))))))) := rfl
set_option maxRecDepth 100000 in
theorem g_X12_price_40 (S : sT) (call : cT) (n : Nat) (a0 : Nat) (x1 : Int32) (x2 : Int32) (x3 : Int32) (o4 : Option Value) (u0 : Value) (y1 : Int32) (h : pH) : bd S call dflT E_X12_price (n + 1) 40 [some (.ref a0), some (.int x1), some (.int x2), some (.int x3), o4] [.int y1, u0] h = (rC h u0 15 (cI (call 30 [u0, .int y1, .int 1] h) (fun y2 h1 => (if y2 = 0 then gV h1 (.ref a0) 15 1 (fun w3 => aI h1 w3 0 882 (fun y4 => (if y4 = 200 then some (.inl (some (.int (-1))), h1) else gV h1 (.ref a0) 15 1 (fun w5 => sI h1 w5 0 (883 + (4 * y4)) x1 (fun h6 => gV h6 (.ref a0) 15 1 (fun w7 => sI h6 w7 0 ((883 + (4 * y4)) + 1) x2 (fun h8 => gV h8 (.ref a0) 15 1 (fun w9 => sI h8 w9 0 ((883 + (4 * y4)) + 2) x3 (fun h10 => gV h10 (.ref a0) 15 1 (fun w11 => rC h10 (.ref a0) 15 (cI (call 48 [.ref a0] h10) (fun y13 h12 => sI h12 w11 0 ((883 + (4 * y4)) + 3) y13 (fun h14 => gV h14 (.ref a0) 15 1 (fun w15 => nl w15 (aI h14 w15 0 882 (fun y16 => sI h14 w15 0 882 (y16 + 1) (fun h17 => some (.inl (some (.int (y4 + 1))), h17)))))))))))))))))) else some (.inl (some (.int 0)), h1))))) := rfl
theorem dX12_knownOf_0 : decode cX12_knownOf 0 = .ok (.bipush 10, 2) := by decide +kernel
theorem dX12_knownOf_2 : decode cX12_knownOf 2 = .ok (.istore 4, 2) := by decide +kernel
theorem dX12_knownOf_4 : decode cX12_knownOf 4 = .ok (.sipush 883, 3) := by decide +kernel
theorem dX12_knownOf_7 : decode cX12_knownOf 7 = .ok (.istore 5, 2) := by decide +kernel
theorem dX12_knownOf_9 : decode cX12_knownOf 9 = .ok (.iload 5, 2) := by decide +kernel
theorem dX12_knownOf_11 : decode cX12_knownOf 11 = .ok (.sipush 883, 3) := by decide +kernel
theorem dX12_knownOf_14 : decode cX12_knownOf 14 = .ok (.iconst 4, 1) := by decide +kernel
theorem dX12_knownOf_15 : decode cX12_knownOf 15 = .ok (.aload_n 0, 1) := by decide +kernel
theorem dX12_knownOf_16 : decode cX12_knownOf 16 = .ok (.getfield 27, 3) := by decide +kernel
theorem dX12_knownOf_19 : decode cX12_knownOf 19 = .ok (.sipush 882, 3) := by decide +kernel
theorem dX12_knownOf_22 : decode cX12_knownOf 22 = .ok (.iaload, 1) := by decide +kernel
theorem dX12_knownOf_23 : decode cX12_knownOf 23 = .ok (.imul, 1) := by decide +kernel
theorem dX12_knownOf_24 : decode cX12_knownOf 24 = .ok (.iadd, 1) := by decide +kernel
theorem dX12_knownOf_25 : decode cX12_knownOf 25 = .ok (.if_icmp .ge 57, 3) := by decide +kernel
theorem dX12_knownOf_28 : decode cX12_knownOf 28 = .ok (.aload_n 0, 1) := by decide +kernel
theorem dX12_knownOf_29 : decode cX12_knownOf 29 = .ok (.getfield 27, 3) := by decide +kernel
theorem dX12_knownOf_32 : decode cX12_knownOf 32 = .ok (.iload 5, 2) := by decide +kernel
theorem dX12_knownOf_34 : decode cX12_knownOf 34 = .ok (.iaload, 1) := by decide +kernel
theorem dX12_knownOf_35 : decode cX12_knownOf 35 = .ok (.iload_n 1, 1) := by decide +kernel
theorem dX12_knownOf_36 : decode cX12_knownOf 36 = .ok (.if_icmp .ne 40, 3) := by decide +kernel
theorem dX12_knownOf_39 : decode cX12_knownOf 39 = .ok (.aload_n 0, 1) := by decide +kernel
theorem dX12_knownOf_40 : decode cX12_knownOf 40 = .ok (.getfield 27, 3) := by decide +kernel
theorem dX12_knownOf_43 : decode cX12_knownOf 43 = .ok (.iload 5, 2) := by decide +kernel
theorem dX12_knownOf_45 : decode cX12_knownOf 45 = .ok (.iconst 1, 1) := by decide +kernel
theorem dX12_knownOf_46 : decode cX12_knownOf 46 = .ok (.iadd, 1) := by decide +kernel
theorem dX12_knownOf_47 : decode cX12_knownOf 47 = .ok (.iaload, 1) := by decide +kernel
theorem dX12_knownOf_48 : decode cX12_knownOf 48 = .ok (.iload_n 2, 1) := by decide +kernel
theorem dX12_knownOf_49 : decode cX12_knownOf 49 = .ok (.if_icmp .ne 27, 3) := by decide +kernel
theorem dX12_knownOf_52 : decode cX12_knownOf 52 = .ok (.aload_n 0, 1) := by decide +kernel
theorem dX12_knownOf_53 : decode cX12_knownOf 53 = .ok (.getfield 27, 3) := by decide +kernel
theorem dX12_knownOf_56 : decode cX12_knownOf 56 = .ok (.iload 5, 2) := by decide +kernel
theorem dX12_knownOf_58 : decode cX12_knownOf 58 = .ok (.iconst 3, 1) := by decide +kernel
theorem dX12_knownOf_59 : decode cX12_knownOf 59 = .ok (.iadd, 1) := by decide +kernel
theorem dX12_knownOf_60 : decode cX12_knownOf 60 = .ok (.iaload, 1) := by decide +kernel
theorem dX12_knownOf_61 : decode cX12_knownOf 61 = .ok (.iload_n 3, 1) := by decide +kernel
theorem dX12_knownOf_62 : decode cX12_knownOf 62 = .ok (.if_icmp .gt 14, 3) := by decide +kernel
theorem dX12_knownOf_65 : decode cX12_knownOf 65 = .ok (.aload_n 0, 1) := by decide +kernel
theorem dX12_knownOf_66 : decode cX12_knownOf 66 = .ok (.getfield 27, 3) := by decide +kernel
theorem dX12_knownOf_69 : decode cX12_knownOf 69 = .ok (.iload 5, 2) := by decide +kernel
theorem dX12_knownOf_71 : decode cX12_knownOf 71 = .ok (.iconst 2, 1) := by decide +kernel
theorem dX12_knownOf_72 : decode cX12_knownOf 72 = .ok (.iadd, 1) := by decide +kernel
theorem dX12_knownOf_73 : decode cX12_knownOf 73 = .ok (.iaload, 1) := by decide +kernel
theorem dX12_knownOf_74 : decode cX12_knownOf 74 = .ok (.istore 4, 2) := by decide +kernel
theorem dX12_knownOf_76 : decode cX12_knownOf 76 = .ok (.iinc 5 4, 3) := by decide +kernel
theorem dX12_knownOf_79 : decode cX12_knownOf 79 = .ok (.goto (-70), 3) := by decide +kernel
theorem dX12_knownOf_82 : decode cX12_knownOf 82 = .ok (.iload 4, 2) := by decide +kernel
theorem dX12_knownOf_84 : decode cX12_knownOf 84 = .ok (.ireturn, 1) := by decide +kernel
noncomputable def E_X12_knownOf : mE := (mX12_knownOf, [(45, [(0, (.bipush 10, 2, false, false, 0, 0, 0, 0, 10, 0, [])), (2, (.istore 4, 4, false, false, 4, 0, 0, 0, 0, 0, [])), (4, (.sipush 883, 7, false, false, 0, 0, 0, 0, 883, 0, [])), (7, (.istore 5, 9, true, false, 5, 0, 0, 0, 0, 0, [])), (9, (.iload 5, 11, false, false, 5, 0, 0, 0, 0, 0, [])), (11, (.sipush 883, 14, false, false, 0, 0, 0, 0, 883, 0, [])), (14, (.iconst 4, 15, false, false, 0, 0, 0, 0, 4, 0, [])), (15, (.aload_n 0, 16, false, false, 0, 0, 0, 0, 0, 0, [])), (16, (.getfield 27, 19, false, false, 15, 1, 1, 0, 0, 0, [])), (19, (.sipush 882, 22, false, false, 0, 0, 0, 0, 882, 0, [])), (22, (.iaload, 23, false, false, 0, 0, 0, 0, 0, 0, [])), (23, (.imul, 24, false, false, 0, 0, 0, 0, 0, 0, [])), (24, (.iadd, 25, false, false, 0, 0, 0, 0, 0, 0, [])), (25, (.if_icmp .ge 57, 28, false, false, 82, 0, 0, 0, 0, 0, [])), (28, (.aload_n 0, 29, false, false, 0, 0, 0, 0, 0, 0, [])), (29, (.getfield 27, 32, false, false, 15, 1, 1, 0, 0, 0, [])), (32, (.iload 5, 34, false, false, 5, 0, 0, 0, 0, 0, [])), (34, (.iaload, 35, false, false, 0, 0, 0, 0, 0, 0, [])), (35, (.iload_n 1, 36, false, false, 1, 0, 0, 0, 0, 0, [])), (36, (.if_icmp .ne 40, 39, false, false, 76, 0, 0, 0, 0, 0, [])), (39, (.aload_n 0, 40, false, false, 0, 0, 0, 0, 0, 0, [])), (40, (.getfield 27, 43, false, false, 15, 1, 1, 0, 0, 0, [])), (43, (.iload 5, 45, false, false, 5, 0, 0, 0, 0, 0, [])), (45, (.iconst 1, 46, false, false, 0, 0, 0, 0, 1, 0, []))]),
  (84, [(46, (.iadd, 47, false, false, 0, 0, 0, 0, 0, 0, [])), (47, (.iaload, 48, false, false, 0, 0, 0, 0, 0, 0, [])), (48, (.iload_n 2, 49, false, false, 2, 0, 0, 0, 0, 0, [])), (49, (.if_icmp .ne 27, 52, false, false, 76, 0, 0, 0, 0, 0, [])), (52, (.aload_n 0, 53, false, false, 0, 0, 0, 0, 0, 0, [])), (53, (.getfield 27, 56, false, false, 15, 1, 1, 0, 0, 0, [])), (56, (.iload 5, 58, false, false, 5, 0, 0, 0, 0, 0, [])), (58, (.iconst 3, 59, false, false, 0, 0, 0, 0, 3, 0, [])), (59, (.iadd, 60, false, false, 0, 0, 0, 0, 0, 0, [])), (60, (.iaload, 61, false, false, 0, 0, 0, 0, 0, 0, [])), (61, (.iload_n 3, 62, false, false, 3, 0, 0, 0, 0, 0, [])), (62, (.if_icmp .gt 14, 65, false, false, 76, 0, 0, 0, 0, 0, [])), (65, (.aload_n 0, 66, false, false, 0, 0, 0, 0, 0, 0, [])), (66, (.getfield 27, 69, false, false, 15, 1, 1, 0, 0, 0, [])), (69, (.iload 5, 71, false, false, 5, 0, 0, 0, 0, 0, [])), (71, (.iconst 2, 72, false, false, 0, 0, 0, 0, 2, 0, [])), (72, (.iadd, 73, false, false, 0, 0, 0, 0, 0, 0, [])), (73, (.iaload, 74, false, false, 0, 0, 0, 0, 0, 0, [])), (74, (.istore 4, 76, false, false, 4, 0, 0, 0, 0, 0, [])), (76, (.iinc 5 4, 79, false, false, 5, 0, 0, 0, 4, 0, [])), (79, (.goto (-70), 82, false, true, 9, 0, 0, 0, 0, 0, [])), (82, (.iload 4, 84, false, false, 4, 0, 0, 0, 0, 0, [])), (84, (.ireturn, 85, false, false, 0, 0, 0, 0, 0, 0, []))])], 0, [])
set_option maxRecDepth 100000 in
theorem v_X12_knownOf : VE MYT dflT E_X12_knownOf := ⟨⟨⟨⟨⟨dX12_knownOf_0, rfl⟩, rfl⟩, ⟨⟨dX12_knownOf_2, rfl⟩, rfl⟩, ⟨⟨dX12_knownOf_4, rfl⟩, rfl⟩, ⟨⟨dX12_knownOf_7, rfl⟩, rfl⟩, ⟨⟨dX12_knownOf_9, rfl⟩, rfl⟩, ⟨⟨dX12_knownOf_11, rfl⟩, rfl⟩, ⟨⟨dX12_knownOf_14, rfl⟩, rfl⟩, ⟨⟨dX12_knownOf_15, rfl⟩, rfl⟩, ⟨⟨dX12_knownOf_16, rfl⟩, Or.inl ⟨by decide, _, _, fX12_27⟩⟩, ⟨⟨dX12_knownOf_19, rfl⟩, rfl⟩, ⟨⟨dX12_knownOf_22, rfl⟩, trivial⟩, ⟨⟨dX12_knownOf_23, rfl⟩, trivial⟩, ⟨⟨dX12_knownOf_24, rfl⟩, trivial⟩, ⟨⟨dX12_knownOf_25, rfl⟩, rfl⟩, ⟨⟨dX12_knownOf_28, rfl⟩, rfl⟩, ⟨⟨dX12_knownOf_29, rfl⟩, Or.inl ⟨by decide, _, _, fX12_27⟩⟩, ⟨⟨dX12_knownOf_32, rfl⟩, rfl⟩, ⟨⟨dX12_knownOf_34, rfl⟩, trivial⟩, ⟨⟨dX12_knownOf_35, rfl⟩, rfl⟩, ⟨⟨dX12_knownOf_36, rfl⟩, rfl⟩, ⟨⟨dX12_knownOf_39, rfl⟩, rfl⟩, ⟨⟨dX12_knownOf_40, rfl⟩, Or.inl ⟨by decide, _, _, fX12_27⟩⟩, ⟨⟨dX12_knownOf_43, rfl⟩, rfl⟩, ⟨⟨dX12_knownOf_45, rfl⟩, rfl⟩, trivial⟩,
  ⟨⟨⟨dX12_knownOf_46, rfl⟩, trivial⟩, ⟨⟨dX12_knownOf_47, rfl⟩, trivial⟩, ⟨⟨dX12_knownOf_48, rfl⟩, rfl⟩, ⟨⟨dX12_knownOf_49, rfl⟩, rfl⟩, ⟨⟨dX12_knownOf_52, rfl⟩, rfl⟩, ⟨⟨dX12_knownOf_53, rfl⟩, Or.inl ⟨by decide, _, _, fX12_27⟩⟩, ⟨⟨dX12_knownOf_56, rfl⟩, rfl⟩, ⟨⟨dX12_knownOf_58, rfl⟩, rfl⟩, ⟨⟨dX12_knownOf_59, rfl⟩, trivial⟩, ⟨⟨dX12_knownOf_60, rfl⟩, trivial⟩, ⟨⟨dX12_knownOf_61, rfl⟩, rfl⟩, ⟨⟨dX12_knownOf_62, rfl⟩, rfl⟩, ⟨⟨dX12_knownOf_65, rfl⟩, rfl⟩, ⟨⟨dX12_knownOf_66, rfl⟩, Or.inl ⟨by decide, _, _, fX12_27⟩⟩, ⟨⟨dX12_knownOf_69, rfl⟩, rfl⟩, ⟨⟨dX12_knownOf_71, rfl⟩, rfl⟩, ⟨⟨dX12_knownOf_72, rfl⟩, trivial⟩, ⟨⟨dX12_knownOf_73, rfl⟩, trivial⟩, ⟨⟨dX12_knownOf_74, rfl⟩, rfl⟩, ⟨⟨dX12_knownOf_76, rfl⟩, ⟨rfl, rfl⟩⟩, ⟨⟨dX12_knownOf_79, rfl⟩, rfl⟩, ⟨⟨dX12_knownOf_82, rfl⟩, rfl⟩, ⟨⟨dX12_knownOf_84, rfl⟩, Or.inl ⟨rfl, rfl⟩⟩, trivial⟩, trivial⟩, by decide, Or.inl ⟨rfl, by decide, rfl⟩⟩
set_option maxRecDepth 100000 in
theorem g_X12_knownOf_0 (S : sT) (call : cT) (n : Nat) (a0 : Nat) (x1 : Int32) (x2 : Int32) (x3 : Int32) (h : pH) : bd S call dflT E_X12_knownOf (n + 1) 0 [some (.ref a0), some (.int x1), some (.int x2), some (.int x3), none, none] [] h = (bd S call dflT E_X12_knownOf n 9 [some (.ref a0), some (.int x1), some (.int x2), some (.int x3), some (.int 10), some (.int 883)] [] h) := rfl
set_option maxRecDepth 100000 in
theorem g_X12_knownOf_9 (S : sT) (call : cT) (n : Nat) (a0 : Nat) (x1 : Int32) (x2 : Int32) (x3 : Int32) (x4 : Int32) (x5 : Int32) (h : pH) : bd S call dflT E_X12_knownOf (n + 1) 9 [some (.ref a0), some (.int x1), some (.int x2), some (.int x3), some (.int x4), some (.int x5)] [] h = (gV h (.ref a0) 15 1 (fun w1 => aI h w1 0 882 (fun y2 => (if (883 + (4 * y2)) ≤ x5 then some (.inl (some (.int x4)), h) else gV h (.ref a0) 15 1 (fun w3 => aI h w3 0 x5 (fun y4 => (if y4 = x1 then gV h (.ref a0) 15 1 (fun w5 => aI h w5 0 (x5 + 1) (fun y6 => (if y6 = x2 then gV h (.ref a0) 15 1 (fun w7 => aI h w7 0 (x5 + 3) (fun y8 => (if x3 < y8 then bd S call dflT E_X12_knownOf n 9 [some (.ref a0), some (.int x1), some (.int x2), some (.int x3), some (.int x4), some (.int (x5 + 4))] [] h else gV h (.ref a0) 15 1 (fun w9 => aI h w9 0 (x5 + 2) (fun y10 => bd S call dflT E_X12_knownOf n 9 [some (.ref a0), some (.int x1), some (.int x2), some (.int x3), some (.int y10), some (.int (x5 + 4))] [] h))))) else bd S call dflT E_X12_knownOf n 9 [some (.ref a0), some (.int x1), some (.int x2), some (.int x3), some (.int x4), some (.int (x5 + 4))] [] h))) else bd S call dflT E_X12_knownOf n 9 [some (.ref a0), some (.int x1), some (.int x2), some (.int x3), some (.int x4), some (.int (x5 + 4))] [] h))))))) := rfl
theorem dX12_known_0 : decode cX12_known 0 = .ok (.aload_n 0, 1) := by decide +kernel
theorem dX12_known_1 : decode cX12_known 1 = .ok (.iconst 0, 1) := by decide +kernel
theorem dX12_known_2 : decode cX12_known 2 = .ok (.putfield 3, 3) := by decide +kernel
theorem dX12_known_5 : decode cX12_known 5 = .ok (.aload_n 0, 1) := by decide +kernel
theorem dX12_known_6 : decode cX12_known 6 = .ok (.iload_n 1, 1) := by decide +kernel
theorem dX12_known_7 : decode cX12_known 7 = .ok (.iconst 1, 1) := by decide +kernel
theorem dX12_known_8 : decode cX12_known 8 = .ok (.iconst 4, 1) := by decide +kernel
theorem dX12_known_9 : decode cX12_known 9 = .ok (.invokestatic 63, 3) := by decide +kernel
theorem dX12_known_12 : decode cX12_known 12 = .ok (.ifCond .eq 13, 3) := by decide +kernel
theorem dX12_known_15 : decode cX12_known 15 = .ok (.iload_n 2, 1) := by decide +kernel
theorem dX12_known_16 : decode cX12_known 16 = .ok (.iconst 0, 1) := by decide +kernel
theorem dX12_known_17 : decode cX12_known 17 = .ok (.bipush 100, 2) := by decide +kernel
theorem dX12_known_19 : decode cX12_known 19 = .ok (.invokestatic 63, 3) := by decide +kernel
theorem dX12_known_22 : decode cX12_known 22 = .ok (.ifCond .ne 7, 3) := by decide +kernel
theorem dX12_known_25 : decode cX12_known 25 = .ok (.iconst 1, 1) := by decide +kernel
theorem dX12_known_26 : decode cX12_known 26 = .ok (.goto 4, 3) := by decide +kernel
theorem dX12_known_29 : decode cX12_known 29 = .ok (.iconst 0, 1) := by decide +kernel
theorem dX12_known_30 : decode cX12_known 30 = .ok (.iconst 1, 1) := by decide +kernel
theorem dX12_known_31 : decode cX12_known 31 = .ok (.invokevirtual 75, 3) := by decide +kernel
theorem dX12_known_34 : decode cX12_known 34 = .ok (.ifCond .eq 7, 3) := by decide +kernel
theorem dX12_known_37 : decode cX12_known 37 = .ok (.iconst 0, 1) := by decide +kernel
theorem dX12_known_38 : decode cX12_known 38 = .ok (.goto 10, 3) := by decide +kernel
theorem dX12_known_41 : decode cX12_known 41 = .ok (.aload_n 0, 1) := by decide +kernel
theorem dX12_known_42 : decode cX12_known 42 = .ok (.iload_n 1, 1) := by decide +kernel
theorem dX12_known_43 : decode cX12_known 43 = .ok (.iload_n 2, 1) := by decide +kernel
theorem dX12_known_44 : decode cX12_known 44 = .ok (.iload_n 3, 1) := by decide +kernel
theorem dX12_known_45 : decode cX12_known 45 = .ok (.invokevirtual 93, 3) := by decide +kernel
theorem dX12_known_48 : decode cX12_known 48 = .ok (.ireturn, 1) := by decide +kernel
noncomputable def E_X12_known : mE := (mX12_known, [(42, [(0, (.aload_n 0, 1, false, false, 0, 0, 0, 0, 0, 0, [])), (1, (.iconst 0, 2, false, false, 0, 0, 0, 0, 0, 0, [])), (2, (.putfield 3, 5, false, false, 15, 0, 0, 0, 0, 0, [])), (5, (.aload_n 0, 6, false, false, 0, 0, 0, 0, 0, 0, [])), (6, (.iload_n 1, 7, false, false, 1, 0, 0, 0, 0, 0, [])), (7, (.iconst 1, 8, false, false, 0, 0, 0, 0, 1, 0, [])), (8, (.iconst 4, 9, false, false, 0, 0, 0, 0, 4, 0, [])), (9, (.invokestatic 63, 12, false, false, 28, 3, 1, 0, 0, 0, [])), (12, (.ifCond .eq 13, 15, false, false, 25, 0, 0, 0, 0, 0, [])), (15, (.iload_n 2, 16, false, false, 2, 0, 0, 0, 0, 0, [])), (16, (.iconst 0, 17, false, false, 0, 0, 0, 0, 0, 0, [])), (17, (.bipush 100, 19, false, false, 0, 0, 0, 0, 100, 0, [])), (19, (.invokestatic 63, 22, false, false, 28, 3, 1, 0, 0, 0, [])), (22, (.ifCond .ne 7, 25, false, false, 29, 0, 0, 0, 0, 0, [])), (25, (.iconst 1, 26, false, false, 0, 0, 0, 0, 1, 0, [])), (26, (.goto 4, 29, false, false, 30, 0, 0, 0, 0, 0, [])), (29, (.iconst 0, 30, false, false, 0, 0, 0, 0, 0, 0, [])), (30, (.iconst 1, 31, false, false, 0, 0, 0, 0, 1, 0, [])), (31, (.invokevirtual 75, 34, false, false, 30, 2, 1, 15, 0, 0, [])), (34, (.ifCond .eq 7, 37, false, false, 41, 0, 0, 0, 0, 0, [])), (37, (.iconst 0, 38, false, false, 0, 0, 0, 0, 0, 0, [])), (38, (.goto 10, 41, false, false, 48, 0, 0, 0, 0, 0, [])), (41, (.aload_n 0, 42, false, false, 0, 0, 0, 0, 0, 0, [])), (42, (.iload_n 1, 43, false, false, 1, 0, 0, 0, 0, 0, []))]),
  (48, [(43, (.iload_n 2, 44, false, false, 2, 0, 0, 0, 0, 0, [])), (44, (.iload_n 3, 45, false, false, 3, 0, 0, 0, 0, 0, [])), (45, (.invokevirtual 93, 48, false, false, 53, 3, 1, 15, 0, 0, [])), (48, (.ireturn, 49, false, false, 0, 0, 0, 0, 0, 0, []))])], 0, [])
set_option maxRecDepth 100000 in
theorem v_X12_known : VE MYT dflT E_X12_known := ⟨⟨⟨⟨⟨dX12_known_0, rfl⟩, rfl⟩, ⟨⟨dX12_known_1, rfl⟩, rfl⟩, ⟨⟨dX12_known_2, rfl⟩, Or.inl ⟨rfl, fX12_3⟩⟩, ⟨⟨dX12_known_5, rfl⟩, rfl⟩, ⟨⟨dX12_known_6, rfl⟩, rfl⟩, ⟨⟨dX12_known_7, rfl⟩, rfl⟩, ⟨⟨dX12_known_8, rfl⟩, rfl⟩, ⟨⟨dX12_known_9, rfl⟩, Or.inl ⟨rfl, _, my_28, sX12_63⟩⟩, ⟨⟨dX12_known_12, rfl⟩, rfl⟩, ⟨⟨dX12_known_15, rfl⟩, rfl⟩, ⟨⟨dX12_known_16, rfl⟩, rfl⟩, ⟨⟨dX12_known_17, rfl⟩, rfl⟩, ⟨⟨dX12_known_19, rfl⟩, Or.inl ⟨rfl, _, my_28, sX12_63⟩⟩, ⟨⟨dX12_known_22, rfl⟩, rfl⟩, ⟨⟨dX12_known_25, rfl⟩, rfl⟩, ⟨⟨dX12_known_26, rfl⟩, rfl⟩, ⟨⟨dX12_known_29, rfl⟩, rfl⟩, ⟨⟨dX12_known_30, rfl⟩, rfl⟩, ⟨⟨dX12_known_31, rfl⟩, Or.inr ⟨by decide, ⟨_, my_30, sX12_75⟩, fun q => absurd q (by decide)⟩⟩, ⟨⟨dX12_known_34, rfl⟩, rfl⟩, ⟨⟨dX12_known_37, rfl⟩, rfl⟩, ⟨⟨dX12_known_38, rfl⟩, rfl⟩, ⟨⟨dX12_known_41, rfl⟩, rfl⟩, ⟨⟨dX12_known_42, rfl⟩, rfl⟩, trivial⟩,
  ⟨⟨⟨dX12_known_43, rfl⟩, rfl⟩, ⟨⟨dX12_known_44, rfl⟩, rfl⟩, ⟨⟨dX12_known_45, rfl⟩, Or.inr ⟨by decide, ⟨_, my_53, sX12_93⟩, fun q => absurd q (by decide)⟩⟩, ⟨⟨dX12_known_48, rfl⟩, Or.inl ⟨rfl, rfl⟩⟩, trivial⟩, trivial⟩, by decide, Or.inl ⟨rfl, by decide, rfl⟩⟩
set_option maxRecDepth 100000 in
theorem g_X12_known_0 (S : sT) (call : cT) (n : Nat) (a0 : Nat) (x1 : Int32) (x2 : Int32) (x3 : Int32) (h : pH) : bd S call dflT E_X12_known (n + 1) 0 [some (.ref a0), some (.int x1), some (.int x2), some (.int x3)] [] h = (pF h (.ref a0) 15 0 (.int 0) (fun h1 => cI (call 28 [.int x1, .int 1, .int 4] h1) (fun y3 h2 => (if y3 = 0 then rC h2 (.ref a0) 15 (cI (call 30 [.ref a0, .int 1, .int 1] h2) (fun y5 h4 => (if y5 = 0 then rC h4 (.ref a0) 15 (cI (call 53 [.ref a0, .int x1, .int x2, .int x3] h4) (fun y7 h6 => some (.inl (some (.int y7)), h6))) else some (.inl (some (.int 0)), h4)))) else cI (call 28 [.int x2, .int 0, .int 100] h2) (fun y9 h8 => (if y9 = 0 then rC h8 (.ref a0) 15 (cI (call 30 [.ref a0, .int 1, .int 1] h8) (fun y15 h14 => (if y15 = 0 then rC h14 (.ref a0) 15 (cI (call 53 [.ref a0, .int x1, .int x2, .int x3] h14) (fun y17 h16 => some (.inl (some (.int y17)), h16))) else some (.inl (some (.int 0)), h14)))) else rC h8 (.ref a0) 15 (cI (call 30 [.ref a0, .int 0, .int 1] h8) (fun y11 h10 => (if y11 = 0 then rC h10 (.ref a0) 15 (cI (call 53 [.ref a0, .int x1, .int x2, .int x3] h10) (fun y13 h12 => some (.inl (some (.int y13)), h12))) else some (.inl (some (.int 0)), h10)))))))))) := rfl
theorem dX12_uses_0 : decode cX12_uses 0 = .ok (.aload_n 0, 1) := by decide +kernel
theorem dX12_uses_1 : decode cX12_uses 1 = .ok (.iconst 0, 1) := by decide +kernel
theorem dX12_uses_2 : decode cX12_uses 2 = .ok (.putfield 3, 3) := by decide +kernel
theorem dX12_uses_5 : decode cX12_uses 5 = .ok (.aload_n 0, 1) := by decide +kernel
theorem dX12_uses_6 : decode cX12_uses 6 = .ok (.aload_n 0, 1) := by decide +kernel
theorem dX12_uses_7 : decode cX12_uses 7 = .ok (.getfield 105, 3) := by decide +kernel
theorem dX12_uses_10 : decode cX12_uses 10 = .ok (.putfield 111, 3) := by decide +kernel
theorem dX12_uses_13 : decode cX12_uses 13 = .ok (.aload_n 0, 1) := by decide +kernel
theorem dX12_uses_14 : decode cX12_uses 14 = .ok (.iconst 0, 1) := by decide +kernel
theorem dX12_uses_15 : decode cX12_uses 15 = .ok (.putfield 105, 3) := by decide +kernel
theorem dX12_uses_18 : decode cX12_uses 18 = .ok (.return_, 1) := by decide +kernel
noncomputable def E_X12_uses : mE := (mX12_uses, [(18, [(0, (.aload_n 0, 1, false, false, 0, 0, 0, 0, 0, 0, [])), (1, (.iconst 0, 2, false, false, 0, 0, 0, 0, 0, 0, [])), (2, (.putfield 3, 5, false, false, 15, 0, 0, 0, 0, 0, [])), (5, (.aload_n 0, 6, false, false, 0, 0, 0, 0, 0, 0, [])), (6, (.aload_n 0, 7, false, false, 0, 0, 0, 0, 0, 0, [])), (7, (.getfield 105, 10, false, false, 15, 5, 0, 0, 0, 0, [])), (10, (.putfield 111, 13, false, false, 15, 7, 0, 0, 0, 0, [])), (13, (.aload_n 0, 14, false, false, 0, 0, 0, 0, 0, 0, [])), (14, (.iconst 0, 15, false, false, 0, 0, 0, 0, 0, 0, [])), (15, (.putfield 105, 18, false, false, 15, 5, 0, 0, 0, 0, [])), (18, (.return_, 19, false, false, 0, 0, 0, 0, 0, 0, []))])], 0, [])
set_option maxRecDepth 100000 in
theorem v_X12_uses : VE MYT dflT E_X12_uses := ⟨⟨⟨⟨⟨dX12_uses_0, rfl⟩, rfl⟩, ⟨⟨dX12_uses_1, rfl⟩, rfl⟩, ⟨⟨dX12_uses_2, rfl⟩, Or.inl ⟨rfl, fX12_3⟩⟩, ⟨⟨dX12_uses_5, rfl⟩, rfl⟩, ⟨⟨dX12_uses_6, rfl⟩, rfl⟩, ⟨⟨dX12_uses_7, rfl⟩, Or.inl ⟨by decide, _, _, fX12_105⟩⟩, ⟨⟨dX12_uses_10, rfl⟩, Or.inl ⟨rfl, fX12_111⟩⟩, ⟨⟨dX12_uses_13, rfl⟩, rfl⟩, ⟨⟨dX12_uses_14, rfl⟩, rfl⟩, ⟨⟨dX12_uses_15, rfl⟩, Or.inl ⟨rfl, fX12_105⟩⟩, ⟨⟨dX12_uses_18, rfl⟩, rfl⟩, trivial⟩, trivial⟩, by decide, Or.inl ⟨rfl, by decide, rfl⟩⟩
set_option maxRecDepth 100000 in
theorem g_X12_uses_0 (S : sT) (call : cT) (n : Nat) (a0 : Nat) (h : pH) : bd S call dflT E_X12_uses (n + 1) 0 [some (.ref a0)] [] h = (pF h (.ref a0) 15 0 (.int 0) (fun h1 => gI h1 (.ref a0) 15 5 (fun y2 => pF h1 (.ref a0) 15 7 (.int y2) (fun h3 => pF h3 (.ref a0) 15 5 (.int 0) (fun h4 => some (.inl none, h4)))))) := rfl
theorem dX12_isAt_0 : decode cX12_isAt 0 = .ok (.aload_n 0, 1) := by decide +kernel
theorem dX12_isAt_1 : decode cX12_isAt 1 = .ok (.getfield 108, 3) := by decide +kernel
theorem dX12_isAt_4 : decode cX12_isAt 4 = .ok (.aload_n 0, 1) := by decide +kernel
theorem dX12_isAt_5 : decode cX12_isAt 5 = .ok (.getfield 111, 3) := by decide +kernel
theorem dX12_isAt_8 : decode cX12_isAt 8 = .ok (.if_icmp .ge 33, 3) := by decide +kernel
theorem dX12_isAt_11 : decode cX12_isAt 11 = .ok (.aload_n 0, 1) := by decide +kernel
theorem dX12_isAt_12 : decode cX12_isAt 12 = .ok (.getfield 35, 3) := by decide +kernel
theorem dX12_isAt_15 : decode cX12_isAt 15 = .ok (.aload_n 0, 1) := by decide +kernel
theorem dX12_isAt_16 : decode cX12_isAt 16 = .ok (.getfield 108, 3) := by decide +kernel
theorem dX12_isAt_19 : decode cX12_isAt 19 = .ok (.baload, 1) := by decide +kernel
theorem dX12_isAt_20 : decode cX12_isAt 20 = .ok (.iload_n 1, 1) := by decide +kernel
theorem dX12_isAt_21 : decode cX12_isAt 21 = .ok (.if_icmp .lt 20, 3) := by decide +kernel
theorem dX12_isAt_24 : decode cX12_isAt 24 = .ok (.aload_n 0, 1) := by decide +kernel
theorem dX12_isAt_25 : decode cX12_isAt 25 = .ok (.getfield 35, 3) := by decide +kernel
theorem dX12_isAt_28 : decode cX12_isAt 28 = .ok (.aload_n 0, 1) := by decide +kernel
theorem dX12_isAt_29 : decode cX12_isAt 29 = .ok (.getfield 108, 3) := by decide +kernel
theorem dX12_isAt_32 : decode cX12_isAt 32 = .ok (.baload, 1) := by decide +kernel
theorem dX12_isAt_33 : decode cX12_isAt 33 = .ok (.iload_n 2, 1) := by decide +kernel
theorem dX12_isAt_34 : decode cX12_isAt 34 = .ok (.if_icmp .gt 7, 3) := by decide +kernel
theorem dX12_isAt_37 : decode cX12_isAt 37 = .ok (.iconst 1, 1) := by decide +kernel
theorem dX12_isAt_38 : decode cX12_isAt 38 = .ok (.goto 4, 3) := by decide +kernel
theorem dX12_isAt_41 : decode cX12_isAt 41 = .ok (.iconst 0, 1) := by decide +kernel
theorem dX12_isAt_42 : decode cX12_isAt 42 = .ok (.ireturn, 1) := by decide +kernel
noncomputable def E_X12_isAt : mE := (mX12_isAt, [(42, [(0, (.aload_n 0, 1, false, false, 0, 0, 0, 0, 0, 0, [])), (1, (.getfield 108, 4, false, false, 15, 6, 0, 0, 0, 0, [])), (4, (.aload_n 0, 5, false, false, 0, 0, 0, 0, 0, 0, [])), (5, (.getfield 111, 8, false, false, 15, 7, 0, 0, 0, 0, [])), (8, (.if_icmp .ge 33, 11, false, false, 41, 0, 0, 0, 0, 0, [])), (11, (.aload_n 0, 12, false, false, 0, 0, 0, 0, 0, 0, [])), (12, (.getfield 35, 15, false, false, 15, 4, 1, 0, 0, 0, [])), (15, (.aload_n 0, 16, false, false, 0, 0, 0, 0, 0, 0, [])), (16, (.getfield 108, 19, false, false, 15, 6, 0, 0, 0, 0, [])), (19, (.baload, 20, false, false, 0, 0, 0, 0, 0, 0, [])), (20, (.iload_n 1, 21, false, false, 1, 0, 0, 0, 0, 0, [])), (21, (.if_icmp .lt 20, 24, false, false, 41, 0, 0, 0, 0, 0, [])), (24, (.aload_n 0, 25, false, false, 0, 0, 0, 0, 0, 0, [])), (25, (.getfield 35, 28, false, false, 15, 4, 1, 0, 0, 0, [])), (28, (.aload_n 0, 29, false, false, 0, 0, 0, 0, 0, 0, [])), (29, (.getfield 108, 32, false, false, 15, 6, 0, 0, 0, 0, [])), (32, (.baload, 33, false, false, 0, 0, 0, 0, 0, 0, [])), (33, (.iload_n 2, 34, false, false, 2, 0, 0, 0, 0, 0, [])), (34, (.if_icmp .gt 7, 37, false, false, 41, 0, 0, 0, 0, 0, [])), (37, (.iconst 1, 38, false, false, 0, 0, 0, 0, 1, 0, [])), (38, (.goto 4, 41, false, false, 42, 0, 0, 0, 0, 0, [])), (41, (.iconst 0, 42, false, false, 0, 0, 0, 0, 0, 0, [])), (42, (.ireturn, 43, false, false, 0, 0, 1, 0, 0, 0, []))])], 0, [])
set_option maxRecDepth 100000 in
theorem v_X12_isAt : VE MYT dflT E_X12_isAt := ⟨⟨⟨⟨⟨dX12_isAt_0, rfl⟩, rfl⟩, ⟨⟨dX12_isAt_1, rfl⟩, Or.inl ⟨by decide, _, _, fX12_108⟩⟩, ⟨⟨dX12_isAt_4, rfl⟩, rfl⟩, ⟨⟨dX12_isAt_5, rfl⟩, Or.inl ⟨by decide, _, _, fX12_111⟩⟩, ⟨⟨dX12_isAt_8, rfl⟩, rfl⟩, ⟨⟨dX12_isAt_11, rfl⟩, rfl⟩, ⟨⟨dX12_isAt_12, rfl⟩, Or.inl ⟨by decide, _, _, fX12_35⟩⟩, ⟨⟨dX12_isAt_15, rfl⟩, rfl⟩, ⟨⟨dX12_isAt_16, rfl⟩, Or.inl ⟨by decide, _, _, fX12_108⟩⟩, ⟨⟨dX12_isAt_19, rfl⟩, trivial⟩, ⟨⟨dX12_isAt_20, rfl⟩, rfl⟩, ⟨⟨dX12_isAt_21, rfl⟩, rfl⟩, ⟨⟨dX12_isAt_24, rfl⟩, rfl⟩, ⟨⟨dX12_isAt_25, rfl⟩, Or.inl ⟨by decide, _, _, fX12_35⟩⟩, ⟨⟨dX12_isAt_28, rfl⟩, rfl⟩, ⟨⟨dX12_isAt_29, rfl⟩, Or.inl ⟨by decide, _, _, fX12_108⟩⟩, ⟨⟨dX12_isAt_32, rfl⟩, trivial⟩, ⟨⟨dX12_isAt_33, rfl⟩, rfl⟩, ⟨⟨dX12_isAt_34, rfl⟩, rfl⟩, ⟨⟨dX12_isAt_37, rfl⟩, rfl⟩, ⟨⟨dX12_isAt_38, rfl⟩, rfl⟩, ⟨⟨dX12_isAt_41, rfl⟩, rfl⟩, ⟨⟨dX12_isAt_42, rfl⟩, Or.inr (Or.inl ⟨rfl, rfl⟩)⟩, trivial⟩, trivial⟩, by decide, Or.inl ⟨rfl, by decide, rfl⟩⟩
set_option maxRecDepth 100000 in
theorem g_X12_isAt_0 (S : sT) (call : cT) (n : Nat) (a0 : Nat) (x1 : Int32) (x2 : Int32) (h : pH) : bd S call dflT E_X12_isAt (n + 1) 0 [some (.ref a0), some (.int x1), some (.int x2)] [] h = (gI h (.ref a0) 15 6 (fun y1 => gI h (.ref a0) 15 7 (fun y2 => (if y2 ≤ y1 then zR 0 (some (.inl (some (.int 0)), h)) else gV h (.ref a0) 15 4 (fun w3 => gI h (.ref a0) 15 6 (fun y4 => aI h w3 1 y4 (fun y5 => (if y5 < x1 then zR 0 (some (.inl (some (.int 0)), h)) else gV h (.ref a0) 15 4 (fun w6 => gI h (.ref a0) 15 6 (fun y7 => aI h w6 1 y7 (fun y8 => (if x2 < y8 then zR 0 (some (.inl (some (.int 0)), h)) else zR 1 (some (.inl (some (.int 1)), h)))))))))))))) := rfl
theorem dX12_blanks_0 : decode cX12_blanks 0 = .ok (.aload_n 0, 1) := by decide +kernel
theorem dX12_blanks_1 : decode cX12_blanks 1 = .ok (.bipush 32, 2) := by decide +kernel
theorem dX12_blanks_3 : decode cX12_blanks 3 = .ok (.bipush 32, 2) := by decide +kernel
theorem dX12_blanks_5 : decode cX12_blanks 5 = .ok (.invokevirtual 114, 3) := by decide +kernel
theorem dX12_blanks_8 : decode cX12_blanks 8 = .ok (.ifCond .eq 16, 3) := by decide +kernel
theorem dX12_blanks_11 : decode cX12_blanks 11 = .ok (.aload_n 0, 1) := by decide +kernel
theorem dX12_blanks_12 : decode cX12_blanks 12 = .ok (.dup, 1) := by decide +kernel
theorem dX12_blanks_13 : decode cX12_blanks 13 = .ok (.getfield 108, 3) := by decide +kernel
theorem dX12_blanks_16 : decode cX12_blanks 16 = .ok (.iconst 1, 1) := by decide +kernel
theorem dX12_blanks_17 : decode cX12_blanks 17 = .ok (.iadd, 1) := by decide +kernel
theorem dX12_blanks_18 : decode cX12_blanks 18 = .ok (.putfield 108, 3) := by decide +kernel
theorem dX12_blanks_21 : decode cX12_blanks 21 = .ok (.goto (-21), 3) := by decide +kernel
theorem dX12_blanks_24 : decode cX12_blanks 24 = .ok (.aload_n 0, 1) := by decide +kernel
theorem dX12_blanks_25 : decode cX12_blanks 25 = .ok (.aload_n 0, 1) := by decide +kernel
theorem dX12_blanks_26 : decode cX12_blanks 26 = .ok (.getfield 108, 3) := by decide +kernel
theorem dX12_blanks_29 : decode cX12_blanks 29 = .ok (.putfield 118, 3) := by decide +kernel
theorem dX12_blanks_32 : decode cX12_blanks 32 = .ok (.return_, 1) := by decide +kernel
noncomputable def E_X12_blanks : mE := (mX12_blanks, [(32, [(0, (.aload_n 0, 1, false, false, 0, 0, 0, 0, 0, 0, [])), (1, (.bipush 32, 3, false, false, 0, 0, 0, 0, 32, 0, [])), (3, (.bipush 32, 5, false, false, 0, 0, 0, 0, 32, 0, [])), (5, (.invokevirtual 114, 8, false, false, 113, 2, 1, 15, 0, 0, [])), (8, (.ifCond .eq 16, 11, false, false, 24, 0, 0, 0, 0, 0, [])), (11, (.aload_n 0, 12, false, false, 0, 0, 0, 0, 0, 0, [])), (12, (.dup, 13, false, false, 0, 0, 0, 0, 0, 0, [])), (13, (.getfield 108, 16, false, false, 15, 6, 0, 0, 0, 0, [])), (16, (.iconst 1, 17, false, false, 0, 0, 0, 0, 1, 0, [])), (17, (.iadd, 18, false, false, 0, 0, 0, 0, 0, 0, [])), (18, (.putfield 108, 21, false, false, 15, 6, 0, 0, 0, 0, [])), (21, (.goto (-21), 24, false, true, 0, 0, 0, 0, 0, 0, [])), (24, (.aload_n 0, 25, false, false, 0, 0, 0, 0, 0, 0, [])), (25, (.aload_n 0, 26, false, false, 0, 0, 0, 0, 0, 0, [])), (26, (.getfield 108, 29, false, false, 15, 6, 0, 0, 0, 0, [])), (29, (.putfield 118, 32, false, false, 15, 8, 0, 0, 0, 0, [])), (32, (.return_, 33, false, false, 0, 0, 0, 0, 0, 0, []))])], 0, [])
set_option maxRecDepth 100000 in
theorem v_X12_blanks : VE MYT dflT E_X12_blanks := ⟨⟨⟨⟨⟨dX12_blanks_0, rfl⟩, rfl⟩, ⟨⟨dX12_blanks_1, rfl⟩, rfl⟩, ⟨⟨dX12_blanks_3, rfl⟩, rfl⟩, ⟨⟨dX12_blanks_5, rfl⟩, Or.inr ⟨by decide, ⟨_, my_113, sX12_114⟩, fun q => absurd q (by decide)⟩⟩, ⟨⟨dX12_blanks_8, rfl⟩, rfl⟩, ⟨⟨dX12_blanks_11, rfl⟩, rfl⟩, ⟨⟨dX12_blanks_12, rfl⟩, trivial⟩, ⟨⟨dX12_blanks_13, rfl⟩, Or.inl ⟨by decide, _, _, fX12_108⟩⟩, ⟨⟨dX12_blanks_16, rfl⟩, rfl⟩, ⟨⟨dX12_blanks_17, rfl⟩, trivial⟩, ⟨⟨dX12_blanks_18, rfl⟩, Or.inl ⟨rfl, fX12_108⟩⟩, ⟨⟨dX12_blanks_21, rfl⟩, rfl⟩, ⟨⟨dX12_blanks_24, rfl⟩, rfl⟩, ⟨⟨dX12_blanks_25, rfl⟩, rfl⟩, ⟨⟨dX12_blanks_26, rfl⟩, Or.inl ⟨by decide, _, _, fX12_108⟩⟩, ⟨⟨dX12_blanks_29, rfl⟩, Or.inl ⟨rfl, fX12_118⟩⟩, ⟨⟨dX12_blanks_32, rfl⟩, rfl⟩, trivial⟩, trivial⟩, by decide, Or.inl ⟨rfl, by decide, rfl⟩⟩
set_option maxRecDepth 100000 in
theorem g_X12_blanks_0 (S : sT) (call : cT) (n : Nat) (a0 : Nat) (h : pH) : bd S call dflT E_X12_blanks (n + 1) 0 [some (.ref a0)] [] h = (rC h (.ref a0) 15 (cI (call 113 [.ref a0, .int 32, .int 32] h) (fun y2 h1 => (if y2 = 0 then gI h1 (.ref a0) 15 6 (fun y3 => pF h1 (.ref a0) 15 8 (.int y3) (fun h4 => some (.inl none, h4))) else gI h1 (.ref a0) 15 6 (fun y5 => pF h1 (.ref a0) 15 6 (.int (y5 + 1)) (fun h6 => bd S call dflT E_X12_blanks n 0 [some (.ref a0)] [] h6)))))) := rfl
theorem dX12_word_0 : decode cX12_word 0 = .ok (.aload_n 0, 1) := by decide +kernel
theorem dX12_word_1 : decode cX12_word 1 = .ok (.invokevirtual 121, 3) := by decide +kernel
theorem dX12_word_4 : decode cX12_word 4 = .ok (.aload_n 0, 1) := by decide +kernel
theorem dX12_word_5 : decode cX12_word 5 = .ok (.bipush 97, 2) := by decide +kernel
theorem dX12_word_7 : decode cX12_word 7 = .ok (.bipush 122, 2) := by decide +kernel
theorem dX12_word_9 : decode cX12_word 9 = .ok (.invokevirtual 114, 3) := by decide +kernel
theorem dX12_word_12 : decode cX12_word 12 = .ok (.ifCond .eq 16, 3) := by decide +kernel
theorem dX12_word_15 : decode cX12_word 15 = .ok (.aload_n 0, 1) := by decide +kernel
theorem dX12_word_16 : decode cX12_word 16 = .ok (.dup, 1) := by decide +kernel
theorem dX12_word_17 : decode cX12_word 17 = .ok (.getfield 108, 3) := by decide +kernel
theorem dX12_word_20 : decode cX12_word 20 = .ok (.iconst 1, 1) := by decide +kernel
theorem dX12_word_21 : decode cX12_word 21 = .ok (.iadd, 1) := by decide +kernel
theorem dX12_word_22 : decode cX12_word 22 = .ok (.putfield 108, 3) := by decide +kernel
theorem dX12_word_25 : decode cX12_word 25 = .ok (.goto (-21), 3) := by decide +kernel
theorem dX12_word_28 : decode cX12_word 28 = .ok (.return_, 1) := by decide +kernel
noncomputable def E_X12_word : mE := (mX12_word, [(28, [(0, (.aload_n 0, 1, false, false, 0, 0, 0, 0, 0, 0, [])), (1, (.invokevirtual 121, 4, true, false, 114, 0, 0, 15, 0, 0, [])), (4, (.aload_n 0, 5, false, false, 0, 0, 0, 0, 0, 0, [])), (5, (.bipush 97, 7, false, false, 0, 0, 0, 0, 97, 0, [])), (7, (.bipush 122, 9, false, false, 0, 0, 0, 0, 122, 0, [])), (9, (.invokevirtual 114, 12, false, false, 113, 2, 1, 15, 0, 0, [])), (12, (.ifCond .eq 16, 15, false, false, 28, 0, 0, 0, 0, 0, [])), (15, (.aload_n 0, 16, false, false, 0, 0, 0, 0, 0, 0, [])), (16, (.dup, 17, false, false, 0, 0, 0, 0, 0, 0, [])), (17, (.getfield 108, 20, false, false, 15, 6, 0, 0, 0, 0, [])), (20, (.iconst 1, 21, false, false, 0, 0, 0, 0, 1, 0, [])), (21, (.iadd, 22, false, false, 0, 0, 0, 0, 0, 0, [])), (22, (.putfield 108, 25, false, false, 15, 6, 0, 0, 0, 0, [])), (25, (.goto (-21), 28, false, true, 4, 0, 0, 0, 0, 0, [])), (28, (.return_, 29, false, false, 0, 0, 0, 0, 0, 0, []))])], 0, [])
set_option maxRecDepth 100000 in
theorem v_X12_word : VE MYT dflT E_X12_word := ⟨⟨⟨⟨⟨dX12_word_0, rfl⟩, rfl⟩, ⟨⟨dX12_word_1, rfl⟩, Or.inr ⟨by decide, ⟨_, my_114, sX12_121⟩, fun q => absurd q (by decide)⟩⟩, ⟨⟨dX12_word_4, rfl⟩, rfl⟩, ⟨⟨dX12_word_5, rfl⟩, rfl⟩, ⟨⟨dX12_word_7, rfl⟩, rfl⟩, ⟨⟨dX12_word_9, rfl⟩, Or.inr ⟨by decide, ⟨_, my_113, sX12_114⟩, fun q => absurd q (by decide)⟩⟩, ⟨⟨dX12_word_12, rfl⟩, rfl⟩, ⟨⟨dX12_word_15, rfl⟩, rfl⟩, ⟨⟨dX12_word_16, rfl⟩, trivial⟩, ⟨⟨dX12_word_17, rfl⟩, Or.inl ⟨by decide, _, _, fX12_108⟩⟩, ⟨⟨dX12_word_20, rfl⟩, rfl⟩, ⟨⟨dX12_word_21, rfl⟩, trivial⟩, ⟨⟨dX12_word_22, rfl⟩, Or.inl ⟨rfl, fX12_108⟩⟩, ⟨⟨dX12_word_25, rfl⟩, rfl⟩, ⟨⟨dX12_word_28, rfl⟩, rfl⟩, trivial⟩, trivial⟩, by decide, Or.inl ⟨rfl, by decide, rfl⟩⟩
set_option maxRecDepth 100000 in
theorem g_X12_word_0 (S : sT) (call : cT) (n : Nat) (a0 : Nat) (h : pH) : bd S call dflT E_X12_word (n + 1) 0 [some (.ref a0)] [] h = (rC h (.ref a0) 15 (cU (call 114 [.ref a0] h) (fun h1 => bd S call dflT E_X12_word n 4 [some (.ref a0)] [] h1))) := rfl
set_option maxRecDepth 100000 in
theorem g_X12_word_4 (S : sT) (call : cT) (n : Nat) (a0 : Nat) (h : pH) : bd S call dflT E_X12_word (n + 1) 4 [some (.ref a0)] [] h = (rC h (.ref a0) 15 (cI (call 113 [.ref a0, .int 97, .int 122] h) (fun y2 h1 => (if y2 = 0 then some (.inl none, h1) else gI h1 (.ref a0) 15 6 (fun y3 => pF h1 (.ref a0) 15 6 (.int (y3 + 1)) (fun h4 => bd S call dflT E_X12_word n 4 [some (.ref a0)] [] h4)))))) := rfl
theorem dX12_textAt_0 : decode cX12_textAt 0 = .ok (.sipush 2651, 3) := by decide +kernel
theorem dX12_textAt_3 : decode cX12_textAt 3 = .ok (.sipush 898, 3) := by decide +kernel
theorem dX12_textAt_6 : decode cX12_textAt 6 = .ok (.iload_n 0, 1) := by decide +kernel
theorem dX12_textAt_7 : decode cX12_textAt 7 = .ok (.imul, 1) := by decide +kernel
theorem dX12_textAt_8 : decode cX12_textAt 8 = .ok (.iadd, 1) := by decide +kernel
theorem dX12_textAt_9 : decode cX12_textAt 9 = .ok (.ireturn, 1) := by decide +kernel
noncomputable def E_X12_textAt : mE := (mX12_textAt, [(9, [(0, (.sipush 2651, 3, false, false, 0, 0, 0, 0, 2651, 0, [])), (3, (.sipush 898, 6, false, false, 0, 0, 0, 0, 898, 0, [])), (6, (.iload_n 0, 7, false, false, 0, 0, 0, 0, 0, 0, [])), (7, (.imul, 8, false, false, 0, 0, 0, 0, 0, 0, [])), (8, (.iadd, 9, false, false, 0, 0, 0, 0, 0, 0, [])), (9, (.ireturn, 10, false, false, 0, 0, 0, 0, 0, 0, []))])], 0, [])
set_option maxRecDepth 100000 in
theorem v_X12_textAt : VE MYT dflT E_X12_textAt := ⟨⟨⟨⟨⟨dX12_textAt_0, rfl⟩, rfl⟩, ⟨⟨dX12_textAt_3, rfl⟩, rfl⟩, ⟨⟨dX12_textAt_6, rfl⟩, rfl⟩, ⟨⟨dX12_textAt_7, rfl⟩, trivial⟩, ⟨⟨dX12_textAt_8, rfl⟩, trivial⟩, ⟨⟨dX12_textAt_9, rfl⟩, Or.inl ⟨rfl, rfl⟩⟩, trivial⟩, trivial⟩, by decide, Or.inl ⟨rfl, by decide, rfl⟩⟩
set_option maxRecDepth 100000 in
theorem g_X12_textAt_0 (S : sT) (call : cT) (n : Nat) (x0 : Int32) (h : pH) : bd S call dflT E_X12_textAt (n + 1) 0 [some (.int x0)] [] h = (some (.inl (some (.int (2651 + (898 * x0)))), h)) := rfl
theorem dX12_lineAt_0 : decode cX12_lineAt 0 = .ok (.iload_n 0, 1) := by decide +kernel
theorem dX12_lineAt_1 : decode cX12_lineAt 1 = .ok (.invokestatic 140, 3) := by decide +kernel
theorem dX12_lineAt_4 : decode cX12_lineAt 4 = .ok (.iconst 2, 1) := by decide +kernel
theorem dX12_lineAt_5 : decode cX12_lineAt 5 = .ok (.iadd, 1) := by decide +kernel
theorem dX12_lineAt_6 : decode cX12_lineAt 6 = .ok (.bipush 6, 2) := by decide +kernel
theorem dX12_lineAt_8 : decode cX12_lineAt 8 = .ok (.iload_n 1, 1) := by decide +kernel
theorem dX12_lineAt_9 : decode cX12_lineAt 9 = .ok (.imul, 1) := by decide +kernel
theorem dX12_lineAt_10 : decode cX12_lineAt 10 = .ok (.iadd, 1) := by decide +kernel
theorem dX12_lineAt_11 : decode cX12_lineAt 11 = .ok (.ireturn, 1) := by decide +kernel
noncomputable def E_X12_lineAt : mE := (mX12_lineAt, [(11, [(0, (.iload_n 0, 1, false, false, 0, 0, 0, 0, 0, 0, [])), (1, (.invokestatic 140, 4, false, false, 116, 1, 1, 0, 0, 0, [])), (4, (.iconst 2, 5, false, false, 0, 0, 0, 0, 2, 0, [])), (5, (.iadd, 6, false, false, 0, 0, 0, 0, 0, 0, [])), (6, (.bipush 6, 8, false, false, 0, 0, 0, 0, 6, 0, [])), (8, (.iload_n 1, 9, false, false, 1, 0, 0, 0, 0, 0, [])), (9, (.imul, 10, false, false, 0, 0, 0, 0, 0, 0, [])), (10, (.iadd, 11, false, false, 0, 0, 0, 0, 0, 0, [])), (11, (.ireturn, 12, false, false, 0, 0, 0, 0, 0, 0, []))])], 0, [])
set_option maxRecDepth 100000 in
theorem v_X12_lineAt : VE MYT dflT E_X12_lineAt := ⟨⟨⟨⟨⟨dX12_lineAt_0, rfl⟩, rfl⟩, ⟨⟨dX12_lineAt_1, rfl⟩, Or.inl ⟨rfl, _, my_116, sX12_140⟩⟩, ⟨⟨dX12_lineAt_4, rfl⟩, rfl⟩, ⟨⟨dX12_lineAt_5, rfl⟩, trivial⟩, ⟨⟨dX12_lineAt_6, rfl⟩, rfl⟩, ⟨⟨dX12_lineAt_8, rfl⟩, rfl⟩, ⟨⟨dX12_lineAt_9, rfl⟩, trivial⟩, ⟨⟨dX12_lineAt_10, rfl⟩, trivial⟩, ⟨⟨dX12_lineAt_11, rfl⟩, Or.inl ⟨rfl, rfl⟩⟩, trivial⟩, trivial⟩, by decide, Or.inl ⟨rfl, by decide, rfl⟩⟩
set_option maxRecDepth 100000 in
theorem g_X12_lineAt_0 (S : sT) (call : cT) (n : Nat) (x0 : Int32) (x1 : Int32) (h : pH) : bd S call dflT E_X12_lineAt (n + 1) 0 [some (.int x0), some (.int x1)] [] h = (cI (call 116 [.int x0] h) (fun y2 h1 => some (.inl (some (.int ((y2 + 2) + (6 * x1)))), h1))) := rfl
theorem dX12_isWord_0 : decode cX12_isWord 0 = .ok (.aload_n 0, 1) := by decide +kernel
theorem dX12_isWord_1 : decode cX12_isWord 1 = .ok (.getfield 108, 3) := by decide +kernel
theorem dX12_isWord_4 : decode cX12_isWord 4 = .ok (.aload_n 0, 1) := by decide +kernel
theorem dX12_isWord_5 : decode cX12_isWord 5 = .ok (.getfield 118, 3) := by decide +kernel
theorem dX12_isWord_8 : decode cX12_isWord 8 = .ok (.isub, 1) := by decide +kernel
theorem dX12_isWord_9 : decode cX12_isWord 9 = .ok (.aload_n 1, 1) := by decide +kernel
theorem dX12_isWord_10 : decode cX12_isWord 10 = .ok (.invokevirtual 124, 3) := by decide +kernel
theorem dX12_isWord_13 : decode cX12_isWord 13 = .ok (.if_icmp .ne 7, 3) := by decide +kernel
theorem dX12_isWord_16 : decode cX12_isWord 16 = .ok (.iconst 1, 1) := by decide +kernel
theorem dX12_isWord_17 : decode cX12_isWord 17 = .ok (.goto 4, 3) := by decide +kernel
theorem dX12_isWord_20 : decode cX12_isWord 20 = .ok (.iconst 0, 1) := by decide +kernel
theorem dX12_isWord_21 : decode cX12_isWord 21 = .ok (.istore_n 2, 1) := by decide +kernel
theorem dX12_isWord_22 : decode cX12_isWord 22 = .ok (.iconst 0, 1) := by decide +kernel
theorem dX12_isWord_23 : decode cX12_isWord 23 = .ok (.istore_n 3, 1) := by decide +kernel
theorem dX12_isWord_24 : decode cX12_isWord 24 = .ok (.iload_n 2, 1) := by decide +kernel
theorem dX12_isWord_25 : decode cX12_isWord 25 = .ok (.ifCond .eq 42, 3) := by decide +kernel
theorem dX12_isWord_28 : decode cX12_isWord 28 = .ok (.iload_n 3, 1) := by decide +kernel
theorem dX12_isWord_29 : decode cX12_isWord 29 = .ok (.aload_n 1, 1) := by decide +kernel
theorem dX12_isWord_30 : decode cX12_isWord 30 = .ok (.invokevirtual 124, 3) := by decide +kernel
theorem dX12_isWord_33 : decode cX12_isWord 33 = .ok (.if_icmp .ge 34, 3) := by decide +kernel
theorem dX12_isWord_36 : decode cX12_isWord 36 = .ok (.aload_n 0, 1) := by decide +kernel
theorem dX12_isWord_37 : decode cX12_isWord 37 = .ok (.getfield 35, 3) := by decide +kernel
theorem dX12_isWord_40 : decode cX12_isWord 40 = .ok (.aload_n 0, 1) := by decide +kernel
theorem dX12_isWord_41 : decode cX12_isWord 41 = .ok (.getfield 118, 3) := by decide +kernel
theorem dX12_isWord_44 : decode cX12_isWord 44 = .ok (.iload_n 3, 1) := by decide +kernel
theorem dX12_isWord_45 : decode cX12_isWord 45 = .ok (.iadd, 1) := by decide +kernel
theorem dX12_isWord_46 : decode cX12_isWord 46 = .ok (.baload, 1) := by decide +kernel
theorem dX12_isWord_47 : decode cX12_isWord 47 = .ok (.aload_n 1, 1) := by decide +kernel
theorem dX12_isWord_48 : decode cX12_isWord 48 = .ok (.iload_n 3, 1) := by decide +kernel
theorem dX12_isWord_49 : decode cX12_isWord 49 = .ok (.invokevirtual 129, 3) := by decide +kernel
theorem dX12_isWord_52 : decode cX12_isWord 52 = .ok (.if_icmp .ne 7, 3) := by decide +kernel
theorem dX12_isWord_55 : decode cX12_isWord 55 = .ok (.iconst 1, 1) := by decide +kernel
theorem dX12_isWord_56 : decode cX12_isWord 56 = .ok (.goto 4, 3) := by decide +kernel
theorem dX12_isWord_59 : decode cX12_isWord 59 = .ok (.iconst 0, 1) := by decide +kernel
theorem dX12_isWord_60 : decode cX12_isWord 60 = .ok (.istore_n 2, 1) := by decide +kernel
theorem dX12_isWord_61 : decode cX12_isWord 61 = .ok (.iinc 3 1, 3) := by decide +kernel
theorem dX12_isWord_64 : decode cX12_isWord 64 = .ok (.goto (-40), 3) := by decide +kernel
theorem dX12_isWord_67 : decode cX12_isWord 67 = .ok (.iload_n 2, 1) := by decide +kernel
theorem dX12_isWord_68 : decode cX12_isWord 68 = .ok (.ireturn, 1) := by decide +kernel
noncomputable def E_X12_isWord : mE := (mX12_isWord, [(41, [(0, (.aload_n 0, 1, false, false, 0, 0, 0, 0, 0, 0, [])), (1, (.getfield 108, 4, false, false, 15, 6, 0, 0, 0, 0, [])), (4, (.aload_n 0, 5, false, false, 0, 0, 0, 0, 0, 0, [])), (5, (.getfield 118, 8, false, false, 15, 8, 0, 0, 0, 0, [])), (8, (.isub, 9, false, false, 0, 0, 0, 0, 0, 0, [])), (9, (.aload_n 1, 10, false, false, 1, 0, 0, 0, 0, 0, [])), (10, (.invokevirtual 124, 13, false, false, 58, 0, 9, 0, 0, 0, [])), (13, (.if_icmp .ne 7, 16, false, false, 20, 0, 0, 0, 0, 0, [])), (16, (.iconst 1, 17, false, false, 0, 0, 0, 0, 1, 0, [])), (17, (.goto 4, 20, false, false, 21, 0, 0, 0, 0, 0, [])), (20, (.iconst 0, 21, false, false, 0, 0, 0, 0, 0, 0, [])), (21, (.istore_n 2, 22, false, false, 2, 0, 0, 0, 0, 0, [])), (22, (.iconst 0, 23, false, false, 0, 0, 0, 0, 0, 0, [])), (23, (.istore_n 3, 24, true, false, 3, 0, 0, 0, 0, 0, [])), (24, (.iload_n 2, 25, false, false, 2, 0, 0, 0, 0, 0, [])), (25, (.ifCond .eq 42, 28, false, false, 67, 0, 0, 0, 0, 0, [])), (28, (.iload_n 3, 29, false, false, 3, 0, 0, 0, 0, 0, [])), (29, (.aload_n 1, 30, false, false, 1, 0, 0, 0, 0, 0, [])), (30, (.invokevirtual 124, 33, false, false, 58, 0, 9, 0, 0, 0, [])), (33, (.if_icmp .ge 34, 36, false, false, 67, 0, 0, 0, 0, 0, [])), (36, (.aload_n 0, 37, false, false, 0, 0, 0, 0, 0, 0, [])), (37, (.getfield 35, 40, false, false, 15, 4, 1, 0, 0, 0, [])), (40, (.aload_n 0, 41, false, false, 0, 0, 0, 0, 0, 0, [])), (41, (.getfield 118, 44, false, false, 15, 8, 0, 0, 0, 0, []))]),
  (68, [(44, (.iload_n 3, 45, false, false, 3, 0, 0, 0, 0, 0, [])), (45, (.iadd, 46, false, false, 0, 0, 0, 0, 0, 0, [])), (46, (.baload, 47, false, false, 0, 0, 0, 0, 0, 0, [])), (47, (.aload_n 1, 48, false, false, 1, 0, 0, 0, 0, 0, [])), (48, (.iload_n 3, 49, false, false, 3, 0, 0, 0, 0, 0, [])), (49, (.invokevirtual 129, 52, false, false, 62, 1, 9, 0, 0, 0, [])), (52, (.if_icmp .ne 7, 55, false, false, 59, 0, 0, 0, 0, 0, [])), (55, (.iconst 1, 56, false, false, 0, 0, 0, 0, 1, 0, [])), (56, (.goto 4, 59, false, false, 60, 0, 0, 0, 0, 0, [])), (59, (.iconst 0, 60, false, false, 0, 0, 0, 0, 0, 0, [])), (60, (.istore_n 2, 61, false, false, 2, 0, 0, 0, 0, 0, [])), (61, (.iinc 3 1, 64, false, false, 3, 0, 0, 0, 1, 0, [])), (64, (.goto (-40), 67, false, true, 24, 0, 0, 0, 0, 0, [])), (67, (.iload_n 2, 68, false, false, 2, 0, 0, 0, 0, 0, [])), (68, (.ireturn, 69, false, false, 0, 0, 1, 0, 0, 0, []))])], 0, [])
set_option maxRecDepth 100000 in
theorem v_X12_isWord : VE MYT dflT E_X12_isWord := ⟨⟨⟨⟨⟨dX12_isWord_0, rfl⟩, rfl⟩, ⟨⟨dX12_isWord_1, rfl⟩, Or.inl ⟨by decide, _, _, fX12_108⟩⟩, ⟨⟨dX12_isWord_4, rfl⟩, rfl⟩, ⟨⟨dX12_isWord_5, rfl⟩, Or.inl ⟨by decide, _, _, fX12_118⟩⟩, ⟨⟨dX12_isWord_8, rfl⟩, trivial⟩, ⟨⟨dX12_isWord_9, rfl⟩, rfl⟩, ⟨⟨dX12_isWord_10, rfl⟩, Or.inl ⟨rfl, _, my_58, sX12_124⟩⟩, ⟨⟨dX12_isWord_13, rfl⟩, rfl⟩, ⟨⟨dX12_isWord_16, rfl⟩, rfl⟩, ⟨⟨dX12_isWord_17, rfl⟩, rfl⟩, ⟨⟨dX12_isWord_20, rfl⟩, rfl⟩, ⟨⟨dX12_isWord_21, rfl⟩, rfl⟩, ⟨⟨dX12_isWord_22, rfl⟩, rfl⟩, ⟨⟨dX12_isWord_23, rfl⟩, rfl⟩, ⟨⟨dX12_isWord_24, rfl⟩, rfl⟩, ⟨⟨dX12_isWord_25, rfl⟩, rfl⟩, ⟨⟨dX12_isWord_28, rfl⟩, rfl⟩, ⟨⟨dX12_isWord_29, rfl⟩, rfl⟩, ⟨⟨dX12_isWord_30, rfl⟩, Or.inl ⟨rfl, _, my_58, sX12_124⟩⟩, ⟨⟨dX12_isWord_33, rfl⟩, rfl⟩, ⟨⟨dX12_isWord_36, rfl⟩, rfl⟩, ⟨⟨dX12_isWord_37, rfl⟩, Or.inl ⟨by decide, _, _, fX12_35⟩⟩, ⟨⟨dX12_isWord_40, rfl⟩, rfl⟩, ⟨⟨dX12_isWord_41, rfl⟩, Or.inl ⟨by decide, _, _, fX12_118⟩⟩, trivial⟩,
  ⟨⟨⟨dX12_isWord_44, rfl⟩, rfl⟩, ⟨⟨dX12_isWord_45, rfl⟩, trivial⟩, ⟨⟨dX12_isWord_46, rfl⟩, trivial⟩, ⟨⟨dX12_isWord_47, rfl⟩, rfl⟩, ⟨⟨dX12_isWord_48, rfl⟩, rfl⟩, ⟨⟨dX12_isWord_49, rfl⟩, Or.inl ⟨rfl, _, my_62, sX12_129⟩⟩, ⟨⟨dX12_isWord_52, rfl⟩, rfl⟩, ⟨⟨dX12_isWord_55, rfl⟩, rfl⟩, ⟨⟨dX12_isWord_56, rfl⟩, rfl⟩, ⟨⟨dX12_isWord_59, rfl⟩, rfl⟩, ⟨⟨dX12_isWord_60, rfl⟩, rfl⟩, ⟨⟨dX12_isWord_61, rfl⟩, ⟨rfl, rfl⟩⟩, ⟨⟨dX12_isWord_64, rfl⟩, rfl⟩, ⟨⟨dX12_isWord_67, rfl⟩, rfl⟩, ⟨⟨dX12_isWord_68, rfl⟩, Or.inr (Or.inl ⟨rfl, rfl⟩)⟩, trivial⟩, trivial⟩, by decide, Or.inl ⟨rfl, by decide, rfl⟩⟩
set_option maxRecDepth 100000 in
theorem g_X12_isWord_0 (S : sT) (call : cT) (n : Nat) (a0 : Nat) (v1 : Value) (h : pH) : bd S call dflT E_X12_isWord (n + 1) 0 [some (.ref a0), some (v1), none, none] [] h = (gI h (.ref a0) 15 6 (fun y1 => gI h (.ref a0) 15 8 (fun y2 => iA v1 (rS0 v1 (cIx tN (call 58 [v1] h) (fun y4 h3 => (if (y1 - y2) = y4 then nl v1 (bd S call dflT E_X12_isWord n 24 [some (.ref a0), some (v1), some (.int 1), some (.int 0)] [] h3) else nl v1 (bd S call dflT E_X12_isWord n 24 [some (.ref a0), some (v1), some (.int 0), some (.int 0)] [] h3)))))))) := rfl
set_option maxRecDepth 100000 in
theorem g_X12_isWord_24 (S : sT) (call : cT) (n : Nat) (a0 : Nat) (v1 : Value) (x2 : Int32) (x3 : Int32) (h : pH) : bd S call dflT E_X12_isWord (n + 1) 24 [some (.ref a0), some (v1), some (.int x2), some (.int x3)] [] h = ((if x2 = 0 then zR x2 (some (.inl (some (.int x2)), h)) else iA v1 (rS0 v1 (cIx tN (call 58 [v1] h) (fun y2 h1 => (if y2 ≤ x3 then zR x2 (some (.inl (some (.int x2)), h1)) else gV h1 (.ref a0) 15 4 (fun w3 => gI h1 (.ref a0) 15 8 (fun y4 => aI h1 w3 1 (y4 + x3) (fun y5 => iA v1 (rS0 v1 (cIx tN (call 62 [v1, .int x3] h1) (fun y7 h6 => (if y5 = y7 then nl v1 (bd S call dflT E_X12_isWord n 24 [some (.ref a0), some (v1), some (.int 1), some (.int (x3 + 1))] [] h6) else nl v1 (bd S call dflT E_X12_isWord n 24 [some (.ref a0), some (v1), some (.int 0), some (.int (x3 + 1))] [] h6)))))))))))))) := rfl
theorem dX12_wordOf_0 : decode cX12_wordOf 0 = .ok (.aload_n 0, 1) := by decide +kernel
theorem dX12_wordOf_1 : decode cX12_wordOf 1 = .ok (.ldc 241, 2) := by decide +kernel
theorem dX12_wordOf_3 : decode cX12_wordOf 3 = .ok (.invokevirtual 136, 3) := by decide +kernel
theorem dX12_wordOf_6 : decode cX12_wordOf 6 = .ok (.ifCond .eq 8, 3) := by decide +kernel
theorem dX12_wordOf_9 : decode cX12_wordOf 9 = .ok (.bipush 10, 2) := by decide +kernel
theorem dX12_wordOf_11 : decode cX12_wordOf 11 = .ok (.goto 74, 3) := by decide +kernel
theorem dX12_wordOf_14 : decode cX12_wordOf 14 = .ok (.aload_n 0, 1) := by decide +kernel
theorem dX12_wordOf_15 : decode cX12_wordOf 15 = .ok (.ldc 243, 2) := by decide +kernel
theorem dX12_wordOf_17 : decode cX12_wordOf 17 = .ok (.invokevirtual 136, 3) := by decide +kernel
theorem dX12_wordOf_20 : decode cX12_wordOf 20 = .ok (.ifCond .eq 8, 3) := by decide +kernel
theorem dX12_wordOf_23 : decode cX12_wordOf 23 = .ok (.bipush 11, 2) := by decide +kernel
theorem dX12_wordOf_25 : decode cX12_wordOf 25 = .ok (.goto 60, 3) := by decide +kernel
theorem dX12_wordOf_28 : decode cX12_wordOf 28 = .ok (.aload_n 0, 1) := by decide +kernel
theorem dX12_wordOf_29 : decode cX12_wordOf 29 = .ok (.ldc 245, 2) := by decide +kernel
theorem dX12_wordOf_31 : decode cX12_wordOf 31 = .ok (.invokevirtual 136, 3) := by decide +kernel
theorem dX12_wordOf_34 : decode cX12_wordOf 34 = .ok (.ifCond .eq 8, 3) := by decide +kernel
theorem dX12_wordOf_37 : decode cX12_wordOf 37 = .ok (.bipush 12, 2) := by decide +kernel
theorem dX12_wordOf_39 : decode cX12_wordOf 39 = .ok (.goto 46, 3) := by decide +kernel
theorem dX12_wordOf_42 : decode cX12_wordOf 42 = .ok (.aload_n 0, 1) := by decide +kernel
theorem dX12_wordOf_43 : decode cX12_wordOf 43 = .ok (.ldc 247, 2) := by decide +kernel
theorem dX12_wordOf_45 : decode cX12_wordOf 45 = .ok (.invokevirtual 136, 3) := by decide +kernel
theorem dX12_wordOf_48 : decode cX12_wordOf 48 = .ok (.ifCond .eq 8, 3) := by decide +kernel
theorem dX12_wordOf_51 : decode cX12_wordOf 51 = .ok (.bipush 13, 2) := by decide +kernel
theorem dX12_wordOf_53 : decode cX12_wordOf 53 = .ok (.goto 32, 3) := by decide +kernel
theorem dX12_wordOf_56 : decode cX12_wordOf 56 = .ok (.aload_n 0, 1) := by decide +kernel
theorem dX12_wordOf_57 : decode cX12_wordOf 57 = .ok (.ldc 249, 2) := by decide +kernel
theorem dX12_wordOf_59 : decode cX12_wordOf 59 = .ok (.invokevirtual 136, 3) := by decide +kernel
theorem dX12_wordOf_62 : decode cX12_wordOf 62 = .ok (.ifCond .eq 8, 3) := by decide +kernel
theorem dX12_wordOf_65 : decode cX12_wordOf 65 = .ok (.bipush 14, 2) := by decide +kernel
theorem dX12_wordOf_67 : decode cX12_wordOf 67 = .ok (.goto 18, 3) := by decide +kernel
theorem dX12_wordOf_70 : decode cX12_wordOf 70 = .ok (.aload_n 0, 1) := by decide +kernel
theorem dX12_wordOf_71 : decode cX12_wordOf 71 = .ok (.ldc 251, 2) := by decide +kernel
theorem dX12_wordOf_73 : decode cX12_wordOf 73 = .ok (.invokevirtual 136, 3) := by decide +kernel
theorem dX12_wordOf_76 : decode cX12_wordOf 76 = .ok (.ifCond .eq 8, 3) := by decide +kernel
theorem dX12_wordOf_79 : decode cX12_wordOf 79 = .ok (.bipush 15, 2) := by decide +kernel
theorem dX12_wordOf_81 : decode cX12_wordOf 81 = .ok (.goto 4, 3) := by decide +kernel
theorem dX12_wordOf_84 : decode cX12_wordOf 84 = .ok (.iconst (-1), 1) := by decide +kernel
theorem dX12_wordOf_85 : decode cX12_wordOf 85 = .ok (.ireturn, 1) := by decide +kernel
noncomputable def E_X12_wordOf : mE := (mX12_wordOf, [(53, [(0, (.aload_n 0, 1, false, false, 0, 0, 0, 0, 0, 0, [])), (1, (.ldc 241, 3, false, false, 113, 13, 1, 0, 0, 0, [])), (3, (.invokevirtual 136, 6, false, false, 118, 1, 1, 15, 0, 0, [])), (6, (.ifCond .eq 8, 9, false, false, 14, 0, 0, 0, 0, 0, [])), (9, (.bipush 10, 11, false, false, 0, 0, 0, 0, 10, 0, [])), (11, (.goto 74, 14, false, false, 85, 0, 0, 0, 0, 0, [])), (14, (.aload_n 0, 15, false, false, 0, 0, 0, 0, 0, 0, [])), (15, (.ldc 243, 17, false, false, 114, 14, 1, 0, 0, 0, [])), (17, (.invokevirtual 136, 20, false, false, 118, 1, 1, 15, 0, 0, [])), (20, (.ifCond .eq 8, 23, false, false, 28, 0, 0, 0, 0, 0, [])), (23, (.bipush 11, 25, false, false, 0, 0, 0, 0, 11, 0, [])), (25, (.goto 60, 28, false, false, 85, 0, 0, 0, 0, 0, [])), (28, (.aload_n 0, 29, false, false, 0, 0, 0, 0, 0, 0, [])), (29, (.ldc 245, 31, false, false, 115, 15, 1, 0, 0, 0, [])), (31, (.invokevirtual 136, 34, false, false, 118, 1, 1, 15, 0, 0, [])), (34, (.ifCond .eq 8, 37, false, false, 42, 0, 0, 0, 0, 0, [])), (37, (.bipush 12, 39, false, false, 0, 0, 0, 0, 12, 0, [])), (39, (.goto 46, 42, false, false, 85, 0, 0, 0, 0, 0, [])), (42, (.aload_n 0, 43, false, false, 0, 0, 0, 0, 0, 0, [])), (43, (.ldc 247, 45, false, false, 116, 16, 1, 0, 0, 0, [])), (45, (.invokevirtual 136, 48, false, false, 118, 1, 1, 15, 0, 0, [])), (48, (.ifCond .eq 8, 51, false, false, 56, 0, 0, 0, 0, 0, [])), (51, (.bipush 13, 53, false, false, 0, 0, 0, 0, 13, 0, [])), (53, (.goto 32, 56, false, false, 85, 0, 0, 0, 0, 0, []))]),
  (85, [(56, (.aload_n 0, 57, false, false, 0, 0, 0, 0, 0, 0, [])), (57, (.ldc 249, 59, false, false, 117, 17, 1, 0, 0, 0, [])), (59, (.invokevirtual 136, 62, false, false, 118, 1, 1, 15, 0, 0, [])), (62, (.ifCond .eq 8, 65, false, false, 70, 0, 0, 0, 0, 0, [])), (65, (.bipush 14, 67, false, false, 0, 0, 0, 0, 14, 0, [])), (67, (.goto 18, 70, false, false, 85, 0, 0, 0, 0, 0, [])), (70, (.aload_n 0, 71, false, false, 0, 0, 0, 0, 0, 0, [])), (71, (.ldc 251, 73, false, false, 118, 18, 1, 0, 0, 0, [])), (73, (.invokevirtual 136, 76, false, false, 118, 1, 1, 15, 0, 0, [])), (76, (.ifCond .eq 8, 79, false, false, 84, 0, 0, 0, 0, 0, [])), (79, (.bipush 15, 81, false, false, 0, 0, 0, 0, 15, 0, [])), (81, (.goto 4, 84, false, false, 85, 0, 0, 0, 0, 0, [])), (84, (.iconst (-1), 85, false, false, 0, 0, 0, 0, -1, 0, [])), (85, (.ireturn, 86, false, false, 0, 0, 0, 0, 0, 0, []))])], 0, [])
set_option maxRecDepth 100000 in
theorem v_X12_wordOf : VE MYT dflT E_X12_wordOf := ⟨⟨⟨⟨⟨dX12_wordOf_0, rfl⟩, rfl⟩, ⟨⟨dX12_wordOf_1, rfl⟩, Or.inr ⟨rfl, rfl, _, rfl, rfl, rfl⟩⟩, ⟨⟨dX12_wordOf_3, rfl⟩, Or.inr ⟨by decide, ⟨_, my_118, sX12_136⟩, fun q => absurd q (by decide)⟩⟩, ⟨⟨dX12_wordOf_6, rfl⟩, rfl⟩, ⟨⟨dX12_wordOf_9, rfl⟩, rfl⟩, ⟨⟨dX12_wordOf_11, rfl⟩, rfl⟩, ⟨⟨dX12_wordOf_14, rfl⟩, rfl⟩, ⟨⟨dX12_wordOf_15, rfl⟩, Or.inr ⟨rfl, rfl, _, rfl, rfl, rfl⟩⟩, ⟨⟨dX12_wordOf_17, rfl⟩, Or.inr ⟨by decide, ⟨_, my_118, sX12_136⟩, fun q => absurd q (by decide)⟩⟩, ⟨⟨dX12_wordOf_20, rfl⟩, rfl⟩, ⟨⟨dX12_wordOf_23, rfl⟩, rfl⟩, ⟨⟨dX12_wordOf_25, rfl⟩, rfl⟩, ⟨⟨dX12_wordOf_28, rfl⟩, rfl⟩, ⟨⟨dX12_wordOf_29, rfl⟩, Or.inr ⟨rfl, rfl, _, rfl, rfl, rfl⟩⟩, ⟨⟨dX12_wordOf_31, rfl⟩, Or.inr ⟨by decide, ⟨_, my_118, sX12_136⟩, fun q => absurd q (by decide)⟩⟩, ⟨⟨dX12_wordOf_34, rfl⟩, rfl⟩, ⟨⟨dX12_wordOf_37, rfl⟩, rfl⟩, ⟨⟨dX12_wordOf_39, rfl⟩, rfl⟩, ⟨⟨dX12_wordOf_42, rfl⟩, rfl⟩, ⟨⟨dX12_wordOf_43, rfl⟩, Or.inr ⟨rfl, rfl, _, rfl, rfl, rfl⟩⟩, ⟨⟨dX12_wordOf_45, rfl⟩, Or.inr ⟨by decide, ⟨_, my_118, sX12_136⟩, fun q => absurd q (by decide)⟩⟩, ⟨⟨dX12_wordOf_48, rfl⟩, rfl⟩, ⟨⟨dX12_wordOf_51, rfl⟩, rfl⟩, ⟨⟨dX12_wordOf_53, rfl⟩, rfl⟩, trivial⟩,
  ⟨⟨⟨dX12_wordOf_56, rfl⟩, rfl⟩, ⟨⟨dX12_wordOf_57, rfl⟩, Or.inr ⟨rfl, rfl, _, rfl, rfl, rfl⟩⟩, ⟨⟨dX12_wordOf_59, rfl⟩, Or.inr ⟨by decide, ⟨_, my_118, sX12_136⟩, fun q => absurd q (by decide)⟩⟩, ⟨⟨dX12_wordOf_62, rfl⟩, rfl⟩, ⟨⟨dX12_wordOf_65, rfl⟩, rfl⟩, ⟨⟨dX12_wordOf_67, rfl⟩, rfl⟩, ⟨⟨dX12_wordOf_70, rfl⟩, rfl⟩, ⟨⟨dX12_wordOf_71, rfl⟩, Or.inr ⟨rfl, rfl, _, rfl, rfl, rfl⟩⟩, ⟨⟨dX12_wordOf_73, rfl⟩, Or.inr ⟨by decide, ⟨_, my_118, sX12_136⟩, fun q => absurd q (by decide)⟩⟩, ⟨⟨dX12_wordOf_76, rfl⟩, rfl⟩, ⟨⟨dX12_wordOf_79, rfl⟩, rfl⟩, ⟨⟨dX12_wordOf_81, rfl⟩, rfl⟩, ⟨⟨dX12_wordOf_84, rfl⟩, rfl⟩, ⟨⟨dX12_wordOf_85, rfl⟩, Or.inl ⟨rfl, rfl⟩⟩, trivial⟩, trivial⟩, by decide, Or.inl ⟨rfl, by decide, rfl⟩⟩
set_option maxRecDepth 100000 in
theorem g_X12_wordOf_0 (S : sT) (call : cT) (n : Nat) (a0 : Nat) (h : pH) : bd S call dflT E_X12_wordOf (n + 1) 0 [some (.ref a0)] [] h = (rC h (.ref a0) 15 (cI (call 118 [.ref a0, .retAddr 113] h) (fun y2 h1 => (if y2 = 0 then rC h1 (.ref a0) 15 (cI (call 118 [.ref a0, .retAddr 114] h1) (fun y4 h3 => (if y4 = 0 then rC h3 (.ref a0) 15 (cI (call 118 [.ref a0, .retAddr 115] h3) (fun y6 h5 => (if y6 = 0 then rC h5 (.ref a0) 15 (cI (call 118 [.ref a0, .retAddr 116] h5) (fun y8 h7 => (if y8 = 0 then rC h7 (.ref a0) 15 (cI (call 118 [.ref a0, .retAddr 117] h7) (fun y10 h9 => (if y10 = 0 then rC h9 (.ref a0) 15 (cI (call 118 [.ref a0, .retAddr 118] h9) (fun y12 h11 => (if y12 = 0 then some (.inl (some (.int (-1))), h11) else some (.inl (some (.int 15)), h11)))) else some (.inl (some (.int 14)), h9)))) else some (.inl (some (.int 13)), h7)))) else some (.inl (some (.int 12)), h5)))) else some (.inl (some (.int 11)), h3)))) else some (.inl (some (.int 10)), h1))))) := rfl
theorem dX12_sortOf_0 : decode cX12_sortOf 0 = .ok (.iload_n 1, 1) := by decide +kernel
theorem dX12_sortOf_1 : decode cX12_sortOf 1 = .ok (.ifCond .eq 97, 3) := by decide +kernel
theorem dX12_sortOf_4 : decode cX12_sortOf 4 = .ok (.aload_n 0, 1) := by decide +kernel
theorem dX12_sortOf_5 : decode cX12_sortOf 5 = .ok (.ldc 222, 2) := by decide +kernel
theorem dX12_sortOf_7 : decode cX12_sortOf 7 = .ok (.invokevirtual 136, 3) := by decide +kernel
theorem dX12_sortOf_10 : decode cX12_sortOf 10 = .ok (.ifCond .eq 7, 3) := by decide +kernel
theorem dX12_sortOf_13 : decode cX12_sortOf 13 = .ok (.iconst 0, 1) := by decide +kernel
theorem dX12_sortOf_14 : decode cX12_sortOf 14 = .ok (.goto 83, 3) := by decide +kernel
theorem dX12_sortOf_17 : decode cX12_sortOf 17 = .ok (.aload_n 0, 1) := by decide +kernel
theorem dX12_sortOf_18 : decode cX12_sortOf 18 = .ok (.ldc 224, 2) := by decide +kernel
theorem dX12_sortOf_20 : decode cX12_sortOf 20 = .ok (.invokevirtual 136, 3) := by decide +kernel
theorem dX12_sortOf_23 : decode cX12_sortOf 23 = .ok (.ifCond .eq 7, 3) := by decide +kernel
theorem dX12_sortOf_26 : decode cX12_sortOf 26 = .ok (.iconst 1, 1) := by decide +kernel
theorem dX12_sortOf_27 : decode cX12_sortOf 27 = .ok (.goto 70, 3) := by decide +kernel
theorem dX12_sortOf_30 : decode cX12_sortOf 30 = .ok (.aload_n 0, 1) := by decide +kernel
theorem dX12_sortOf_31 : decode cX12_sortOf 31 = .ok (.ldc 226, 2) := by decide +kernel
theorem dX12_sortOf_33 : decode cX12_sortOf 33 = .ok (.invokevirtual 136, 3) := by decide +kernel
theorem dX12_sortOf_36 : decode cX12_sortOf 36 = .ok (.ifCond .eq 7, 3) := by decide +kernel
theorem dX12_sortOf_39 : decode cX12_sortOf 39 = .ok (.iconst 2, 1) := by decide +kernel
theorem dX12_sortOf_40 : decode cX12_sortOf 40 = .ok (.goto 57, 3) := by decide +kernel
theorem dX12_sortOf_43 : decode cX12_sortOf 43 = .ok (.aload_n 0, 1) := by decide +kernel
theorem dX12_sortOf_44 : decode cX12_sortOf 44 = .ok (.ldc 228, 2) := by decide +kernel
theorem dX12_sortOf_46 : decode cX12_sortOf 46 = .ok (.invokevirtual 136, 3) := by decide +kernel
theorem dX12_sortOf_49 : decode cX12_sortOf 49 = .ok (.ifCond .eq 7, 3) := by decide +kernel
theorem dX12_sortOf_52 : decode cX12_sortOf 52 = .ok (.iconst 3, 1) := by decide +kernel
theorem dX12_sortOf_53 : decode cX12_sortOf 53 = .ok (.goto 44, 3) := by decide +kernel
theorem dX12_sortOf_56 : decode cX12_sortOf 56 = .ok (.aload_n 0, 1) := by decide +kernel
theorem dX12_sortOf_57 : decode cX12_sortOf 57 = .ok (.ldc 230, 2) := by decide +kernel
theorem dX12_sortOf_59 : decode cX12_sortOf 59 = .ok (.invokevirtual 136, 3) := by decide +kernel
theorem dX12_sortOf_62 : decode cX12_sortOf 62 = .ok (.ifCond .eq 7, 3) := by decide +kernel
theorem dX12_sortOf_65 : decode cX12_sortOf 65 = .ok (.iconst 4, 1) := by decide +kernel
theorem dX12_sortOf_66 : decode cX12_sortOf 66 = .ok (.goto 31, 3) := by decide +kernel
theorem dX12_sortOf_69 : decode cX12_sortOf 69 = .ok (.aload_n 0, 1) := by decide +kernel
theorem dX12_sortOf_70 : decode cX12_sortOf 70 = .ok (.ldc 232, 2) := by decide +kernel
theorem dX12_sortOf_72 : decode cX12_sortOf 72 = .ok (.invokevirtual 136, 3) := by decide +kernel
theorem dX12_sortOf_75 : decode cX12_sortOf 75 = .ok (.ifCond .eq 7, 3) := by decide +kernel
theorem dX12_sortOf_78 : decode cX12_sortOf 78 = .ok (.iconst 5, 1) := by decide +kernel
theorem dX12_sortOf_79 : decode cX12_sortOf 79 = .ok (.goto 18, 3) := by decide +kernel
theorem dX12_sortOf_82 : decode cX12_sortOf 82 = .ok (.aload_n 0, 1) := by decide +kernel
theorem dX12_sortOf_83 : decode cX12_sortOf 83 = .ok (.ldc 234, 2) := by decide +kernel
theorem dX12_sortOf_85 : decode cX12_sortOf 85 = .ok (.invokevirtual 136, 3) := by decide +kernel
theorem dX12_sortOf_88 : decode cX12_sortOf 88 = .ok (.ifCond .eq 8, 3) := by decide +kernel
theorem dX12_sortOf_91 : decode cX12_sortOf 91 = .ok (.bipush 6, 2) := by decide +kernel
theorem dX12_sortOf_93 : decode cX12_sortOf 93 = .ok (.goto 4, 3) := by decide +kernel
theorem dX12_sortOf_96 : decode cX12_sortOf 96 = .ok (.iconst (-1), 1) := by decide +kernel
theorem dX12_sortOf_97 : decode cX12_sortOf 97 = .ok (.ireturn, 1) := by decide +kernel
theorem dX12_sortOf_98 : decode cX12_sortOf 98 = .ok (.aload_n 0, 1) := by decide +kernel
theorem dX12_sortOf_99 : decode cX12_sortOf 99 = .ok (.invokevirtual 236, 3) := by decide +kernel
theorem dX12_sortOf_102 : decode cX12_sortOf 102 = .ok (.istore_n 2, 1) := by decide +kernel
theorem dX12_sortOf_103 : decode cX12_sortOf 103 = .ok (.iload_n 2, 1) := by decide +kernel
theorem dX12_sortOf_104 : decode cX12_sortOf 104 = .ok (.ifCond .ge 17, 3) := by decide +kernel
theorem dX12_sortOf_107 : decode cX12_sortOf 107 = .ok (.aload_n 0, 1) := by decide +kernel
theorem dX12_sortOf_108 : decode cX12_sortOf 108 = .ok (.ldc 239, 2) := by decide +kernel
theorem dX12_sortOf_110 : decode cX12_sortOf 110 = .ok (.invokevirtual 136, 3) := by decide +kernel
theorem dX12_sortOf_113 : decode cX12_sortOf 113 = .ok (.ifCond .eq 8, 3) := by decide +kernel
theorem dX12_sortOf_116 : decode cX12_sortOf 116 = .ok (.bipush 16, 2) := by decide +kernel
theorem dX12_sortOf_118 : decode cX12_sortOf 118 = .ok (.goto 4, 3) := by decide +kernel
theorem dX12_sortOf_121 : decode cX12_sortOf 121 = .ok (.iload_n 2, 1) := by decide +kernel
theorem dX12_sortOf_122 : decode cX12_sortOf 122 = .ok (.ireturn, 1) := by decide +kernel
noncomputable def E_X12_sortOf : mE := (mX12_sortOf, [(49, [(0, (.iload_n 1, 1, false, false, 1, 0, 0, 0, 0, 0, [])), (1, (.ifCond .eq 97, 4, false, false, 98, 0, 0, 0, 0, 0, [])), (4, (.aload_n 0, 5, false, false, 0, 0, 0, 0, 0, 0, [])), (5, (.ldc 222, 7, false, false, 106, 6, 1, 0, 0, 0, [])), (7, (.invokevirtual 136, 10, false, false, 118, 1, 1, 15, 0, 0, [])), (10, (.ifCond .eq 7, 13, false, false, 17, 0, 0, 0, 0, 0, [])), (13, (.iconst 0, 14, false, false, 0, 0, 0, 0, 0, 0, [])), (14, (.goto 83, 17, false, false, 97, 0, 0, 0, 0, 0, [])), (17, (.aload_n 0, 18, false, false, 0, 0, 0, 0, 0, 0, [])), (18, (.ldc 224, 20, false, false, 107, 7, 1, 0, 0, 0, [])), (20, (.invokevirtual 136, 23, false, false, 118, 1, 1, 15, 0, 0, [])), (23, (.ifCond .eq 7, 26, false, false, 30, 0, 0, 0, 0, 0, [])), (26, (.iconst 1, 27, false, false, 0, 0, 0, 0, 1, 0, [])), (27, (.goto 70, 30, false, false, 97, 0, 0, 0, 0, 0, [])), (30, (.aload_n 0, 31, false, false, 0, 0, 0, 0, 0, 0, [])), (31, (.ldc 226, 33, false, false, 108, 8, 1, 0, 0, 0, [])), (33, (.invokevirtual 136, 36, false, false, 118, 1, 1, 15, 0, 0, [])), (36, (.ifCond .eq 7, 39, false, false, 43, 0, 0, 0, 0, 0, [])), (39, (.iconst 2, 40, false, false, 0, 0, 0, 0, 2, 0, [])), (40, (.goto 57, 43, false, false, 97, 0, 0, 0, 0, 0, [])), (43, (.aload_n 0, 44, false, false, 0, 0, 0, 0, 0, 0, [])), (44, (.ldc 228, 46, false, false, 109, 9, 1, 0, 0, 0, [])), (46, (.invokevirtual 136, 49, false, false, 118, 1, 1, 15, 0, 0, [])), (49, (.ifCond .eq 7, 52, false, false, 56, 0, 0, 0, 0, 0, []))]),
  (99, [(52, (.iconst 3, 53, false, false, 0, 0, 0, 0, 3, 0, [])), (53, (.goto 44, 56, false, false, 97, 0, 0, 0, 0, 0, [])), (56, (.aload_n 0, 57, false, false, 0, 0, 0, 0, 0, 0, [])), (57, (.ldc 230, 59, false, false, 110, 10, 1, 0, 0, 0, [])), (59, (.invokevirtual 136, 62, false, false, 118, 1, 1, 15, 0, 0, [])), (62, (.ifCond .eq 7, 65, false, false, 69, 0, 0, 0, 0, 0, [])), (65, (.iconst 4, 66, false, false, 0, 0, 0, 0, 4, 0, [])), (66, (.goto 31, 69, false, false, 97, 0, 0, 0, 0, 0, [])), (69, (.aload_n 0, 70, false, false, 0, 0, 0, 0, 0, 0, [])), (70, (.ldc 232, 72, false, false, 111, 11, 1, 0, 0, 0, [])), (72, (.invokevirtual 136, 75, false, false, 118, 1, 1, 15, 0, 0, [])), (75, (.ifCond .eq 7, 78, false, false, 82, 0, 0, 0, 0, 0, [])), (78, (.iconst 5, 79, false, false, 0, 0, 0, 0, 5, 0, [])), (79, (.goto 18, 82, false, false, 97, 0, 0, 0, 0, 0, [])), (82, (.aload_n 0, 83, false, false, 0, 0, 0, 0, 0, 0, [])), (83, (.ldc 234, 85, false, false, 112, 12, 1, 0, 0, 0, [])), (85, (.invokevirtual 136, 88, false, false, 118, 1, 1, 15, 0, 0, [])), (88, (.ifCond .eq 8, 91, false, false, 96, 0, 0, 0, 0, 0, [])), (91, (.bipush 6, 93, false, false, 0, 0, 0, 0, 6, 0, [])), (93, (.goto 4, 96, false, false, 97, 0, 0, 0, 0, 0, [])), (96, (.iconst (-1), 97, false, false, 0, 0, 0, 0, -1, 0, [])), (97, (.ireturn, 98, false, false, 0, 0, 0, 0, 0, 0, [])), (98, (.aload_n 0, 99, false, false, 0, 0, 0, 0, 0, 0, [])), (99, (.invokevirtual 236, 102, false, false, 119, 0, 1, 15, 0, 0, []))]),
  (122, [(102, (.istore_n 2, 103, false, false, 2, 0, 0, 0, 0, 0, [])), (103, (.iload_n 2, 104, false, false, 2, 0, 0, 0, 0, 0, [])), (104, (.ifCond .ge 17, 107, false, false, 121, 0, 0, 0, 0, 0, [])), (107, (.aload_n 0, 108, false, false, 0, 0, 0, 0, 0, 0, [])), (108, (.ldc 239, 110, false, false, 119, 19, 1, 0, 0, 0, [])), (110, (.invokevirtual 136, 113, false, false, 118, 1, 1, 15, 0, 0, [])), (113, (.ifCond .eq 8, 116, false, false, 121, 0, 0, 0, 0, 0, [])), (116, (.bipush 16, 118, false, false, 0, 0, 0, 0, 16, 0, [])), (118, (.goto 4, 121, false, false, 122, 0, 0, 0, 0, 0, [])), (121, (.iload_n 2, 122, false, false, 2, 0, 0, 0, 0, 0, [])), (122, (.ireturn, 123, false, false, 0, 0, 0, 0, 0, 0, []))])], 0, [])
set_option maxRecDepth 100000 in
theorem v_X12_sortOf : VE MYT dflT E_X12_sortOf := ⟨⟨⟨⟨⟨dX12_sortOf_0, rfl⟩, rfl⟩, ⟨⟨dX12_sortOf_1, rfl⟩, rfl⟩, ⟨⟨dX12_sortOf_4, rfl⟩, rfl⟩, ⟨⟨dX12_sortOf_5, rfl⟩, Or.inr ⟨rfl, rfl, _, rfl, rfl, rfl⟩⟩, ⟨⟨dX12_sortOf_7, rfl⟩, Or.inr ⟨by decide, ⟨_, my_118, sX12_136⟩, fun q => absurd q (by decide)⟩⟩, ⟨⟨dX12_sortOf_10, rfl⟩, rfl⟩, ⟨⟨dX12_sortOf_13, rfl⟩, rfl⟩, ⟨⟨dX12_sortOf_14, rfl⟩, rfl⟩, ⟨⟨dX12_sortOf_17, rfl⟩, rfl⟩, ⟨⟨dX12_sortOf_18, rfl⟩, Or.inr ⟨rfl, rfl, _, rfl, rfl, rfl⟩⟩, ⟨⟨dX12_sortOf_20, rfl⟩, Or.inr ⟨by decide, ⟨_, my_118, sX12_136⟩, fun q => absurd q (by decide)⟩⟩, ⟨⟨dX12_sortOf_23, rfl⟩, rfl⟩, ⟨⟨dX12_sortOf_26, rfl⟩, rfl⟩, ⟨⟨dX12_sortOf_27, rfl⟩, rfl⟩, ⟨⟨dX12_sortOf_30, rfl⟩, rfl⟩, ⟨⟨dX12_sortOf_31, rfl⟩, Or.inr ⟨rfl, rfl, _, rfl, rfl, rfl⟩⟩, ⟨⟨dX12_sortOf_33, rfl⟩, Or.inr ⟨by decide, ⟨_, my_118, sX12_136⟩, fun q => absurd q (by decide)⟩⟩, ⟨⟨dX12_sortOf_36, rfl⟩, rfl⟩, ⟨⟨dX12_sortOf_39, rfl⟩, rfl⟩, ⟨⟨dX12_sortOf_40, rfl⟩, rfl⟩, ⟨⟨dX12_sortOf_43, rfl⟩, rfl⟩, ⟨⟨dX12_sortOf_44, rfl⟩, Or.inr ⟨rfl, rfl, _, rfl, rfl, rfl⟩⟩, ⟨⟨dX12_sortOf_46, rfl⟩, Or.inr ⟨by decide, ⟨_, my_118, sX12_136⟩, fun q => absurd q (by decide)⟩⟩, ⟨⟨dX12_sortOf_49, rfl⟩, rfl⟩, trivial⟩,
  ⟨⟨⟨dX12_sortOf_52, rfl⟩, rfl⟩, ⟨⟨dX12_sortOf_53, rfl⟩, rfl⟩, ⟨⟨dX12_sortOf_56, rfl⟩, rfl⟩, ⟨⟨dX12_sortOf_57, rfl⟩, Or.inr ⟨rfl, rfl, _, rfl, rfl, rfl⟩⟩, ⟨⟨dX12_sortOf_59, rfl⟩, Or.inr ⟨by decide, ⟨_, my_118, sX12_136⟩, fun q => absurd q (by decide)⟩⟩, ⟨⟨dX12_sortOf_62, rfl⟩, rfl⟩, ⟨⟨dX12_sortOf_65, rfl⟩, rfl⟩, ⟨⟨dX12_sortOf_66, rfl⟩, rfl⟩, ⟨⟨dX12_sortOf_69, rfl⟩, rfl⟩, ⟨⟨dX12_sortOf_70, rfl⟩, Or.inr ⟨rfl, rfl, _, rfl, rfl, rfl⟩⟩, ⟨⟨dX12_sortOf_72, rfl⟩, Or.inr ⟨by decide, ⟨_, my_118, sX12_136⟩, fun q => absurd q (by decide)⟩⟩, ⟨⟨dX12_sortOf_75, rfl⟩, rfl⟩, ⟨⟨dX12_sortOf_78, rfl⟩, rfl⟩, ⟨⟨dX12_sortOf_79, rfl⟩, rfl⟩, ⟨⟨dX12_sortOf_82, rfl⟩, rfl⟩, ⟨⟨dX12_sortOf_83, rfl⟩, Or.inr ⟨rfl, rfl, _, rfl, rfl, rfl⟩⟩, ⟨⟨dX12_sortOf_85, rfl⟩, Or.inr ⟨by decide, ⟨_, my_118, sX12_136⟩, fun q => absurd q (by decide)⟩⟩, ⟨⟨dX12_sortOf_88, rfl⟩, rfl⟩, ⟨⟨dX12_sortOf_91, rfl⟩, rfl⟩, ⟨⟨dX12_sortOf_93, rfl⟩, rfl⟩, ⟨⟨dX12_sortOf_96, rfl⟩, rfl⟩, ⟨⟨dX12_sortOf_97, rfl⟩, Or.inl ⟨rfl, rfl⟩⟩, ⟨⟨dX12_sortOf_98, rfl⟩, rfl⟩, ⟨⟨dX12_sortOf_99, rfl⟩, Or.inr ⟨by decide, ⟨_, my_119, sX12_236⟩, fun q => absurd q (by decide)⟩⟩, trivial⟩,
  ⟨⟨⟨dX12_sortOf_102, rfl⟩, rfl⟩, ⟨⟨dX12_sortOf_103, rfl⟩, rfl⟩, ⟨⟨dX12_sortOf_104, rfl⟩, rfl⟩, ⟨⟨dX12_sortOf_107, rfl⟩, rfl⟩, ⟨⟨dX12_sortOf_108, rfl⟩, Or.inr ⟨rfl, rfl, _, rfl, rfl, rfl⟩⟩, ⟨⟨dX12_sortOf_110, rfl⟩, Or.inr ⟨by decide, ⟨_, my_118, sX12_136⟩, fun q => absurd q (by decide)⟩⟩, ⟨⟨dX12_sortOf_113, rfl⟩, rfl⟩, ⟨⟨dX12_sortOf_116, rfl⟩, rfl⟩, ⟨⟨dX12_sortOf_118, rfl⟩, rfl⟩, ⟨⟨dX12_sortOf_121, rfl⟩, rfl⟩, ⟨⟨dX12_sortOf_122, rfl⟩, Or.inl ⟨rfl, rfl⟩⟩, trivial⟩, trivial⟩, by decide, Or.inl ⟨rfl, by decide, rfl⟩⟩
set_option maxRecDepth 100000 in
theorem g_X12_sortOf_0 (S : sT) (call : cT) (n : Nat) (a0 : Nat) (x1 : Int32) (h : pH) : bd S call dflT E_X12_sortOf (n + 1) 0 [some (.ref a0), some (.int x1), none] [] h = ((if x1 = 0 then rC h (.ref a0) 15 (cI (call 119 [.ref a0] h) (fun y2 h1 => (if 0 ≤ y2 then some (.inl (some (.int y2)), h1) else rC h1 (.ref a0) 15 (cI (call 118 [.ref a0, .retAddr 119] h1) (fun y4 h3 => (if y4 = 0 then some (.inl (some (.int y2)), h3) else some (.inl (some (.int 16)), h3))))))) else rC h (.ref a0) 15 (cI (call 118 [.ref a0, .retAddr 106] h) (fun y6 h5 => (if y6 = 0 then rC h5 (.ref a0) 15 (cI (call 118 [.ref a0, .retAddr 107] h5) (fun y8 h7 => (if y8 = 0 then rC h7 (.ref a0) 15 (cI (call 118 [.ref a0, .retAddr 108] h7) (fun y10 h9 => (if y10 = 0 then rC h9 (.ref a0) 15 (cI (call 118 [.ref a0, .retAddr 109] h9) (fun y12 h11 => (if y12 = 0 then rC h11 (.ref a0) 15 (cI (call 118 [.ref a0, .retAddr 110] h11) (fun y14 h13 => (if y14 = 0 then rC h13 (.ref a0) 15 (cI (call 118 [.ref a0, .retAddr 111] h13) (fun y16 h15 => (if y16 = 0 then rC h15 (.ref a0) 15 (cI (call 118 [.ref a0, .retAddr 112] h15) (fun y18 h17 => (if y18 = 0 then some (.inl (some (.int (-1))), h17) else some (.inl (some (.int 6)), h17)))) else some (.inl (some (.int 5)), h15)))) else some (.inl (some (.int 4)), h13)))) else some (.inl (some (.int 3)), h11)))) else some (.inl (some (.int 2)), h9)))) else some (.inl (some (.int 1)), h7)))) else some (.inl (some (.int 0)), h5)))))) := rfl
theorem dX12_number_0 : decode cX12_number 0 = .ok (.aload_n 0, 1) := by decide +kernel
theorem dX12_number_1 : decode cX12_number 1 = .ok (.invokevirtual 121, 3) := by decide +kernel
theorem dX12_number_4 : decode cX12_number 4 = .ok (.iconst 0, 1) := by decide +kernel
theorem dX12_number_5 : decode cX12_number 5 = .ok (.istore_n 2, 1) := by decide +kernel
theorem dX12_number_6 : decode cX12_number 6 = .ok (.aload_n 0, 1) := by decide +kernel
theorem dX12_number_7 : decode cX12_number 7 = .ok (.bipush 48, 2) := by decide +kernel
theorem dX12_number_9 : decode cX12_number 9 = .ok (.bipush 57, 2) := by decide +kernel
theorem dX12_number_11 : decode cX12_number 11 = .ok (.invokevirtual 114, 3) := by decide +kernel
theorem dX12_number_14 : decode cX12_number 14 = .ok (.ifCond .eq 52, 3) := by decide +kernel
theorem dX12_number_17 : decode cX12_number 17 = .ok (.aload_n 0, 1) := by decide +kernel
theorem dX12_number_18 : decode cX12_number 18 = .ok (.getfield 108, 3) := by decide +kernel
theorem dX12_number_21 : decode cX12_number 21 = .ok (.aload_n 0, 1) := by decide +kernel
theorem dX12_number_22 : decode cX12_number 22 = .ok (.getfield 118, 3) := by decide +kernel
theorem dX12_number_25 : decode cX12_number 25 = .ok (.isub, 1) := by decide +kernel
theorem dX12_number_26 : decode cX12_number 26 = .ok (.bipush 6, 2) := by decide +kernel
theorem dX12_number_28 : decode cX12_number 28 = .ok (.if_icmp .ge 23, 3) := by decide +kernel
theorem dX12_number_31 : decode cX12_number 31 = .ok (.bipush 10, 2) := by decide +kernel
theorem dX12_number_33 : decode cX12_number 33 = .ok (.iload_n 2, 1) := by decide +kernel
theorem dX12_number_34 : decode cX12_number 34 = .ok (.imul, 1) := by decide +kernel
theorem dX12_number_35 : decode cX12_number 35 = .ok (.aload_n 0, 1) := by decide +kernel
theorem dX12_number_36 : decode cX12_number 36 = .ok (.getfield 35, 3) := by decide +kernel
theorem dX12_number_39 : decode cX12_number 39 = .ok (.aload_n 0, 1) := by decide +kernel
theorem dX12_number_40 : decode cX12_number 40 = .ok (.getfield 108, 3) := by decide +kernel
theorem dX12_number_43 : decode cX12_number 43 = .ok (.baload, 1) := by decide +kernel
theorem dX12_number_44 : decode cX12_number 44 = .ok (.iadd, 1) := by decide +kernel
theorem dX12_number_45 : decode cX12_number 45 = .ok (.bipush 48, 2) := by decide +kernel
theorem dX12_number_47 : decode cX12_number 47 = .ok (.isub, 1) := by decide +kernel
theorem dX12_number_48 : decode cX12_number 48 = .ok (.goto 4, 3) := by decide +kernel
theorem dX12_number_51 : decode cX12_number 51 = .ok (.iload_n 2, 1) := by decide +kernel
theorem dX12_number_52 : decode cX12_number 52 = .ok (.istore_n 2, 1) := by decide +kernel
theorem dX12_number_53 : decode cX12_number 53 = .ok (.aload_n 0, 1) := by decide +kernel
theorem dX12_number_54 : decode cX12_number 54 = .ok (.dup, 1) := by decide +kernel
theorem dX12_number_55 : decode cX12_number 55 = .ok (.getfield 108, 3) := by decide +kernel
theorem dX12_number_58 : decode cX12_number 58 = .ok (.iconst 1, 1) := by decide +kernel
theorem dX12_number_59 : decode cX12_number 59 = .ok (.iadd, 1) := by decide +kernel
theorem dX12_number_60 : decode cX12_number 60 = .ok (.putfield 108, 3) := by decide +kernel
theorem dX12_number_63 : decode cX12_number 63 = .ok (.goto (-57), 3) := by decide +kernel
theorem dX12_number_66 : decode cX12_number 66 = .ok (.aload_n 0, 1) := by decide +kernel
theorem dX12_number_67 : decode cX12_number 67 = .ok (.getfield 108, 3) := by decide +kernel
theorem dX12_number_70 : decode cX12_number 70 = .ok (.aload_n 0, 1) := by decide +kernel
theorem dX12_number_71 : decode cX12_number 71 = .ok (.getfield 118, 3) := by decide +kernel
theorem dX12_number_74 : decode cX12_number 74 = .ok (.if_icmp .eq 22, 3) := by decide +kernel
theorem dX12_number_77 : decode cX12_number 77 = .ok (.aload_n 0, 1) := by decide +kernel
theorem dX12_number_78 : decode cX12_number 78 = .ok (.getfield 108, 3) := by decide +kernel
theorem dX12_number_81 : decode cX12_number 81 = .ok (.aload_n 0, 1) := by decide +kernel
theorem dX12_number_82 : decode cX12_number 82 = .ok (.getfield 118, 3) := by decide +kernel
theorem dX12_number_85 : decode cX12_number 85 = .ok (.isub, 1) := by decide +kernel
theorem dX12_number_86 : decode cX12_number 86 = .ok (.bipush 6, 2) := by decide +kernel
theorem dX12_number_88 : decode cX12_number 88 = .ok (.if_icmp .gt 8, 3) := by decide +kernel
theorem dX12_number_91 : decode cX12_number 91 = .ok (.iload_n 2, 1) := by decide +kernel
theorem dX12_number_92 : decode cX12_number 92 = .ok (.iload_n 1, 1) := by decide +kernel
theorem dX12_number_93 : decode cX12_number 93 = .ok (.if_icmp .le 7, 3) := by decide +kernel
theorem dX12_number_96 : decode cX12_number 96 = .ok (.iconst (-1), 1) := by decide +kernel
theorem dX12_number_97 : decode cX12_number 97 = .ok (.goto 4, 3) := by decide +kernel
theorem dX12_number_100 : decode cX12_number 100 = .ok (.iload_n 2, 1) := by decide +kernel
theorem dX12_number_101 : decode cX12_number 101 = .ok (.ireturn, 1) := by decide +kernel
noncomputable def E_X12_number : mE := (mX12_number, [(43, [(0, (.aload_n 0, 1, false, false, 0, 0, 0, 0, 0, 0, [])), (1, (.invokevirtual 121, 4, false, false, 114, 0, 0, 15, 0, 0, [])), (4, (.iconst 0, 5, false, false, 0, 0, 0, 0, 0, 0, [])), (5, (.istore_n 2, 6, true, false, 2, 0, 0, 0, 0, 0, [])), (6, (.aload_n 0, 7, false, false, 0, 0, 0, 0, 0, 0, [])), (7, (.bipush 48, 9, false, false, 0, 0, 0, 0, 48, 0, [])), (9, (.bipush 57, 11, false, false, 0, 0, 0, 0, 57, 0, [])), (11, (.invokevirtual 114, 14, false, false, 113, 2, 1, 15, 0, 0, [])), (14, (.ifCond .eq 52, 17, false, false, 66, 0, 0, 0, 0, 0, [])), (17, (.aload_n 0, 18, false, false, 0, 0, 0, 0, 0, 0, [])), (18, (.getfield 108, 21, false, false, 15, 6, 0, 0, 0, 0, [])), (21, (.aload_n 0, 22, false, false, 0, 0, 0, 0, 0, 0, [])), (22, (.getfield 118, 25, false, false, 15, 8, 0, 0, 0, 0, [])), (25, (.isub, 26, false, false, 0, 0, 0, 0, 0, 0, [])), (26, (.bipush 6, 28, false, false, 0, 0, 0, 0, 6, 0, [])), (28, (.if_icmp .ge 23, 31, false, false, 51, 0, 0, 0, 0, 0, [])), (31, (.bipush 10, 33, false, false, 0, 0, 0, 0, 10, 0, [])), (33, (.iload_n 2, 34, false, false, 2, 0, 0, 0, 0, 0, [])), (34, (.imul, 35, false, false, 0, 0, 0, 0, 0, 0, [])), (35, (.aload_n 0, 36, false, false, 0, 0, 0, 0, 0, 0, [])), (36, (.getfield 35, 39, false, false, 15, 4, 1, 0, 0, 0, [])), (39, (.aload_n 0, 40, false, false, 0, 0, 0, 0, 0, 0, [])), (40, (.getfield 108, 43, false, false, 15, 6, 0, 0, 0, 0, [])), (43, (.baload, 44, false, false, 0, 0, 0, 0, 0, 0, []))]),
  (86, [(44, (.iadd, 45, false, false, 0, 0, 0, 0, 0, 0, [])), (45, (.bipush 48, 47, false, false, 0, 0, 0, 0, 48, 0, [])), (47, (.isub, 48, false, false, 0, 0, 0, 0, 0, 0, [])), (48, (.goto 4, 51, false, false, 52, 0, 0, 0, 0, 0, [])), (51, (.iload_n 2, 52, false, false, 2, 0, 0, 0, 0, 0, [])), (52, (.istore_n 2, 53, false, false, 2, 0, 0, 0, 0, 0, [])), (53, (.aload_n 0, 54, false, false, 0, 0, 0, 0, 0, 0, [])), (54, (.dup, 55, false, false, 0, 0, 0, 0, 0, 0, [])), (55, (.getfield 108, 58, false, false, 15, 6, 0, 0, 0, 0, [])), (58, (.iconst 1, 59, false, false, 0, 0, 0, 0, 1, 0, [])), (59, (.iadd, 60, false, false, 0, 0, 0, 0, 0, 0, [])), (60, (.putfield 108, 63, false, false, 15, 6, 0, 0, 0, 0, [])), (63, (.goto (-57), 66, false, true, 6, 0, 0, 0, 0, 0, [])), (66, (.aload_n 0, 67, false, false, 0, 0, 0, 0, 0, 0, [])), (67, (.getfield 108, 70, false, false, 15, 6, 0, 0, 0, 0, [])), (70, (.aload_n 0, 71, false, false, 0, 0, 0, 0, 0, 0, [])), (71, (.getfield 118, 74, false, false, 15, 8, 0, 0, 0, 0, [])), (74, (.if_icmp .eq 22, 77, false, false, 96, 0, 0, 0, 0, 0, [])), (77, (.aload_n 0, 78, false, false, 0, 0, 0, 0, 0, 0, [])), (78, (.getfield 108, 81, false, false, 15, 6, 0, 0, 0, 0, [])), (81, (.aload_n 0, 82, false, false, 0, 0, 0, 0, 0, 0, [])), (82, (.getfield 118, 85, false, false, 15, 8, 0, 0, 0, 0, [])), (85, (.isub, 86, false, false, 0, 0, 0, 0, 0, 0, [])), (86, (.bipush 6, 88, false, false, 0, 0, 0, 0, 6, 0, []))]),
  (101, [(88, (.if_icmp .gt 8, 91, false, false, 96, 0, 0, 0, 0, 0, [])), (91, (.iload_n 2, 92, false, false, 2, 0, 0, 0, 0, 0, [])), (92, (.iload_n 1, 93, false, false, 1, 0, 0, 0, 0, 0, [])), (93, (.if_icmp .le 7, 96, false, false, 100, 0, 0, 0, 0, 0, [])), (96, (.iconst (-1), 97, false, false, 0, 0, 0, 0, -1, 0, [])), (97, (.goto 4, 100, false, false, 101, 0, 0, 0, 0, 0, [])), (100, (.iload_n 2, 101, false, false, 2, 0, 0, 0, 0, 0, [])), (101, (.ireturn, 102, false, false, 0, 0, 0, 0, 0, 0, []))])], 0, [])
set_option maxRecDepth 100000 in
theorem v_X12_number : VE MYT dflT E_X12_number := ⟨⟨⟨⟨⟨dX12_number_0, rfl⟩, rfl⟩, ⟨⟨dX12_number_1, rfl⟩, Or.inr ⟨by decide, ⟨_, my_114, sX12_121⟩, fun q => absurd q (by decide)⟩⟩, ⟨⟨dX12_number_4, rfl⟩, rfl⟩, ⟨⟨dX12_number_5, rfl⟩, rfl⟩, ⟨⟨dX12_number_6, rfl⟩, rfl⟩, ⟨⟨dX12_number_7, rfl⟩, rfl⟩, ⟨⟨dX12_number_9, rfl⟩, rfl⟩, ⟨⟨dX12_number_11, rfl⟩, Or.inr ⟨by decide, ⟨_, my_113, sX12_114⟩, fun q => absurd q (by decide)⟩⟩, ⟨⟨dX12_number_14, rfl⟩, rfl⟩, ⟨⟨dX12_number_17, rfl⟩, rfl⟩, ⟨⟨dX12_number_18, rfl⟩, Or.inl ⟨by decide, _, _, fX12_108⟩⟩, ⟨⟨dX12_number_21, rfl⟩, rfl⟩, ⟨⟨dX12_number_22, rfl⟩, Or.inl ⟨by decide, _, _, fX12_118⟩⟩, ⟨⟨dX12_number_25, rfl⟩, trivial⟩, ⟨⟨dX12_number_26, rfl⟩, rfl⟩, ⟨⟨dX12_number_28, rfl⟩, rfl⟩, ⟨⟨dX12_number_31, rfl⟩, rfl⟩, ⟨⟨dX12_number_33, rfl⟩, rfl⟩, ⟨⟨dX12_number_34, rfl⟩, trivial⟩, ⟨⟨dX12_number_35, rfl⟩, rfl⟩, ⟨⟨dX12_number_36, rfl⟩, Or.inl ⟨by decide, _, _, fX12_35⟩⟩, ⟨⟨dX12_number_39, rfl⟩, rfl⟩, ⟨⟨dX12_number_40, rfl⟩, Or.inl ⟨by decide, _, _, fX12_108⟩⟩, ⟨⟨dX12_number_43, rfl⟩, trivial⟩, trivial⟩,
  ⟨⟨⟨dX12_number_44, rfl⟩, trivial⟩, ⟨⟨dX12_number_45, rfl⟩, rfl⟩, ⟨⟨dX12_number_47, rfl⟩, trivial⟩, ⟨⟨dX12_number_48, rfl⟩, rfl⟩, ⟨⟨dX12_number_51, rfl⟩, rfl⟩, ⟨⟨dX12_number_52, rfl⟩, rfl⟩, ⟨⟨dX12_number_53, rfl⟩, rfl⟩, ⟨⟨dX12_number_54, rfl⟩, trivial⟩, ⟨⟨dX12_number_55, rfl⟩, Or.inl ⟨by decide, _, _, fX12_108⟩⟩, ⟨⟨dX12_number_58, rfl⟩, rfl⟩, ⟨⟨dX12_number_59, rfl⟩, trivial⟩, ⟨⟨dX12_number_60, rfl⟩, Or.inl ⟨rfl, fX12_108⟩⟩, ⟨⟨dX12_number_63, rfl⟩, rfl⟩, ⟨⟨dX12_number_66, rfl⟩, rfl⟩, ⟨⟨dX12_number_67, rfl⟩, Or.inl ⟨by decide, _, _, fX12_108⟩⟩, ⟨⟨dX12_number_70, rfl⟩, rfl⟩, ⟨⟨dX12_number_71, rfl⟩, Or.inl ⟨by decide, _, _, fX12_118⟩⟩, ⟨⟨dX12_number_74, rfl⟩, rfl⟩, ⟨⟨dX12_number_77, rfl⟩, rfl⟩, ⟨⟨dX12_number_78, rfl⟩, Or.inl ⟨by decide, _, _, fX12_108⟩⟩, ⟨⟨dX12_number_81, rfl⟩, rfl⟩, ⟨⟨dX12_number_82, rfl⟩, Or.inl ⟨by decide, _, _, fX12_118⟩⟩, ⟨⟨dX12_number_85, rfl⟩, trivial⟩, ⟨⟨dX12_number_86, rfl⟩, rfl⟩, trivial⟩,
  ⟨⟨⟨dX12_number_88, rfl⟩, rfl⟩, ⟨⟨dX12_number_91, rfl⟩, rfl⟩, ⟨⟨dX12_number_92, rfl⟩, rfl⟩, ⟨⟨dX12_number_93, rfl⟩, rfl⟩, ⟨⟨dX12_number_96, rfl⟩, rfl⟩, ⟨⟨dX12_number_97, rfl⟩, rfl⟩, ⟨⟨dX12_number_100, rfl⟩, rfl⟩, ⟨⟨dX12_number_101, rfl⟩, Or.inl ⟨rfl, rfl⟩⟩, trivial⟩, trivial⟩, by decide, Or.inl ⟨rfl, by decide, rfl⟩⟩
set_option maxRecDepth 100000 in
theorem g_X12_number_0 (S : sT) (call : cT) (n : Nat) (a0 : Nat) (x1 : Int32) (h : pH) : bd S call dflT E_X12_number (n + 1) 0 [some (.ref a0), some (.int x1), none] [] h = (rC h (.ref a0) 15 (cU (call 114 [.ref a0] h) (fun h1 => bd S call dflT E_X12_number n 6 [some (.ref a0), some (.int x1), some (.int 0)] [] h1))) := rfl
set_option maxRecDepth 100000 in
theorem g_X12_number_6 (S : sT) (call : cT) (n : Nat) (a0 : Nat) (x1 : Int32) (x2 : Int32) (h : pH) : bd S call dflT E_X12_number (n + 1) 6 [some (.ref a0), some (.int x1), some (.int x2)] [] h = (rC h (.ref a0) 15 (cI (call 113 [.ref a0, .int 48, .int 57] h) (fun y2 h1 => (if y2 = 0 then gI h1 (.ref a0) 15 6 (fun y3 => gI h1 (.ref a0) 15 8 (fun y4 => (if y3 = y4 then some (.inl (some (.int (-1))), h1) else gI h1 (.ref a0) 15 6 (fun y5 => gI h1 (.ref a0) 15 8 (fun y6 => (if 6 < (y5 - y6) then some (.inl (some (.int (-1))), h1) else (if x2 ≤ x1 then some (.inl (some (.int x2)), h1) else some (.inl (some (.int (-1))), h1)))))))) else gI h1 (.ref a0) 15 6 (fun y7 => gI h1 (.ref a0) 15 8 (fun y8 => (if 6 ≤ (y7 - y8) then gI h1 (.ref a0) 15 6 (fun y9 => pF h1 (.ref a0) 15 6 (.int (y9 + 1)) (fun h10 => bd S call dflT E_X12_number n 6 [some (.ref a0), some (.int x1), some (.int x2)] [] h10)) else gV h1 (.ref a0) 15 4 (fun w11 => gI h1 (.ref a0) 15 6 (fun y12 => aI h1 w11 1 y12 (fun y13 => gI h1 (.ref a0) 15 6 (fun y14 => pF h1 (.ref a0) 15 6 (.int (y14 + 1)) (fun h15 => bd S call dflT E_X12_number n 6 [some (.ref a0), some (.int x1), some (.int (((10 * x2) + y13) - 48))] [] h15)))))))))))) := rfl
theorem dX12_tells_0 : decode cX12_tells 0 = .ok (.aload_n 0, 1) := by decide +kernel
theorem dX12_tells_1 : decode cX12_tells 1 = .ok (.getfield 27, 3) := by decide +kernel
theorem dX12_tells_4 : decode cX12_tells 4 = .ok (.iload_n 1, 1) := by decide +kernel
theorem dX12_tells_5 : decode cX12_tells 5 = .ok (.iconst 1, 1) := by decide +kernel
theorem dX12_tells_6 : decode cX12_tells 6 = .ok (.iadd, 1) := by decide +kernel
theorem dX12_tells_7 : decode cX12_tells 7 = .ok (.aload_n 0, 1) := by decide +kernel
theorem dX12_tells_8 : decode cX12_tells 8 = .ok (.iload_n 2, 1) := by decide +kernel
theorem dX12_tells_9 : decode cX12_tells 9 = .ok (.invokevirtual 176, 3) := by decide +kernel
theorem dX12_tells_12 : decode cX12_tells 12 = .ok (.iastore, 1) := by decide +kernel
theorem dX12_tells_13 : decode cX12_tells 13 = .ok (.aload_n 0, 1) := by decide +kernel
theorem dX12_tells_14 : decode cX12_tells 14 = .ok (.getfield 27, 3) := by decide +kernel
theorem dX12_tells_17 : decode cX12_tells 17 = .ok (.iload_n 1, 1) := by decide +kernel
theorem dX12_tells_18 : decode cX12_tells 18 = .ok (.iconst 1, 1) := by decide +kernel
theorem dX12_tells_19 : decode cX12_tells 19 = .ok (.iadd, 1) := by decide +kernel
theorem dX12_tells_20 : decode cX12_tells 20 = .ok (.iaload, 1) := by decide +kernel
theorem dX12_tells_21 : decode cX12_tells 21 = .ok (.ifCond .lt 7, 3) := by decide +kernel
theorem dX12_tells_24 : decode cX12_tells 24 = .ok (.iconst 1, 1) := by decide +kernel
theorem dX12_tells_25 : decode cX12_tells 25 = .ok (.goto 4, 3) := by decide +kernel
theorem dX12_tells_28 : decode cX12_tells 28 = .ok (.iconst 0, 1) := by decide +kernel
theorem dX12_tells_29 : decode cX12_tells 29 = .ok (.ireturn, 1) := by decide +kernel
noncomputable def E_X12_tells : mE := (mX12_tells, [(29, [(0, (.aload_n 0, 1, false, false, 0, 0, 0, 0, 0, 0, [])), (1, (.getfield 27, 4, false, false, 15, 1, 1, 0, 0, 0, [])), (4, (.iload_n 1, 5, false, false, 1, 0, 0, 0, 0, 0, [])), (5, (.iconst 1, 6, false, false, 0, 0, 0, 0, 1, 0, [])), (6, (.iadd, 7, false, false, 0, 0, 0, 0, 0, 0, [])), (7, (.aload_n 0, 8, false, false, 0, 0, 0, 0, 0, 0, [])), (8, (.iload_n 2, 9, false, false, 2, 0, 0, 0, 0, 0, [])), (9, (.invokevirtual 176, 12, false, false, 121, 1, 1, 15, 0, 0, [])), (12, (.iastore, 13, false, false, 0, 0, 0, 0, 0, 0, [])), (13, (.aload_n 0, 14, false, false, 0, 0, 0, 0, 0, 0, [])), (14, (.getfield 27, 17, false, false, 15, 1, 1, 0, 0, 0, [])), (17, (.iload_n 1, 18, false, false, 1, 0, 0, 0, 0, 0, [])), (18, (.iconst 1, 19, false, false, 0, 0, 0, 0, 1, 0, [])), (19, (.iadd, 20, false, false, 0, 0, 0, 0, 0, 0, [])), (20, (.iaload, 21, false, false, 0, 0, 0, 0, 0, 0, [])), (21, (.ifCond .lt 7, 24, false, false, 28, 0, 0, 0, 0, 0, [])), (24, (.iconst 1, 25, false, false, 0, 0, 0, 0, 1, 0, [])), (25, (.goto 4, 28, false, false, 29, 0, 0, 0, 0, 0, [])), (28, (.iconst 0, 29, false, false, 0, 0, 0, 0, 0, 0, [])), (29, (.ireturn, 30, false, false, 0, 0, 1, 0, 0, 0, []))])], 0, [])
set_option maxRecDepth 100000 in
theorem v_X12_tells : VE MYT dflT E_X12_tells := ⟨⟨⟨⟨⟨dX12_tells_0, rfl⟩, rfl⟩, ⟨⟨dX12_tells_1, rfl⟩, Or.inl ⟨by decide, _, _, fX12_27⟩⟩, ⟨⟨dX12_tells_4, rfl⟩, rfl⟩, ⟨⟨dX12_tells_5, rfl⟩, rfl⟩, ⟨⟨dX12_tells_6, rfl⟩, trivial⟩, ⟨⟨dX12_tells_7, rfl⟩, rfl⟩, ⟨⟨dX12_tells_8, rfl⟩, rfl⟩, ⟨⟨dX12_tells_9, rfl⟩, Or.inr ⟨by decide, ⟨_, my_121, sX12_176⟩, fun q => absurd q (by decide)⟩⟩, ⟨⟨dX12_tells_12, rfl⟩, trivial⟩, ⟨⟨dX12_tells_13, rfl⟩, rfl⟩, ⟨⟨dX12_tells_14, rfl⟩, Or.inl ⟨by decide, _, _, fX12_27⟩⟩, ⟨⟨dX12_tells_17, rfl⟩, rfl⟩, ⟨⟨dX12_tells_18, rfl⟩, rfl⟩, ⟨⟨dX12_tells_19, rfl⟩, trivial⟩, ⟨⟨dX12_tells_20, rfl⟩, trivial⟩, ⟨⟨dX12_tells_21, rfl⟩, rfl⟩, ⟨⟨dX12_tells_24, rfl⟩, rfl⟩, ⟨⟨dX12_tells_25, rfl⟩, rfl⟩, ⟨⟨dX12_tells_28, rfl⟩, rfl⟩, ⟨⟨dX12_tells_29, rfl⟩, Or.inr (Or.inl ⟨rfl, rfl⟩)⟩, trivial⟩, trivial⟩, by decide, Or.inl ⟨rfl, by decide, rfl⟩⟩
set_option maxRecDepth 100000 in
theorem g_X12_tells_0 (S : sT) (call : cT) (n : Nat) (a0 : Nat) (x1 : Int32) (x2 : Int32) (h : pH) : bd S call dflT E_X12_tells (n + 1) 0 [some (.ref a0), some (.int x1), some (.int x2)] [] h = (gV h (.ref a0) 15 1 (fun w1 => rC h (.ref a0) 15 (cI (call 121 [.ref a0, .int x2] h) (fun y3 h2 => sI h2 w1 0 (x1 + 1) y3 (fun h4 => gV h4 (.ref a0) 15 1 (fun w5 => aI h4 w5 0 (x1 + 1) (fun y6 => (if y6 < 0 then zR 0 (some (.inl (some (.int 0)), h4)) else zR 1 (some (.inl (some (.int 1)), h4)))))))))) := rfl
theorem dX12_needs_0 : decode cX12_needs 0 = .ok (.aload_n 0, 1) := by decide +kernel
theorem dX12_needs_1 : decode cX12_needs 1 = .ok (.invokevirtual 133, 3) := by decide +kernel
theorem dX12_needs_4 : decode cX12_needs 4 = .ok (.aload_n 0, 1) := by decide +kernel
theorem dX12_needs_5 : decode cX12_needs 5 = .ok (.aload_n 1, 1) := by decide +kernel
theorem dX12_needs_6 : decode cX12_needs 6 = .ok (.invokevirtual 136, 3) := by decide +kernel
theorem dX12_needs_9 : decode cX12_needs 9 = .ok (.ireturn, 1) := by decide +kernel
noncomputable def E_X12_needs : mE := (mX12_needs, [(9, [(0, (.aload_n 0, 1, false, false, 0, 0, 0, 0, 0, 0, [])), (1, (.invokevirtual 133, 4, false, false, 115, 0, 0, 15, 0, 0, [])), (4, (.aload_n 0, 5, false, false, 0, 0, 0, 0, 0, 0, [])), (5, (.aload_n 1, 6, false, false, 1, 0, 0, 0, 0, 0, [])), (6, (.invokevirtual 136, 9, false, false, 118, 1, 1, 15, 0, 0, [])), (9, (.ireturn, 10, false, false, 0, 0, 1, 0, 0, 0, []))])], 0, [])
set_option maxRecDepth 100000 in
theorem v_X12_needs : VE MYT dflT E_X12_needs := ⟨⟨⟨⟨⟨dX12_needs_0, rfl⟩, rfl⟩, ⟨⟨dX12_needs_1, rfl⟩, Or.inr ⟨by decide, ⟨_, my_115, sX12_133⟩, fun q => absurd q (by decide)⟩⟩, ⟨⟨dX12_needs_4, rfl⟩, rfl⟩, ⟨⟨dX12_needs_5, rfl⟩, rfl⟩, ⟨⟨dX12_needs_6, rfl⟩, Or.inr ⟨by decide, ⟨_, my_118, sX12_136⟩, fun q => absurd q (by decide)⟩⟩, ⟨⟨dX12_needs_9, rfl⟩, Or.inr (Or.inl ⟨rfl, rfl⟩)⟩, trivial⟩, trivial⟩, by decide, Or.inl ⟨rfl, by decide, rfl⟩⟩
set_option maxRecDepth 100000 in
theorem g_X12_needs_0 (S : sT) (call : cT) (n : Nat) (a0 : Nat) (v1 : Value) (h : pH) : bd S call dflT E_X12_needs (n + 1) 0 [some (.ref a0), some (v1)] [] h = (rC h (.ref a0) 15 (cU (call 115 [.ref a0] h) (fun h1 => iA v1 (rC h1 (.ref a0) 15 (cI (call 118 [.ref a0, v1] h1) (fun y3 h2 => zR y3 (some (.inl (some (.int y3)), h2)))))))) := rfl
theorem dX12_readCrop_0 : decode cX12_readCrop 0 = .ok (.aload_n 0, 1) := by decide +kernel
theorem dX12_readCrop_1 : decode cX12_readCrop 1 = .ok (.invokevirtual 133, 3) := by decide +kernel
theorem dX12_readCrop_4 : decode cX12_readCrop 4 = .ok (.aload_n 0, 1) := by decide +kernel
theorem dX12_readCrop_5 : decode cX12_readCrop 5 = .ok (.ldc 147, 2) := by decide +kernel
theorem dX12_readCrop_7 : decode cX12_readCrop 7 = .ok (.invokevirtual 136, 3) := by decide +kernel
theorem dX12_readCrop_10 : decode cX12_readCrop 10 = .ok (.ifCond .eq 7, 3) := by decide +kernel
theorem dX12_readCrop_13 : decode cX12_readCrop 13 = .ok (.iconst 1, 1) := by decide +kernel
theorem dX12_readCrop_14 : decode cX12_readCrop 14 = .ok (.goto 56, 3) := by decide +kernel
theorem dX12_readCrop_17 : decode cX12_readCrop 17 = .ok (.aload_n 0, 1) := by decide +kernel
theorem dX12_readCrop_18 : decode cX12_readCrop 18 = .ok (.ldc 149, 2) := by decide +kernel
theorem dX12_readCrop_20 : decode cX12_readCrop 20 = .ok (.invokevirtual 136, 3) := by decide +kernel
theorem dX12_readCrop_23 : decode cX12_readCrop 23 = .ok (.ifCond .eq 7, 3) := by decide +kernel
theorem dX12_readCrop_26 : decode cX12_readCrop 26 = .ok (.iconst 2, 1) := by decide +kernel
theorem dX12_readCrop_27 : decode cX12_readCrop 27 = .ok (.goto 43, 3) := by decide +kernel
theorem dX12_readCrop_30 : decode cX12_readCrop 30 = .ok (.aload_n 0, 1) := by decide +kernel
theorem dX12_readCrop_31 : decode cX12_readCrop 31 = .ok (.ldc 151, 2) := by decide +kernel
theorem dX12_readCrop_33 : decode cX12_readCrop 33 = .ok (.invokevirtual 136, 3) := by decide +kernel
theorem dX12_readCrop_36 : decode cX12_readCrop 36 = .ok (.ifCond .eq 7, 3) := by decide +kernel
theorem dX12_readCrop_39 : decode cX12_readCrop 39 = .ok (.iconst 3, 1) := by decide +kernel
theorem dX12_readCrop_40 : decode cX12_readCrop 40 = .ok (.goto 30, 3) := by decide +kernel
theorem dX12_readCrop_43 : decode cX12_readCrop 43 = .ok (.aload_n 0, 1) := by decide +kernel
theorem dX12_readCrop_44 : decode cX12_readCrop 44 = .ok (.ldc 153, 2) := by decide +kernel
theorem dX12_readCrop_46 : decode cX12_readCrop 46 = .ok (.invokevirtual 136, 3) := by decide +kernel
theorem dX12_readCrop_49 : decode cX12_readCrop 49 = .ok (.ifCond .eq 7, 3) := by decide +kernel
theorem dX12_readCrop_52 : decode cX12_readCrop 52 = .ok (.iconst 4, 1) := by decide +kernel
theorem dX12_readCrop_53 : decode cX12_readCrop 53 = .ok (.goto 17, 3) := by decide +kernel
theorem dX12_readCrop_56 : decode cX12_readCrop 56 = .ok (.aload_n 0, 1) := by decide +kernel
theorem dX12_readCrop_57 : decode cX12_readCrop 57 = .ok (.ldc 210, 2) := by decide +kernel
theorem dX12_readCrop_59 : decode cX12_readCrop 59 = .ok (.invokevirtual 136, 3) := by decide +kernel
theorem dX12_readCrop_62 : decode cX12_readCrop 62 = .ok (.ifCond .eq 7, 3) := by decide +kernel
theorem dX12_readCrop_65 : decode cX12_readCrop 65 = .ok (.iconst 5, 1) := by decide +kernel
theorem dX12_readCrop_66 : decode cX12_readCrop 66 = .ok (.goto 4, 3) := by decide +kernel
theorem dX12_readCrop_69 : decode cX12_readCrop 69 = .ok (.iconst (-1), 1) := by decide +kernel
theorem dX12_readCrop_70 : decode cX12_readCrop 70 = .ok (.ireturn, 1) := by decide +kernel
noncomputable def E_X12_readCrop : mE := (mX12_readCrop, [(49, [(0, (.aload_n 0, 1, false, false, 0, 0, 0, 0, 0, 0, [])), (1, (.invokevirtual 133, 4, false, false, 115, 0, 0, 15, 0, 0, [])), (4, (.aload_n 0, 5, false, false, 0, 0, 0, 0, 0, 0, [])), (5, (.ldc 147, 7, false, false, 121, 21, 1, 0, 0, 0, [])), (7, (.invokevirtual 136, 10, false, false, 118, 1, 1, 15, 0, 0, [])), (10, (.ifCond .eq 7, 13, false, false, 17, 0, 0, 0, 0, 0, [])), (13, (.iconst 1, 14, false, false, 0, 0, 0, 0, 1, 0, [])), (14, (.goto 56, 17, false, false, 70, 0, 0, 0, 0, 0, [])), (17, (.aload_n 0, 18, false, false, 0, 0, 0, 0, 0, 0, [])), (18, (.ldc 149, 20, false, false, 122, 22, 1, 0, 0, 0, [])), (20, (.invokevirtual 136, 23, false, false, 118, 1, 1, 15, 0, 0, [])), (23, (.ifCond .eq 7, 26, false, false, 30, 0, 0, 0, 0, 0, [])), (26, (.iconst 2, 27, false, false, 0, 0, 0, 0, 2, 0, [])), (27, (.goto 43, 30, false, false, 70, 0, 0, 0, 0, 0, [])), (30, (.aload_n 0, 31, false, false, 0, 0, 0, 0, 0, 0, [])), (31, (.ldc 151, 33, false, false, 123, 23, 1, 0, 0, 0, [])), (33, (.invokevirtual 136, 36, false, false, 118, 1, 1, 15, 0, 0, [])), (36, (.ifCond .eq 7, 39, false, false, 43, 0, 0, 0, 0, 0, [])), (39, (.iconst 3, 40, false, false, 0, 0, 0, 0, 3, 0, [])), (40, (.goto 30, 43, false, false, 70, 0, 0, 0, 0, 0, [])), (43, (.aload_n 0, 44, false, false, 0, 0, 0, 0, 0, 0, [])), (44, (.ldc 153, 46, false, false, 124, 24, 1, 0, 0, 0, [])), (46, (.invokevirtual 136, 49, false, false, 118, 1, 1, 15, 0, 0, [])), (49, (.ifCond .eq 7, 52, false, false, 56, 0, 0, 0, 0, 0, []))]),
  (70, [(52, (.iconst 4, 53, false, false, 0, 0, 0, 0, 4, 0, [])), (53, (.goto 17, 56, false, false, 70, 0, 0, 0, 0, 0, [])), (56, (.aload_n 0, 57, false, false, 0, 0, 0, 0, 0, 0, [])), (57, (.ldc 210, 59, false, false, 125, 25, 1, 0, 0, 0, [])), (59, (.invokevirtual 136, 62, false, false, 118, 1, 1, 15, 0, 0, [])), (62, (.ifCond .eq 7, 65, false, false, 69, 0, 0, 0, 0, 0, [])), (65, (.iconst 5, 66, false, false, 0, 0, 0, 0, 5, 0, [])), (66, (.goto 4, 69, false, false, 70, 0, 0, 0, 0, 0, [])), (69, (.iconst (-1), 70, false, false, 0, 0, 0, 0, -1, 0, [])), (70, (.ireturn, 71, false, false, 0, 0, 0, 0, 0, 0, []))])], 0, [])
set_option maxRecDepth 100000 in
theorem v_X12_readCrop : VE MYT dflT E_X12_readCrop := ⟨⟨⟨⟨⟨dX12_readCrop_0, rfl⟩, rfl⟩, ⟨⟨dX12_readCrop_1, rfl⟩, Or.inr ⟨by decide, ⟨_, my_115, sX12_133⟩, fun q => absurd q (by decide)⟩⟩, ⟨⟨dX12_readCrop_4, rfl⟩, rfl⟩, ⟨⟨dX12_readCrop_5, rfl⟩, Or.inr ⟨rfl, rfl, _, rfl, rfl, rfl⟩⟩, ⟨⟨dX12_readCrop_7, rfl⟩, Or.inr ⟨by decide, ⟨_, my_118, sX12_136⟩, fun q => absurd q (by decide)⟩⟩, ⟨⟨dX12_readCrop_10, rfl⟩, rfl⟩, ⟨⟨dX12_readCrop_13, rfl⟩, rfl⟩, ⟨⟨dX12_readCrop_14, rfl⟩, rfl⟩, ⟨⟨dX12_readCrop_17, rfl⟩, rfl⟩, ⟨⟨dX12_readCrop_18, rfl⟩, Or.inr ⟨rfl, rfl, _, rfl, rfl, rfl⟩⟩, ⟨⟨dX12_readCrop_20, rfl⟩, Or.inr ⟨by decide, ⟨_, my_118, sX12_136⟩, fun q => absurd q (by decide)⟩⟩, ⟨⟨dX12_readCrop_23, rfl⟩, rfl⟩, ⟨⟨dX12_readCrop_26, rfl⟩, rfl⟩, ⟨⟨dX12_readCrop_27, rfl⟩, rfl⟩, ⟨⟨dX12_readCrop_30, rfl⟩, rfl⟩, ⟨⟨dX12_readCrop_31, rfl⟩, Or.inr ⟨rfl, rfl, _, rfl, rfl, rfl⟩⟩, ⟨⟨dX12_readCrop_33, rfl⟩, Or.inr ⟨by decide, ⟨_, my_118, sX12_136⟩, fun q => absurd q (by decide)⟩⟩, ⟨⟨dX12_readCrop_36, rfl⟩, rfl⟩, ⟨⟨dX12_readCrop_39, rfl⟩, rfl⟩, ⟨⟨dX12_readCrop_40, rfl⟩, rfl⟩, ⟨⟨dX12_readCrop_43, rfl⟩, rfl⟩, ⟨⟨dX12_readCrop_44, rfl⟩, Or.inr ⟨rfl, rfl, _, rfl, rfl, rfl⟩⟩, ⟨⟨dX12_readCrop_46, rfl⟩, Or.inr ⟨by decide, ⟨_, my_118, sX12_136⟩, fun q => absurd q (by decide)⟩⟩, ⟨⟨dX12_readCrop_49, rfl⟩, rfl⟩, trivial⟩,
  ⟨⟨⟨dX12_readCrop_52, rfl⟩, rfl⟩, ⟨⟨dX12_readCrop_53, rfl⟩, rfl⟩, ⟨⟨dX12_readCrop_56, rfl⟩, rfl⟩, ⟨⟨dX12_readCrop_57, rfl⟩, Or.inr ⟨rfl, rfl, _, rfl, rfl, rfl⟩⟩, ⟨⟨dX12_readCrop_59, rfl⟩, Or.inr ⟨by decide, ⟨_, my_118, sX12_136⟩, fun q => absurd q (by decide)⟩⟩, ⟨⟨dX12_readCrop_62, rfl⟩, rfl⟩, ⟨⟨dX12_readCrop_65, rfl⟩, rfl⟩, ⟨⟨dX12_readCrop_66, rfl⟩, rfl⟩, ⟨⟨dX12_readCrop_69, rfl⟩, rfl⟩, ⟨⟨dX12_readCrop_70, rfl⟩, Or.inl ⟨rfl, rfl⟩⟩, trivial⟩, trivial⟩, by decide, Or.inl ⟨rfl, by decide, rfl⟩⟩
set_option maxRecDepth 100000 in
theorem g_X12_readCrop_0 (S : sT) (call : cT) (n : Nat) (a0 : Nat) (h : pH) : bd S call dflT E_X12_readCrop (n + 1) 0 [some (.ref a0)] [] h = (rC h (.ref a0) 15 (cU (call 115 [.ref a0] h) (fun h1 => rC h1 (.ref a0) 15 (cI (call 118 [.ref a0, .retAddr 121] h1) (fun y3 h2 => (if y3 = 0 then rC h2 (.ref a0) 15 (cI (call 118 [.ref a0, .retAddr 122] h2) (fun y5 h4 => (if y5 = 0 then rC h4 (.ref a0) 15 (cI (call 118 [.ref a0, .retAddr 123] h4) (fun y7 h6 => (if y7 = 0 then rC h6 (.ref a0) 15 (cI (call 118 [.ref a0, .retAddr 124] h6) (fun y9 h8 => (if y9 = 0 then rC h8 (.ref a0) 15 (cI (call 118 [.ref a0, .retAddr 125] h8) (fun y11 h10 => (if y11 = 0 then some (.inl (some (.int (-1))), h10) else some (.inl (some (.int 5)), h10)))) else some (.inl (some (.int 4)), h8)))) else some (.inl (some (.int 3)), h6)))) else some (.inl (some (.int 2)), h4)))) else some (.inl (some (.int 1)), h2))))))) := rfl
theorem dX12_readThing_0 : decode cX12_readThing 0 = .ok (.aload_n 0, 1) := by decide +kernel
theorem dX12_readThing_1 : decode cX12_readThing 1 = .ok (.invokevirtual 133, 3) := by decide +kernel
theorem dX12_readThing_4 : decode cX12_readThing 4 = .ok (.aload_n 0, 1) := by decide +kernel
theorem dX12_readThing_5 : decode cX12_readThing 5 = .ok (.ldc 212, 2) := by decide +kernel
theorem dX12_readThing_7 : decode cX12_readThing 7 = .ok (.invokevirtual 136, 3) := by decide +kernel
theorem dX12_readThing_10 : decode cX12_readThing 10 = .ok (.ifCond .eq 7, 3) := by decide +kernel
theorem dX12_readThing_13 : decode cX12_readThing 13 = .ok (.iconst 0, 1) := by decide +kernel
theorem dX12_readThing_14 : decode cX12_readThing 14 = .ok (.goto 56, 3) := by decide +kernel
theorem dX12_readThing_17 : decode cX12_readThing 17 = .ok (.aload_n 0, 1) := by decide +kernel
theorem dX12_readThing_18 : decode cX12_readThing 18 = .ok (.ldc 214, 2) := by decide +kernel
theorem dX12_readThing_20 : decode cX12_readThing 20 = .ok (.invokevirtual 136, 3) := by decide +kernel
theorem dX12_readThing_23 : decode cX12_readThing 23 = .ok (.ifCond .eq 7, 3) := by decide +kernel
theorem dX12_readThing_26 : decode cX12_readThing 26 = .ok (.iconst 1, 1) := by decide +kernel
theorem dX12_readThing_27 : decode cX12_readThing 27 = .ok (.goto 43, 3) := by decide +kernel
theorem dX12_readThing_30 : decode cX12_readThing 30 = .ok (.aload_n 0, 1) := by decide +kernel
theorem dX12_readThing_31 : decode cX12_readThing 31 = .ok (.ldc 216, 2) := by decide +kernel
theorem dX12_readThing_33 : decode cX12_readThing 33 = .ok (.invokevirtual 136, 3) := by decide +kernel
theorem dX12_readThing_36 : decode cX12_readThing 36 = .ok (.ifCond .eq 7, 3) := by decide +kernel
theorem dX12_readThing_39 : decode cX12_readThing 39 = .ok (.iconst 2, 1) := by decide +kernel
theorem dX12_readThing_40 : decode cX12_readThing 40 = .ok (.goto 30, 3) := by decide +kernel
theorem dX12_readThing_43 : decode cX12_readThing 43 = .ok (.aload_n 0, 1) := by decide +kernel
theorem dX12_readThing_44 : decode cX12_readThing 44 = .ok (.ldc 218, 2) := by decide +kernel
theorem dX12_readThing_46 : decode cX12_readThing 46 = .ok (.invokevirtual 136, 3) := by decide +kernel
theorem dX12_readThing_49 : decode cX12_readThing 49 = .ok (.ifCond .eq 7, 3) := by decide +kernel
theorem dX12_readThing_52 : decode cX12_readThing 52 = .ok (.iconst 3, 1) := by decide +kernel
theorem dX12_readThing_53 : decode cX12_readThing 53 = .ok (.goto 17, 3) := by decide +kernel
theorem dX12_readThing_56 : decode cX12_readThing 56 = .ok (.aload_n 0, 1) := by decide +kernel
theorem dX12_readThing_57 : decode cX12_readThing 57 = .ok (.ldc 220, 2) := by decide +kernel
theorem dX12_readThing_59 : decode cX12_readThing 59 = .ok (.invokevirtual 136, 3) := by decide +kernel
theorem dX12_readThing_62 : decode cX12_readThing 62 = .ok (.ifCond .eq 7, 3) := by decide +kernel
theorem dX12_readThing_65 : decode cX12_readThing 65 = .ok (.iconst 4, 1) := by decide +kernel
theorem dX12_readThing_66 : decode cX12_readThing 66 = .ok (.goto 4, 3) := by decide +kernel
theorem dX12_readThing_69 : decode cX12_readThing 69 = .ok (.iconst (-1), 1) := by decide +kernel
theorem dX12_readThing_70 : decode cX12_readThing 70 = .ok (.istore_n 2, 1) := by decide +kernel
theorem dX12_readThing_71 : decode cX12_readThing 71 = .ok (.iload_n 2, 1) := by decide +kernel
theorem dX12_readThing_72 : decode cX12_readThing 72 = .ok (.iconst 1, 1) := by decide +kernel
theorem dX12_readThing_73 : decode cX12_readThing 73 = .ok (.if_icmp .le 11, 3) := by decide +kernel
theorem dX12_readThing_76 : decode cX12_readThing 76 = .ok (.iload_n 1, 1) := by decide +kernel
theorem dX12_readThing_77 : decode cX12_readThing 77 = .ok (.ifCond .ne 7, 3) := by decide +kernel
theorem dX12_readThing_80 : decode cX12_readThing 80 = .ok (.iconst (-1), 1) := by decide +kernel
theorem dX12_readThing_81 : decode cX12_readThing 81 = .ok (.goto 4, 3) := by decide +kernel
theorem dX12_readThing_84 : decode cX12_readThing 84 = .ok (.iload_n 2, 1) := by decide +kernel
theorem dX12_readThing_85 : decode cX12_readThing 85 = .ok (.ireturn, 1) := by decide +kernel
noncomputable def E_X12_readThing : mE := (mX12_readThing, [(49, [(0, (.aload_n 0, 1, false, false, 0, 0, 0, 0, 0, 0, [])), (1, (.invokevirtual 133, 4, false, false, 115, 0, 0, 15, 0, 0, [])), (4, (.aload_n 0, 5, false, false, 0, 0, 0, 0, 0, 0, [])), (5, (.ldc 212, 7, false, false, 127, 27, 1, 0, 0, 0, [])), (7, (.invokevirtual 136, 10, false, false, 118, 1, 1, 15, 0, 0, [])), (10, (.ifCond .eq 7, 13, false, false, 17, 0, 0, 0, 0, 0, [])), (13, (.iconst 0, 14, false, false, 0, 0, 0, 0, 0, 0, [])), (14, (.goto 56, 17, false, false, 70, 0, 0, 0, 0, 0, [])), (17, (.aload_n 0, 18, false, false, 0, 0, 0, 0, 0, 0, [])), (18, (.ldc 214, 20, false, false, 128, 28, 1, 0, 0, 0, [])), (20, (.invokevirtual 136, 23, false, false, 118, 1, 1, 15, 0, 0, [])), (23, (.ifCond .eq 7, 26, false, false, 30, 0, 0, 0, 0, 0, [])), (26, (.iconst 1, 27, false, false, 0, 0, 0, 0, 1, 0, [])), (27, (.goto 43, 30, false, false, 70, 0, 0, 0, 0, 0, [])), (30, (.aload_n 0, 31, false, false, 0, 0, 0, 0, 0, 0, [])), (31, (.ldc 216, 33, false, false, 129, 29, 1, 0, 0, 0, [])), (33, (.invokevirtual 136, 36, false, false, 118, 1, 1, 15, 0, 0, [])), (36, (.ifCond .eq 7, 39, false, false, 43, 0, 0, 0, 0, 0, [])), (39, (.iconst 2, 40, false, false, 0, 0, 0, 0, 2, 0, [])), (40, (.goto 30, 43, false, false, 70, 0, 0, 0, 0, 0, [])), (43, (.aload_n 0, 44, false, false, 0, 0, 0, 0, 0, 0, [])), (44, (.ldc 218, 46, false, false, 130, 30, 1, 0, 0, 0, [])), (46, (.invokevirtual 136, 49, false, false, 118, 1, 1, 15, 0, 0, [])), (49, (.ifCond .eq 7, 52, false, false, 56, 0, 0, 0, 0, 0, []))]),
  (85, [(52, (.iconst 3, 53, false, false, 0, 0, 0, 0, 3, 0, [])), (53, (.goto 17, 56, false, false, 70, 0, 0, 0, 0, 0, [])), (56, (.aload_n 0, 57, false, false, 0, 0, 0, 0, 0, 0, [])), (57, (.ldc 220, 59, false, false, 131, 31, 1, 0, 0, 0, [])), (59, (.invokevirtual 136, 62, false, false, 118, 1, 1, 15, 0, 0, [])), (62, (.ifCond .eq 7, 65, false, false, 69, 0, 0, 0, 0, 0, [])), (65, (.iconst 4, 66, false, false, 0, 0, 0, 0, 4, 0, [])), (66, (.goto 4, 69, false, false, 70, 0, 0, 0, 0, 0, [])), (69, (.iconst (-1), 70, false, false, 0, 0, 0, 0, -1, 0, [])), (70, (.istore_n 2, 71, false, false, 2, 0, 0, 0, 0, 0, [])), (71, (.iload_n 2, 72, false, false, 2, 0, 0, 0, 0, 0, [])), (72, (.iconst 1, 73, false, false, 0, 0, 0, 0, 1, 0, [])), (73, (.if_icmp .le 11, 76, false, false, 84, 0, 0, 0, 0, 0, [])), (76, (.iload_n 1, 77, false, false, 1, 0, 0, 0, 0, 0, [])), (77, (.ifCond .ne 7, 80, false, false, 84, 0, 0, 0, 0, 0, [])), (80, (.iconst (-1), 81, false, false, 0, 0, 0, 0, -1, 0, [])), (81, (.goto 4, 84, false, false, 85, 0, 0, 0, 0, 0, [])), (84, (.iload_n 2, 85, false, false, 2, 0, 0, 0, 0, 0, [])), (85, (.ireturn, 86, false, false, 0, 0, 0, 0, 0, 0, []))])], 0, [])
set_option maxRecDepth 100000 in
theorem v_X12_readThing : VE MYT dflT E_X12_readThing := ⟨⟨⟨⟨⟨dX12_readThing_0, rfl⟩, rfl⟩, ⟨⟨dX12_readThing_1, rfl⟩, Or.inr ⟨by decide, ⟨_, my_115, sX12_133⟩, fun q => absurd q (by decide)⟩⟩, ⟨⟨dX12_readThing_4, rfl⟩, rfl⟩, ⟨⟨dX12_readThing_5, rfl⟩, Or.inr ⟨rfl, rfl, _, rfl, rfl, rfl⟩⟩, ⟨⟨dX12_readThing_7, rfl⟩, Or.inr ⟨by decide, ⟨_, my_118, sX12_136⟩, fun q => absurd q (by decide)⟩⟩, ⟨⟨dX12_readThing_10, rfl⟩, rfl⟩, ⟨⟨dX12_readThing_13, rfl⟩, rfl⟩, ⟨⟨dX12_readThing_14, rfl⟩, rfl⟩, ⟨⟨dX12_readThing_17, rfl⟩, rfl⟩, ⟨⟨dX12_readThing_18, rfl⟩, Or.inr ⟨rfl, rfl, _, rfl, rfl, rfl⟩⟩, ⟨⟨dX12_readThing_20, rfl⟩, Or.inr ⟨by decide, ⟨_, my_118, sX12_136⟩, fun q => absurd q (by decide)⟩⟩, ⟨⟨dX12_readThing_23, rfl⟩, rfl⟩, ⟨⟨dX12_readThing_26, rfl⟩, rfl⟩, ⟨⟨dX12_readThing_27, rfl⟩, rfl⟩, ⟨⟨dX12_readThing_30, rfl⟩, rfl⟩, ⟨⟨dX12_readThing_31, rfl⟩, Or.inr ⟨rfl, rfl, _, rfl, rfl, rfl⟩⟩, ⟨⟨dX12_readThing_33, rfl⟩, Or.inr ⟨by decide, ⟨_, my_118, sX12_136⟩, fun q => absurd q (by decide)⟩⟩, ⟨⟨dX12_readThing_36, rfl⟩, rfl⟩, ⟨⟨dX12_readThing_39, rfl⟩, rfl⟩, ⟨⟨dX12_readThing_40, rfl⟩, rfl⟩, ⟨⟨dX12_readThing_43, rfl⟩, rfl⟩, ⟨⟨dX12_readThing_44, rfl⟩, Or.inr ⟨rfl, rfl, _, rfl, rfl, rfl⟩⟩, ⟨⟨dX12_readThing_46, rfl⟩, Or.inr ⟨by decide, ⟨_, my_118, sX12_136⟩, fun q => absurd q (by decide)⟩⟩, ⟨⟨dX12_readThing_49, rfl⟩, rfl⟩, trivial⟩,
  ⟨⟨⟨dX12_readThing_52, rfl⟩, rfl⟩, ⟨⟨dX12_readThing_53, rfl⟩, rfl⟩, ⟨⟨dX12_readThing_56, rfl⟩, rfl⟩, ⟨⟨dX12_readThing_57, rfl⟩, Or.inr ⟨rfl, rfl, _, rfl, rfl, rfl⟩⟩, ⟨⟨dX12_readThing_59, rfl⟩, Or.inr ⟨by decide, ⟨_, my_118, sX12_136⟩, fun q => absurd q (by decide)⟩⟩, ⟨⟨dX12_readThing_62, rfl⟩, rfl⟩, ⟨⟨dX12_readThing_65, rfl⟩, rfl⟩, ⟨⟨dX12_readThing_66, rfl⟩, rfl⟩, ⟨⟨dX12_readThing_69, rfl⟩, rfl⟩, ⟨⟨dX12_readThing_70, rfl⟩, rfl⟩, ⟨⟨dX12_readThing_71, rfl⟩, rfl⟩, ⟨⟨dX12_readThing_72, rfl⟩, rfl⟩, ⟨⟨dX12_readThing_73, rfl⟩, rfl⟩, ⟨⟨dX12_readThing_76, rfl⟩, rfl⟩, ⟨⟨dX12_readThing_77, rfl⟩, rfl⟩, ⟨⟨dX12_readThing_80, rfl⟩, rfl⟩, ⟨⟨dX12_readThing_81, rfl⟩, rfl⟩, ⟨⟨dX12_readThing_84, rfl⟩, rfl⟩, ⟨⟨dX12_readThing_85, rfl⟩, Or.inl ⟨rfl, rfl⟩⟩, trivial⟩, trivial⟩, by decide, Or.inl ⟨rfl, by decide, rfl⟩⟩
set_option maxRecDepth 100000 in
theorem g_X12_readThing_0 (S : sT) (call : cT) (n : Nat) (a0 : Nat) (x1 : Int32) (h : pH) : bd S call dflT E_X12_readThing (n + 1) 0 [some (.ref a0), some (.int x1), none] [] h = (rC h (.ref a0) 15 (cU (call 115 [.ref a0] h) (fun h1 => rC h1 (.ref a0) 15 (cI (call 118 [.ref a0, .retAddr 127] h1) (fun y3 h2 => (if y3 = 0 then rC h2 (.ref a0) 15 (cI (call 118 [.ref a0, .retAddr 128] h2) (fun y5 h4 => (if y5 = 0 then rC h4 (.ref a0) 15 (cI (call 118 [.ref a0, .retAddr 129] h4) (fun y7 h6 => (if y7 = 0 then rC h6 (.ref a0) 15 (cI (call 118 [.ref a0, .retAddr 130] h6) (fun y9 h8 => (if y9 = 0 then rC h8 (.ref a0) 15 (cI (call 118 [.ref a0, .retAddr 131] h8) (fun y11 h10 => (if y11 = 0 then (if (-1 : Int32) ≤ 1 then some (.inl (some (.int (-1))), h10) else (if x1 = 0 then some (.inl (some (.int (-1))), h10) else some (.inl (some (.int (-1))), h10))) else (if (4 : Int32) ≤ 1 then some (.inl (some (.int 4)), h10) else (if x1 = 0 then some (.inl (some (.int (-1))), h10) else some (.inl (some (.int 4)), h10)))))) else (if (3 : Int32) ≤ 1 then some (.inl (some (.int 3)), h8) else (if x1 = 0 then some (.inl (some (.int (-1))), h8) else some (.inl (some (.int 3)), h8)))))) else (if (2 : Int32) ≤ 1 then some (.inl (some (.int 2)), h6) else (if x1 = 0 then some (.inl (some (.int (-1))), h6) else some (.inl (some (.int 2)), h6)))))) else (if (1 : Int32) ≤ 1 then some (.inl (some (.int 1)), h4) else (if x1 = 0 then some (.inl (some (.int (-1))), h4) else some (.inl (some (.int 1)), h4)))))) else (if (0 : Int32) ≤ 1 then some (.inl (some (.int 0)), h2) else (if x1 = 0 then some (.inl (some (.int (-1))), h2) else some (.inl (some (.int 0)), h2))))))))) := rfl
theorem dX12_passes_0 : decode cX12_passes 0 = .ok (.aload_n 0, 1) := by decide +kernel
theorem dX12_passes_1 : decode cX12_passes 1 = .ok (.invokevirtual 133, 3) := by decide +kernel
theorem dX12_passes_4 : decode cX12_passes 4 = .ok (.aload_n 0, 1) := by decide +kernel
theorem dX12_passes_5 : decode cX12_passes 5 = .ok (.aload_n 1, 1) := by decide +kernel
theorem dX12_passes_6 : decode cX12_passes 6 = .ok (.invokevirtual 136, 3) := by decide +kernel
theorem dX12_passes_9 : decode cX12_passes 9 = .ok (.ifCond .eq 5, 3) := by decide +kernel
theorem dX12_passes_12 : decode cX12_passes 12 = .ok (.iconst 1, 1) := by decide +kernel
theorem dX12_passes_13 : decode cX12_passes 13 = .ok (.ireturn, 1) := by decide +kernel
theorem dX12_passes_14 : decode cX12_passes 14 = .ok (.aload_n 0, 1) := by decide +kernel
theorem dX12_passes_15 : decode cX12_passes 15 = .ok (.aload_n 0, 1) := by decide +kernel
theorem dX12_passes_16 : decode cX12_passes 16 = .ok (.getfield 118, 3) := by decide +kernel
theorem dX12_passes_19 : decode cX12_passes 19 = .ok (.putfield 108, 3) := by decide +kernel
theorem dX12_passes_22 : decode cX12_passes 22 = .ok (.iconst 0, 1) := by decide +kernel
theorem dX12_passes_23 : decode cX12_passes 23 = .ok (.ireturn, 1) := by decide +kernel
noncomputable def E_X12_passes : mE := (mX12_passes, [(23, [(0, (.aload_n 0, 1, false, false, 0, 0, 0, 0, 0, 0, [])), (1, (.invokevirtual 133, 4, false, false, 115, 0, 0, 15, 0, 0, [])), (4, (.aload_n 0, 5, false, false, 0, 0, 0, 0, 0, 0, [])), (5, (.aload_n 1, 6, false, false, 1, 0, 0, 0, 0, 0, [])), (6, (.invokevirtual 136, 9, false, false, 118, 1, 1, 15, 0, 0, [])), (9, (.ifCond .eq 5, 12, false, false, 14, 0, 0, 0, 0, 0, [])), (12, (.iconst 1, 13, false, false, 0, 0, 0, 0, 1, 0, [])), (13, (.ireturn, 14, false, false, 0, 0, 1, 0, 0, 0, [])), (14, (.aload_n 0, 15, false, false, 0, 0, 0, 0, 0, 0, [])), (15, (.aload_n 0, 16, false, false, 0, 0, 0, 0, 0, 0, [])), (16, (.getfield 118, 19, false, false, 15, 8, 0, 0, 0, 0, [])), (19, (.putfield 108, 22, false, false, 15, 6, 0, 0, 0, 0, [])), (22, (.iconst 0, 23, false, false, 0, 0, 0, 0, 0, 0, [])), (23, (.ireturn, 24, false, false, 0, 0, 1, 0, 0, 0, []))])], 0, [])
set_option maxRecDepth 100000 in
theorem v_X12_passes : VE MYT dflT E_X12_passes := ⟨⟨⟨⟨⟨dX12_passes_0, rfl⟩, rfl⟩, ⟨⟨dX12_passes_1, rfl⟩, Or.inr ⟨by decide, ⟨_, my_115, sX12_133⟩, fun q => absurd q (by decide)⟩⟩, ⟨⟨dX12_passes_4, rfl⟩, rfl⟩, ⟨⟨dX12_passes_5, rfl⟩, rfl⟩, ⟨⟨dX12_passes_6, rfl⟩, Or.inr ⟨by decide, ⟨_, my_118, sX12_136⟩, fun q => absurd q (by decide)⟩⟩, ⟨⟨dX12_passes_9, rfl⟩, rfl⟩, ⟨⟨dX12_passes_12, rfl⟩, rfl⟩, ⟨⟨dX12_passes_13, rfl⟩, Or.inr (Or.inl ⟨rfl, rfl⟩)⟩, ⟨⟨dX12_passes_14, rfl⟩, rfl⟩, ⟨⟨dX12_passes_15, rfl⟩, rfl⟩, ⟨⟨dX12_passes_16, rfl⟩, Or.inl ⟨by decide, _, _, fX12_118⟩⟩, ⟨⟨dX12_passes_19, rfl⟩, Or.inl ⟨rfl, fX12_108⟩⟩, ⟨⟨dX12_passes_22, rfl⟩, rfl⟩, ⟨⟨dX12_passes_23, rfl⟩, Or.inr (Or.inl ⟨rfl, rfl⟩)⟩, trivial⟩, trivial⟩, by decide, Or.inl ⟨rfl, by decide, rfl⟩⟩
set_option maxRecDepth 100000 in
theorem g_X12_passes_0 (S : sT) (call : cT) (n : Nat) (a0 : Nat) (v1 : Value) (h : pH) : bd S call dflT E_X12_passes (n + 1) 0 [some (.ref a0), some (v1)] [] h = (rC h (.ref a0) 15 (cU (call 115 [.ref a0] h) (fun h1 => iA v1 (rC h1 (.ref a0) 15 (cI (call 118 [.ref a0, v1] h1) (fun y3 h2 => (if y3 = 0 then gI h2 (.ref a0) 15 8 (fun y4 => pF h2 (.ref a0) 15 6 (.int y4) (fun h5 => zR 0 (some (.inl (some (.int 0)), h5)))) else zR 1 (some (.inl (some (.int 1)), h2))))))))) := rfl
theorem dX12_sign_0 : decode cX12_sign 0 = .ok (.aload_n 0, 1) := by decide +kernel
theorem dX12_sign_1 : decode cX12_sign 1 = .ok (.invokevirtual 121, 3) := by decide +kernel
theorem dX12_sign_4 : decode cX12_sign 4 = .ok (.aload_n 0, 1) := by decide +kernel
theorem dX12_sign_5 : decode cX12_sign 5 = .ok (.iload_n 1, 1) := by decide +kernel
theorem dX12_sign_6 : decode cX12_sign 6 = .ok (.iload_n 1, 1) := by decide +kernel
theorem dX12_sign_7 : decode cX12_sign 7 = .ok (.invokevirtual 114, 3) := by decide +kernel
theorem dX12_sign_10 : decode cX12_sign 10 = .ok (.ifCond .ne 5, 3) := by decide +kernel
theorem dX12_sign_13 : decode cX12_sign 13 = .ok (.iconst 0, 1) := by decide +kernel
theorem dX12_sign_14 : decode cX12_sign 14 = .ok (.ireturn, 1) := by decide +kernel
theorem dX12_sign_15 : decode cX12_sign 15 = .ok (.aload_n 0, 1) := by decide +kernel
theorem dX12_sign_16 : decode cX12_sign 16 = .ok (.dup, 1) := by decide +kernel
theorem dX12_sign_17 : decode cX12_sign 17 = .ok (.getfield 108, 3) := by decide +kernel
theorem dX12_sign_20 : decode cX12_sign 20 = .ok (.iconst 1, 1) := by decide +kernel
theorem dX12_sign_21 : decode cX12_sign 21 = .ok (.iadd, 1) := by decide +kernel
theorem dX12_sign_22 : decode cX12_sign 22 = .ok (.putfield 108, 3) := by decide +kernel
theorem dX12_sign_25 : decode cX12_sign 25 = .ok (.iconst 1, 1) := by decide +kernel
theorem dX12_sign_26 : decode cX12_sign 26 = .ok (.ireturn, 1) := by decide +kernel
noncomputable def E_X12_sign : mE := (mX12_sign, [(26, [(0, (.aload_n 0, 1, false, false, 0, 0, 0, 0, 0, 0, [])), (1, (.invokevirtual 121, 4, false, false, 114, 0, 0, 15, 0, 0, [])), (4, (.aload_n 0, 5, false, false, 0, 0, 0, 0, 0, 0, [])), (5, (.iload_n 1, 6, false, false, 1, 0, 0, 0, 0, 0, [])), (6, (.iload_n 1, 7, false, false, 1, 0, 0, 0, 0, 0, [])), (7, (.invokevirtual 114, 10, false, false, 113, 2, 1, 15, 0, 0, [])), (10, (.ifCond .ne 5, 13, false, false, 15, 0, 0, 0, 0, 0, [])), (13, (.iconst 0, 14, false, false, 0, 0, 0, 0, 0, 0, [])), (14, (.ireturn, 15, false, false, 0, 0, 1, 0, 0, 0, [])), (15, (.aload_n 0, 16, false, false, 0, 0, 0, 0, 0, 0, [])), (16, (.dup, 17, false, false, 0, 0, 0, 0, 0, 0, [])), (17, (.getfield 108, 20, false, false, 15, 6, 0, 0, 0, 0, [])), (20, (.iconst 1, 21, false, false, 0, 0, 0, 0, 1, 0, [])), (21, (.iadd, 22, false, false, 0, 0, 0, 0, 0, 0, [])), (22, (.putfield 108, 25, false, false, 15, 6, 0, 0, 0, 0, [])), (25, (.iconst 1, 26, false, false, 0, 0, 0, 0, 1, 0, [])), (26, (.ireturn, 27, false, false, 0, 0, 1, 0, 0, 0, []))])], 0, [])
set_option maxRecDepth 100000 in
theorem v_X12_sign : VE MYT dflT E_X12_sign := ⟨⟨⟨⟨⟨dX12_sign_0, rfl⟩, rfl⟩, ⟨⟨dX12_sign_1, rfl⟩, Or.inr ⟨by decide, ⟨_, my_114, sX12_121⟩, fun q => absurd q (by decide)⟩⟩, ⟨⟨dX12_sign_4, rfl⟩, rfl⟩, ⟨⟨dX12_sign_5, rfl⟩, rfl⟩, ⟨⟨dX12_sign_6, rfl⟩, rfl⟩, ⟨⟨dX12_sign_7, rfl⟩, Or.inr ⟨by decide, ⟨_, my_113, sX12_114⟩, fun q => absurd q (by decide)⟩⟩, ⟨⟨dX12_sign_10, rfl⟩, rfl⟩, ⟨⟨dX12_sign_13, rfl⟩, rfl⟩, ⟨⟨dX12_sign_14, rfl⟩, Or.inr (Or.inl ⟨rfl, rfl⟩)⟩, ⟨⟨dX12_sign_15, rfl⟩, rfl⟩, ⟨⟨dX12_sign_16, rfl⟩, trivial⟩, ⟨⟨dX12_sign_17, rfl⟩, Or.inl ⟨by decide, _, _, fX12_108⟩⟩, ⟨⟨dX12_sign_20, rfl⟩, rfl⟩, ⟨⟨dX12_sign_21, rfl⟩, trivial⟩, ⟨⟨dX12_sign_22, rfl⟩, Or.inl ⟨rfl, fX12_108⟩⟩, ⟨⟨dX12_sign_25, rfl⟩, rfl⟩, ⟨⟨dX12_sign_26, rfl⟩, Or.inr (Or.inl ⟨rfl, rfl⟩)⟩, trivial⟩, trivial⟩, by decide, Or.inl ⟨rfl, by decide, rfl⟩⟩
set_option maxRecDepth 100000 in
theorem g_X12_sign_0 (S : sT) (call : cT) (n : Nat) (a0 : Nat) (x1 : Int32) (h : pH) : bd S call dflT E_X12_sign (n + 1) 0 [some (.ref a0), some (.int x1)] [] h = (rC h (.ref a0) 15 (cU (call 114 [.ref a0] h) (fun h1 => rC h1 (.ref a0) 15 (cI (call 113 [.ref a0, .int x1, .int x1] h1) (fun y3 h2 => (if y3 = 0 then zR 0 (some (.inl (some (.int 0)), h2)) else gI h2 (.ref a0) 15 6 (fun y4 => pF h2 (.ref a0) 15 6 (.int (y4 + 1)) (fun h5 => zR 1 (some (.inl (some (.int 1)), h5)))))))))) := rfl
theorem dX12_adds_0 : decode cX12_adds 0 = .ok (.bipush 36, 2) := by decide +kernel
theorem dX12_adds_2 : decode cX12_adds 2 = .ok (.invokestatic 140, 3) := by decide +kernel
theorem dX12_adds_5 : decode cX12_adds 5 = .ok (.bipush 98, 2) := by decide +kernel
theorem dX12_adds_7 : decode cX12_adds 7 = .ok (.iadd, 1) := by decide +kernel
theorem dX12_adds_8 : decode cX12_adds 8 = .ok (.iconst 2, 1) := by decide +kernel
theorem dX12_adds_9 : decode cX12_adds 9 = .ok (.aload_n 0, 1) := by decide +kernel
theorem dX12_adds_10 : decode cX12_adds 10 = .ok (.getfield 143, 3) := by decide +kernel
theorem dX12_adds_13 : decode cX12_adds 13 = .ok (.imul, 1) := by decide +kernel
theorem dX12_adds_14 : decode cX12_adds 14 = .ok (.iadd, 1) := by decide +kernel
theorem dX12_adds_15 : decode cX12_adds 15 = .ok (.istore_n 3, 1) := by decide +kernel
theorem dX12_adds_16 : decode cX12_adds 16 = .ok (.aload_n 0, 1) := by decide +kernel
theorem dX12_adds_17 : decode cX12_adds 17 = .ok (.getfield 27, 3) := by decide +kernel
theorem dX12_adds_20 : decode cX12_adds 20 = .ok (.iload_n 3, 1) := by decide +kernel
theorem dX12_adds_21 : decode cX12_adds 21 = .ok (.iload_n 1, 1) := by decide +kernel
theorem dX12_adds_22 : decode cX12_adds 22 = .ok (.iastore, 1) := by decide +kernel
theorem dX12_adds_23 : decode cX12_adds 23 = .ok (.aload_n 0, 1) := by decide +kernel
theorem dX12_adds_24 : decode cX12_adds 24 = .ok (.getfield 27, 3) := by decide +kernel
theorem dX12_adds_27 : decode cX12_adds 27 = .ok (.iload_n 3, 1) := by decide +kernel
theorem dX12_adds_28 : decode cX12_adds 28 = .ok (.iconst 1, 1) := by decide +kernel
theorem dX12_adds_29 : decode cX12_adds 29 = .ok (.iadd, 1) := by decide +kernel
theorem dX12_adds_30 : decode cX12_adds 30 = .ok (.iload_n 2, 1) := by decide +kernel
theorem dX12_adds_31 : decode cX12_adds 31 = .ok (.iastore, 1) := by decide +kernel
theorem dX12_adds_32 : decode cX12_adds 32 = .ok (.aload_n 0, 1) := by decide +kernel
theorem dX12_adds_33 : decode cX12_adds 33 = .ok (.dup, 1) := by decide +kernel
theorem dX12_adds_34 : decode cX12_adds 34 = .ok (.getfield 143, 3) := by decide +kernel
theorem dX12_adds_37 : decode cX12_adds 37 = .ok (.iconst 1, 1) := by decide +kernel
theorem dX12_adds_38 : decode cX12_adds 38 = .ok (.iadd, 1) := by decide +kernel
theorem dX12_adds_39 : decode cX12_adds 39 = .ok (.putfield 143, 3) := by decide +kernel
theorem dX12_adds_42 : decode cX12_adds 42 = .ok (.return_, 1) := by decide +kernel
noncomputable def E_X12_adds : mE := (mX12_adds, [(33, [(0, (.bipush 36, 2, false, false, 0, 0, 0, 0, 36, 0, [])), (2, (.invokestatic 140, 5, false, false, 116, 1, 1, 0, 0, 0, [])), (5, (.bipush 98, 7, false, false, 0, 0, 0, 0, 98, 0, [])), (7, (.iadd, 8, false, false, 0, 0, 0, 0, 0, 0, [])), (8, (.iconst 2, 9, false, false, 0, 0, 0, 0, 2, 0, [])), (9, (.aload_n 0, 10, false, false, 0, 0, 0, 0, 0, 0, [])), (10, (.getfield 143, 13, false, false, 15, 12, 0, 0, 0, 0, [])), (13, (.imul, 14, false, false, 0, 0, 0, 0, 0, 0, [])), (14, (.iadd, 15, false, false, 0, 0, 0, 0, 0, 0, [])), (15, (.istore_n 3, 16, false, false, 3, 0, 0, 0, 0, 0, [])), (16, (.aload_n 0, 17, false, false, 0, 0, 0, 0, 0, 0, [])), (17, (.getfield 27, 20, false, false, 15, 1, 1, 0, 0, 0, [])), (20, (.iload_n 3, 21, false, false, 3, 0, 0, 0, 0, 0, [])), (21, (.iload_n 1, 22, false, false, 1, 0, 0, 0, 0, 0, [])), (22, (.iastore, 23, false, false, 0, 0, 0, 0, 0, 0, [])), (23, (.aload_n 0, 24, false, false, 0, 0, 0, 0, 0, 0, [])), (24, (.getfield 27, 27, false, false, 15, 1, 1, 0, 0, 0, [])), (27, (.iload_n 3, 28, false, false, 3, 0, 0, 0, 0, 0, [])), (28, (.iconst 1, 29, false, false, 0, 0, 0, 0, 1, 0, [])), (29, (.iadd, 30, false, false, 0, 0, 0, 0, 0, 0, [])), (30, (.iload_n 2, 31, false, false, 2, 0, 0, 0, 0, 0, [])), (31, (.iastore, 32, false, false, 0, 0, 0, 0, 0, 0, [])), (32, (.aload_n 0, 33, false, false, 0, 0, 0, 0, 0, 0, [])), (33, (.dup, 34, false, false, 0, 0, 0, 0, 0, 0, []))]),
  (42, [(34, (.getfield 143, 37, false, false, 15, 12, 0, 0, 0, 0, [])), (37, (.iconst 1, 38, false, false, 0, 0, 0, 0, 1, 0, [])), (38, (.iadd, 39, false, false, 0, 0, 0, 0, 0, 0, [])), (39, (.putfield 143, 42, false, false, 15, 12, 0, 0, 0, 0, [])), (42, (.return_, 43, false, false, 0, 0, 0, 0, 0, 0, []))])], 0, [])
set_option maxRecDepth 100000 in
theorem v_X12_adds : VE MYT dflT E_X12_adds := ⟨⟨⟨⟨⟨dX12_adds_0, rfl⟩, rfl⟩, ⟨⟨dX12_adds_2, rfl⟩, Or.inl ⟨rfl, _, my_116, sX12_140⟩⟩, ⟨⟨dX12_adds_5, rfl⟩, rfl⟩, ⟨⟨dX12_adds_7, rfl⟩, trivial⟩, ⟨⟨dX12_adds_8, rfl⟩, rfl⟩, ⟨⟨dX12_adds_9, rfl⟩, rfl⟩, ⟨⟨dX12_adds_10, rfl⟩, Or.inl ⟨by decide, _, _, fX12_143⟩⟩, ⟨⟨dX12_adds_13, rfl⟩, trivial⟩, ⟨⟨dX12_adds_14, rfl⟩, trivial⟩, ⟨⟨dX12_adds_15, rfl⟩, rfl⟩, ⟨⟨dX12_adds_16, rfl⟩, rfl⟩, ⟨⟨dX12_adds_17, rfl⟩, Or.inl ⟨by decide, _, _, fX12_27⟩⟩, ⟨⟨dX12_adds_20, rfl⟩, rfl⟩, ⟨⟨dX12_adds_21, rfl⟩, rfl⟩, ⟨⟨dX12_adds_22, rfl⟩, trivial⟩, ⟨⟨dX12_adds_23, rfl⟩, rfl⟩, ⟨⟨dX12_adds_24, rfl⟩, Or.inl ⟨by decide, _, _, fX12_27⟩⟩, ⟨⟨dX12_adds_27, rfl⟩, rfl⟩, ⟨⟨dX12_adds_28, rfl⟩, rfl⟩, ⟨⟨dX12_adds_29, rfl⟩, trivial⟩, ⟨⟨dX12_adds_30, rfl⟩, rfl⟩, ⟨⟨dX12_adds_31, rfl⟩, trivial⟩, ⟨⟨dX12_adds_32, rfl⟩, rfl⟩, ⟨⟨dX12_adds_33, rfl⟩, trivial⟩, trivial⟩,
  ⟨⟨⟨dX12_adds_34, rfl⟩, Or.inl ⟨by decide, _, _, fX12_143⟩⟩, ⟨⟨dX12_adds_37, rfl⟩, rfl⟩, ⟨⟨dX12_adds_38, rfl⟩, trivial⟩, ⟨⟨dX12_adds_39, rfl⟩, Or.inl ⟨rfl, fX12_143⟩⟩, ⟨⟨dX12_adds_42, rfl⟩, rfl⟩, trivial⟩, trivial⟩, by decide, Or.inl ⟨rfl, by decide, rfl⟩⟩
set_option maxRecDepth 100000 in
theorem g_X12_adds_0 (S : sT) (call : cT) (n : Nat) (a0 : Nat) (x1 : Int32) (x2 : Int32) (h : pH) : bd S call dflT E_X12_adds (n + 1) 0 [some (.ref a0), some (.int x1), some (.int x2), none] [] h = (cI (call 116 [.int 36] h) (fun y2 h1 => gI h1 (.ref a0) 15 12 (fun y3 => gV h1 (.ref a0) 15 1 (fun w4 => sI h1 w4 0 ((y2 + 98) + (2 * y3)) x1 (fun h5 => gV h5 (.ref a0) 15 1 (fun w6 => sI h5 w6 0 (((y2 + 98) + (2 * y3)) + 1) x2 (fun h7 => gI h7 (.ref a0) 15 12 (fun y8 => pF h7 (.ref a0) 15 12 (.int (y8 + 1)) (fun h9 => some (.inl none, h9)))))))))) := rfl
theorem dX12_fact_0 : decode cX12_fact 0 = .ok (.iload_n 0, 1) := by decide +kernel
theorem dX12_fact_1 : decode cX12_fact 1 = .ok (.tableswitch 85 0 9 #[55, 58, 61, 64, 67, 70, 73, 76, 79, 82], 55) := by decide +kernel
theorem dX12_fact_56 : decode cX12_fact 56 = .ok (.ldc 146, 2) := by decide +kernel
theorem dX12_fact_58 : decode cX12_fact 58 = .ok (.areturn, 1) := by decide +kernel
theorem dX12_fact_59 : decode cX12_fact 59 = .ok (.ldc 147, 2) := by decide +kernel
theorem dX12_fact_61 : decode cX12_fact 61 = .ok (.areturn, 1) := by decide +kernel
theorem dX12_fact_62 : decode cX12_fact 62 = .ok (.ldc 149, 2) := by decide +kernel
theorem dX12_fact_64 : decode cX12_fact 64 = .ok (.areturn, 1) := by decide +kernel
theorem dX12_fact_65 : decode cX12_fact 65 = .ok (.ldc 151, 2) := by decide +kernel
theorem dX12_fact_67 : decode cX12_fact 67 = .ok (.areturn, 1) := by decide +kernel
theorem dX12_fact_68 : decode cX12_fact 68 = .ok (.ldc 153, 2) := by decide +kernel
theorem dX12_fact_70 : decode cX12_fact 70 = .ok (.areturn, 1) := by decide +kernel
theorem dX12_fact_71 : decode cX12_fact 71 = .ok (.ldc 155, 2) := by decide +kernel
theorem dX12_fact_73 : decode cX12_fact 73 = .ok (.areturn, 1) := by decide +kernel
theorem dX12_fact_74 : decode cX12_fact 74 = .ok (.ldc 157, 2) := by decide +kernel
theorem dX12_fact_76 : decode cX12_fact 76 = .ok (.areturn, 1) := by decide +kernel
theorem dX12_fact_77 : decode cX12_fact 77 = .ok (.ldc 159, 2) := by decide +kernel
theorem dX12_fact_79 : decode cX12_fact 79 = .ok (.areturn, 1) := by decide +kernel
theorem dX12_fact_80 : decode cX12_fact 80 = .ok (.ldc 161, 2) := by decide +kernel
theorem dX12_fact_82 : decode cX12_fact 82 = .ok (.areturn, 1) := by decide +kernel
theorem dX12_fact_83 : decode cX12_fact 83 = .ok (.ldc 163, 2) := by decide +kernel
theorem dX12_fact_85 : decode cX12_fact 85 = .ok (.areturn, 1) := by decide +kernel
theorem dX12_fact_86 : decode cX12_fact 86 = .ok (.ldc 165, 2) := by decide +kernel
theorem dX12_fact_88 : decode cX12_fact 88 = .ok (.areturn, 1) := by decide +kernel
noncomputable def E_X12_fact : mE := (mX12_fact, [(88, [(0, (.iload_n 0, 1, false, false, 0, 0, 0, 0, 0, 0, [])), (1, (.tableswitch 85 0 9 #[55, 58, 61, 64, 67, 70, 73, 76, 79, 82], 0, false, false, 86, 0, 0, 0, 0, 0, [(0, 56), (1, 59), (2, 62), (3, 65), (4, 68), (5, 71), (6, 74), (7, 77), (8, 80), (9, 83)])), (56, (.ldc 146, 58, false, false, 134, 34, 1, 0, 0, 0, [])), (58, (.areturn, 59, false, false, 0, 0, 0, 0, 0, 0, [])), (59, (.ldc 147, 61, false, false, 121, 21, 1, 0, 0, 0, [])), (61, (.areturn, 62, false, false, 0, 0, 0, 0, 0, 0, [])), (62, (.ldc 149, 64, false, false, 122, 22, 1, 0, 0, 0, [])), (64, (.areturn, 65, false, false, 0, 0, 0, 0, 0, 0, [])), (65, (.ldc 151, 67, false, false, 123, 23, 1, 0, 0, 0, [])), (67, (.areturn, 68, false, false, 0, 0, 0, 0, 0, 0, [])), (68, (.ldc 153, 70, false, false, 124, 24, 1, 0, 0, 0, [])), (70, (.areturn, 71, false, false, 0, 0, 0, 0, 0, 0, [])), (71, (.ldc 155, 73, false, false, 135, 35, 1, 0, 0, 0, [])), (73, (.areturn, 74, false, false, 0, 0, 0, 0, 0, 0, [])), (74, (.ldc 157, 76, false, false, 136, 36, 1, 0, 0, 0, [])), (76, (.areturn, 77, false, false, 0, 0, 0, 0, 0, 0, [])), (77, (.ldc 159, 79, false, false, 137, 37, 1, 0, 0, 0, [])), (79, (.areturn, 80, false, false, 0, 0, 0, 0, 0, 0, [])), (80, (.ldc 161, 82, false, false, 138, 38, 1, 0, 0, 0, [])), (82, (.areturn, 83, false, false, 0, 0, 0, 0, 0, 0, [])), (83, (.ldc 163, 85, false, false, 139, 39, 1, 0, 0, 0, [])), (85, (.areturn, 86, false, false, 0, 0, 0, 0, 0, 0, [])), (86, (.ldc 165, 88, false, false, 140, 40, 1, 0, 0, 0, [])), (88, (.areturn, 89, false, false, 0, 0, 0, 0, 0, 0, []))])], 0, [])
set_option maxRecDepth 100000 in
theorem v_X12_fact : VE MYT dflT E_X12_fact := ⟨⟨⟨⟨⟨dX12_fact_0, rfl⟩, rfl⟩, ⟨⟨_, dX12_fact_1⟩, ⟨rfl, rfl, rfl, rfl, rfl, rfl, rfl, rfl, rfl, rfl, rfl, rfl, rfl, rfl, rfl, rfl, rfl, rfl, rfl, rfl, rfl, rfl, trivial⟩⟩, ⟨⟨dX12_fact_56, rfl⟩, Or.inr ⟨rfl, rfl, _, rfl, rfl, rfl⟩⟩, ⟨⟨dX12_fact_58, rfl⟩, ⟨_, rfl⟩⟩, ⟨⟨dX12_fact_59, rfl⟩, Or.inr ⟨rfl, rfl, _, rfl, rfl, rfl⟩⟩, ⟨⟨dX12_fact_61, rfl⟩, ⟨_, rfl⟩⟩, ⟨⟨dX12_fact_62, rfl⟩, Or.inr ⟨rfl, rfl, _, rfl, rfl, rfl⟩⟩, ⟨⟨dX12_fact_64, rfl⟩, ⟨_, rfl⟩⟩, ⟨⟨dX12_fact_65, rfl⟩, Or.inr ⟨rfl, rfl, _, rfl, rfl, rfl⟩⟩, ⟨⟨dX12_fact_67, rfl⟩, ⟨_, rfl⟩⟩, ⟨⟨dX12_fact_68, rfl⟩, Or.inr ⟨rfl, rfl, _, rfl, rfl, rfl⟩⟩, ⟨⟨dX12_fact_70, rfl⟩, ⟨_, rfl⟩⟩, ⟨⟨dX12_fact_71, rfl⟩, Or.inr ⟨rfl, rfl, _, rfl, rfl, rfl⟩⟩, ⟨⟨dX12_fact_73, rfl⟩, ⟨_, rfl⟩⟩, ⟨⟨dX12_fact_74, rfl⟩, Or.inr ⟨rfl, rfl, _, rfl, rfl, rfl⟩⟩, ⟨⟨dX12_fact_76, rfl⟩, ⟨_, rfl⟩⟩, ⟨⟨dX12_fact_77, rfl⟩, Or.inr ⟨rfl, rfl, _, rfl, rfl, rfl⟩⟩, ⟨⟨dX12_fact_79, rfl⟩, ⟨_, rfl⟩⟩, ⟨⟨dX12_fact_80, rfl⟩, Or.inr ⟨rfl, rfl, _, rfl, rfl, rfl⟩⟩, ⟨⟨dX12_fact_82, rfl⟩, ⟨_, rfl⟩⟩, ⟨⟨dX12_fact_83, rfl⟩, Or.inr ⟨rfl, rfl, _, rfl, rfl, rfl⟩⟩, ⟨⟨dX12_fact_85, rfl⟩, ⟨_, rfl⟩⟩, ⟨⟨dX12_fact_86, rfl⟩, Or.inr ⟨rfl, rfl, _, rfl, rfl, rfl⟩⟩, ⟨⟨dX12_fact_88, rfl⟩, ⟨_, rfl⟩⟩, trivial⟩, trivial⟩, by decide, Or.inl ⟨rfl, by decide, rfl⟩⟩
set_option maxRecDepth 100000 in
theorem g_X12_fact_0 (S : sT) (call : cT) (n : Nat) (x0 : Int32) (h : pH) : bd S call dflT E_X12_fact (n + 1) 0 [some (.int x0)] [] h = ((if x0 = 0 then bd S call dflT E_X12_fact n 56 [some (.int x0)] [] h else (if x0 = 1 then bd S call dflT E_X12_fact n 59 [some (.int x0)] [] h else (if x0 = 2 then bd S call dflT E_X12_fact n 62 [some (.int x0)] [] h else (if x0 = 3 then bd S call dflT E_X12_fact n 65 [some (.int x0)] [] h else (if x0 = 4 then bd S call dflT E_X12_fact n 68 [some (.int x0)] [] h else (if x0 = 5 then bd S call dflT E_X12_fact n 71 [some (.int x0)] [] h else (if x0 = 6 then bd S call dflT E_X12_fact n 74 [some (.int x0)] [] h else (if x0 = 7 then bd S call dflT E_X12_fact n 77 [some (.int x0)] [] h else (if x0 = 8 then bd S call dflT E_X12_fact n 80 [some (.int x0)] [] h else (if x0 = 9 then bd S call dflT E_X12_fact n 83 [some (.int x0)] [] h else bd S call dflT E_X12_fact n 86 [some (.int x0)] [] h))))))))))) := rfl
set_option maxRecDepth 100000 in
theorem g_X12_fact_56 (S : sT) (call : cT) (n : Nat) (x0 : Int32) (h : pH) : bd S call dflT E_X12_fact (n + 1) 56 [some (.int x0)] [] h = (some (.inl (some (.retAddr 134)), h)) := rfl
set_option maxRecDepth 100000 in
theorem g_X12_fact_59 (S : sT) (call : cT) (n : Nat) (x0 : Int32) (h : pH) : bd S call dflT E_X12_fact (n + 1) 59 [some (.int x0)] [] h = (some (.inl (some (.retAddr 121)), h)) := rfl
set_option maxRecDepth 100000 in
theorem g_X12_fact_62 (S : sT) (call : cT) (n : Nat) (x0 : Int32) (h : pH) : bd S call dflT E_X12_fact (n + 1) 62 [some (.int x0)] [] h = (some (.inl (some (.retAddr 122)), h)) := rfl
set_option maxRecDepth 100000 in
theorem g_X12_fact_65 (S : sT) (call : cT) (n : Nat) (x0 : Int32) (h : pH) : bd S call dflT E_X12_fact (n + 1) 65 [some (.int x0)] [] h = (some (.inl (some (.retAddr 123)), h)) := rfl
set_option maxRecDepth 100000 in
theorem g_X12_fact_68 (S : sT) (call : cT) (n : Nat) (x0 : Int32) (h : pH) : bd S call dflT E_X12_fact (n + 1) 68 [some (.int x0)] [] h = (some (.inl (some (.retAddr 124)), h)) := rfl
set_option maxRecDepth 100000 in
theorem g_X12_fact_71 (S : sT) (call : cT) (n : Nat) (x0 : Int32) (h : pH) : bd S call dflT E_X12_fact (n + 1) 71 [some (.int x0)] [] h = (some (.inl (some (.retAddr 135)), h)) := rfl
set_option maxRecDepth 100000 in
theorem g_X12_fact_74 (S : sT) (call : cT) (n : Nat) (x0 : Int32) (h : pH) : bd S call dflT E_X12_fact (n + 1) 74 [some (.int x0)] [] h = (some (.inl (some (.retAddr 136)), h)) := rfl
set_option maxRecDepth 100000 in
theorem g_X12_fact_77 (S : sT) (call : cT) (n : Nat) (x0 : Int32) (h : pH) : bd S call dflT E_X12_fact (n + 1) 77 [some (.int x0)] [] h = (some (.inl (some (.retAddr 137)), h)) := rfl
set_option maxRecDepth 100000 in
theorem g_X12_fact_80 (S : sT) (call : cT) (n : Nat) (x0 : Int32) (h : pH) : bd S call dflT E_X12_fact (n + 1) 80 [some (.int x0)] [] h = (some (.inl (some (.retAddr 138)), h)) := rfl
set_option maxRecDepth 100000 in
theorem g_X12_fact_83 (S : sT) (call : cT) (n : Nat) (x0 : Int32) (h : pH) : bd S call dflT E_X12_fact (n + 1) 83 [some (.int x0)] [] h = (some (.inl (some (.retAddr 139)), h)) := rfl
set_option maxRecDepth 100000 in
theorem g_X12_fact_86 (S : sT) (call : cT) (n : Nat) (x0 : Int32) (h : pH) : bd S call dflT E_X12_fact (n + 1) 86 [some (.int x0)] [] h = (some (.inl (some (.retAddr 140)), h)) := rfl
theorem dX12_readPart_0 : decode cX12_readPart 0 = .ok (.aload_n 0, 1) := by decide +kernel
theorem dX12_readPart_1 : decode cX12_readPart 1 = .ok (.invokevirtual 133, 3) := by decide +kernel
theorem dX12_readPart_4 : decode cX12_readPart 4 = .ok (.aload_n 0, 1) := by decide +kernel
theorem dX12_readPart_5 : decode cX12_readPart 5 = .ok (.getfield 108, 3) := by decide +kernel
theorem dX12_readPart_8 : decode cX12_readPart 8 = .ok (.aload_n 0, 1) := by decide +kernel
theorem dX12_readPart_9 : decode cX12_readPart 9 = .ok (.getfield 118, 3) := by decide +kernel
theorem dX12_readPart_12 : decode cX12_readPart 12 = .ok (.if_icmp .le 44, 3) := by decide +kernel
theorem dX12_readPart_15 : decode cX12_readPart 15 = .ok (.iconst 0, 1) := by decide +kernel
theorem dX12_readPart_16 : decode cX12_readPart 16 = .ok (.istore_n 1, 1) := by decide +kernel
theorem dX12_readPart_17 : decode cX12_readPart 17 = .ok (.iload_n 1, 1) := by decide +kernel
theorem dX12_readPart_18 : decode cX12_readPart 18 = .ok (.bipush 11, 2) := by decide +kernel
theorem dX12_readPart_20 : decode cX12_readPart 20 = .ok (.if_icmp .ge 20, 3) := by decide +kernel
theorem dX12_readPart_23 : decode cX12_readPart 23 = .ok (.aload_n 0, 1) := by decide +kernel
theorem dX12_readPart_24 : decode cX12_readPart 24 = .ok (.iload_n 1, 1) := by decide +kernel
theorem dX12_readPart_25 : decode cX12_readPart 25 = .ok (.invokestatic 167, 3) := by decide +kernel
theorem dX12_readPart_28 : decode cX12_readPart 28 = .ok (.invokevirtual 136, 3) := by decide +kernel
theorem dX12_readPart_31 : decode cX12_readPart 31 = .ok (.ifCond .ne 9, 3) := by decide +kernel
theorem dX12_readPart_34 : decode cX12_readPart 34 = .ok (.iinc 1 1, 3) := by decide +kernel
theorem dX12_readPart_37 : decode cX12_readPart 37 = .ok (.goto (-20), 3) := by decide +kernel
theorem dX12_readPart_40 : decode cX12_readPart 40 = .ok (.iload_n 1, 1) := by decide +kernel
theorem dX12_readPart_41 : decode cX12_readPart 41 = .ok (.bipush 11, 2) := by decide +kernel
theorem dX12_readPart_43 : decode cX12_readPart 43 = .ok (.if_icmp .ne 5, 3) := by decide +kernel
theorem dX12_readPart_46 : decode cX12_readPart 46 = .ok (.iconst 0, 1) := by decide +kernel
theorem dX12_readPart_47 : decode cX12_readPart 47 = .ok (.ireturn, 1) := by decide +kernel
theorem dX12_readPart_48 : decode cX12_readPart 48 = .ok (.aload_n 0, 1) := by decide +kernel
theorem dX12_readPart_49 : decode cX12_readPart 49 = .ok (.iload_n 1, 1) := by decide +kernel
theorem dX12_readPart_50 : decode cX12_readPart 50 = .ok (.iconst 0, 1) := by decide +kernel
theorem dX12_readPart_51 : decode cX12_readPart 51 = .ok (.invokevirtual 171, 3) := by decide +kernel
theorem dX12_readPart_54 : decode cX12_readPart 54 = .ok (.iconst 1, 1) := by decide +kernel
theorem dX12_readPart_55 : decode cX12_readPart 55 = .ok (.ireturn, 1) := by decide +kernel
theorem dX12_readPart_56 : decode cX12_readPart 56 = .ok (.aload_n 0, 1) := by decide +kernel
theorem dX12_readPart_57 : decode cX12_readPart 57 = .ok (.ldc 175, 2) := by decide +kernel
theorem dX12_readPart_59 : decode cX12_readPart 59 = .ok (.invokevirtual 176, 3) := by decide +kernel
theorem dX12_readPart_62 : decode cX12_readPart 62 = .ok (.istore_n 1, 1) := by decide +kernel
theorem dX12_readPart_63 : decode cX12_readPart 63 = .ok (.iload_n 1, 1) := by decide +kernel
theorem dX12_readPart_64 : decode cX12_readPart 64 = .ok (.ifCond .ge 5, 3) := by decide +kernel
theorem dX12_readPart_67 : decode cX12_readPart 67 = .ok (.iconst 0, 1) := by decide +kernel
theorem dX12_readPart_68 : decode cX12_readPart 68 = .ok (.ireturn, 1) := by decide +kernel
theorem dX12_readPart_69 : decode cX12_readPart 69 = .ok (.aload_n 0, 1) := by decide +kernel
theorem dX12_readPart_70 : decode cX12_readPart 70 = .ok (.bipush 100, 2) := by decide +kernel
theorem dX12_readPart_72 : decode cX12_readPart 72 = .ok (.iload_n 1, 1) := by decide +kernel
theorem dX12_readPart_73 : decode cX12_readPart 73 = .ok (.invokevirtual 171, 3) := by decide +kernel
theorem dX12_readPart_76 : decode cX12_readPart 76 = .ok (.iconst 1, 1) := by decide +kernel
theorem dX12_readPart_77 : decode cX12_readPart 77 = .ok (.ireturn, 1) := by decide +kernel
noncomputable def E_X12_readPart : mE := (mX12_readPart, [(47, [(0, (.aload_n 0, 1, false, false, 0, 0, 0, 0, 0, 0, [])), (1, (.invokevirtual 133, 4, false, false, 115, 0, 0, 15, 0, 0, [])), (4, (.aload_n 0, 5, false, false, 0, 0, 0, 0, 0, 0, [])), (5, (.getfield 108, 8, false, false, 15, 6, 0, 0, 0, 0, [])), (8, (.aload_n 0, 9, false, false, 0, 0, 0, 0, 0, 0, [])), (9, (.getfield 118, 12, false, false, 15, 8, 0, 0, 0, 0, [])), (12, (.if_icmp .le 44, 15, false, false, 56, 0, 0, 0, 0, 0, [])), (15, (.iconst 0, 16, false, false, 0, 0, 0, 0, 0, 0, [])), (16, (.istore_n 1, 17, true, false, 1, 0, 0, 0, 0, 0, [])), (17, (.iload_n 1, 18, false, false, 1, 0, 0, 0, 0, 0, [])), (18, (.bipush 11, 20, false, false, 0, 0, 0, 0, 11, 0, [])), (20, (.if_icmp .ge 20, 23, false, false, 40, 0, 0, 0, 0, 0, [])), (23, (.aload_n 0, 24, false, false, 0, 0, 0, 0, 0, 0, [])), (24, (.iload_n 1, 25, false, false, 1, 0, 0, 0, 0, 0, [])), (25, (.invokestatic 167, 28, false, false, 129, 1, 3, 0, 0, 0, [])), (28, (.invokevirtual 136, 31, false, false, 118, 1, 1, 15, 0, 0, [])), (31, (.ifCond .ne 9, 34, false, false, 40, 0, 0, 0, 0, 0, [])), (34, (.iinc 1 1, 37, false, false, 1, 0, 0, 0, 1, 0, [])), (37, (.goto (-20), 40, false, true, 17, 0, 0, 0, 0, 0, [])), (40, (.iload_n 1, 41, false, false, 1, 0, 0, 0, 0, 0, [])), (41, (.bipush 11, 43, false, false, 0, 0, 0, 0, 11, 0, [])), (43, (.if_icmp .ne 5, 46, false, false, 48, 0, 0, 0, 0, 0, [])), (46, (.iconst 0, 47, false, false, 0, 0, 0, 0, 0, 0, [])), (47, (.ireturn, 48, false, false, 0, 0, 1, 0, 0, 0, []))]),
  (77, [(48, (.aload_n 0, 49, false, false, 0, 0, 0, 0, 0, 0, [])), (49, (.iload_n 1, 50, false, false, 1, 0, 0, 0, 0, 0, [])), (50, (.iconst 0, 51, false, false, 0, 0, 0, 0, 0, 0, [])), (51, (.invokevirtual 171, 54, false, false, 128, 2, 0, 15, 0, 0, [])), (54, (.iconst 1, 55, false, false, 0, 0, 0, 0, 1, 0, [])), (55, (.ireturn, 56, false, false, 0, 0, 1, 0, 0, 0, [])), (56, (.aload_n 0, 57, false, false, 0, 0, 0, 0, 0, 0, [])), (57, (.ldc 175, 59, false, false, 0, 0, 0, 0, 999999, 0, [])), (59, (.invokevirtual 176, 62, false, false, 121, 1, 1, 15, 0, 0, [])), (62, (.istore_n 1, 63, false, false, 1, 0, 0, 0, 0, 0, [])), (63, (.iload_n 1, 64, false, false, 1, 0, 0, 0, 0, 0, [])), (64, (.ifCond .ge 5, 67, false, false, 69, 0, 0, 0, 0, 0, [])), (67, (.iconst 0, 68, false, false, 0, 0, 0, 0, 0, 0, [])), (68, (.ireturn, 69, false, false, 0, 0, 1, 0, 0, 0, [])), (69, (.aload_n 0, 70, false, false, 0, 0, 0, 0, 0, 0, [])), (70, (.bipush 100, 72, false, false, 0, 0, 0, 0, 100, 0, [])), (72, (.iload_n 1, 73, false, false, 1, 0, 0, 0, 0, 0, [])), (73, (.invokevirtual 171, 76, false, false, 128, 2, 0, 15, 0, 0, [])), (76, (.iconst 1, 77, false, false, 0, 0, 0, 0, 1, 0, [])), (77, (.ireturn, 78, false, false, 0, 0, 1, 0, 0, 0, []))])], 0, [])
set_option maxRecDepth 100000 in
theorem v_X12_readPart : VE MYT dflT E_X12_readPart := ⟨⟨⟨⟨⟨dX12_readPart_0, rfl⟩, rfl⟩, ⟨⟨dX12_readPart_1, rfl⟩, Or.inr ⟨by decide, ⟨_, my_115, sX12_133⟩, fun q => absurd q (by decide)⟩⟩, ⟨⟨dX12_readPart_4, rfl⟩, rfl⟩, ⟨⟨dX12_readPart_5, rfl⟩, Or.inl ⟨by decide, _, _, fX12_108⟩⟩, ⟨⟨dX12_readPart_8, rfl⟩, rfl⟩, ⟨⟨dX12_readPart_9, rfl⟩, Or.inl ⟨by decide, _, _, fX12_118⟩⟩, ⟨⟨dX12_readPart_12, rfl⟩, rfl⟩, ⟨⟨dX12_readPart_15, rfl⟩, rfl⟩, ⟨⟨dX12_readPart_16, rfl⟩, rfl⟩, ⟨⟨dX12_readPart_17, rfl⟩, rfl⟩, ⟨⟨dX12_readPart_18, rfl⟩, rfl⟩, ⟨⟨dX12_readPart_20, rfl⟩, rfl⟩, ⟨⟨dX12_readPart_23, rfl⟩, rfl⟩, ⟨⟨dX12_readPart_24, rfl⟩, rfl⟩, ⟨⟨dX12_readPart_25, rfl⟩, Or.inl ⟨rfl, _, my_129, sX12_167⟩⟩, ⟨⟨dX12_readPart_28, rfl⟩, Or.inr ⟨by decide, ⟨_, my_118, sX12_136⟩, fun q => absurd q (by decide)⟩⟩, ⟨⟨dX12_readPart_31, rfl⟩, rfl⟩, ⟨⟨dX12_readPart_34, rfl⟩, ⟨rfl, rfl⟩⟩, ⟨⟨dX12_readPart_37, rfl⟩, rfl⟩, ⟨⟨dX12_readPart_40, rfl⟩, rfl⟩, ⟨⟨dX12_readPart_41, rfl⟩, rfl⟩, ⟨⟨dX12_readPart_43, rfl⟩, rfl⟩, ⟨⟨dX12_readPart_46, rfl⟩, rfl⟩, ⟨⟨dX12_readPart_47, rfl⟩, Or.inr (Or.inl ⟨rfl, rfl⟩)⟩, trivial⟩,
  ⟨⟨⟨dX12_readPart_48, rfl⟩, rfl⟩, ⟨⟨dX12_readPart_49, rfl⟩, rfl⟩, ⟨⟨dX12_readPart_50, rfl⟩, rfl⟩, ⟨⟨dX12_readPart_51, rfl⟩, Or.inr ⟨by decide, ⟨_, my_128, sX12_171⟩, fun q => absurd q (by decide)⟩⟩, ⟨⟨dX12_readPart_54, rfl⟩, rfl⟩, ⟨⟨dX12_readPart_55, rfl⟩, Or.inr (Or.inl ⟨rfl, rfl⟩)⟩, ⟨⟨dX12_readPart_56, rfl⟩, rfl⟩, ⟨⟨dX12_readPart_57, rfl⟩, Or.inl ⟨rfl, kX12_175⟩⟩, ⟨⟨dX12_readPart_59, rfl⟩, Or.inr ⟨by decide, ⟨_, my_121, sX12_176⟩, fun q => absurd q (by decide)⟩⟩, ⟨⟨dX12_readPart_62, rfl⟩, rfl⟩, ⟨⟨dX12_readPart_63, rfl⟩, rfl⟩, ⟨⟨dX12_readPart_64, rfl⟩, rfl⟩, ⟨⟨dX12_readPart_67, rfl⟩, rfl⟩, ⟨⟨dX12_readPart_68, rfl⟩, Or.inr (Or.inl ⟨rfl, rfl⟩)⟩, ⟨⟨dX12_readPart_69, rfl⟩, rfl⟩, ⟨⟨dX12_readPart_70, rfl⟩, rfl⟩, ⟨⟨dX12_readPart_72, rfl⟩, rfl⟩, ⟨⟨dX12_readPart_73, rfl⟩, Or.inr ⟨by decide, ⟨_, my_128, sX12_171⟩, fun q => absurd q (by decide)⟩⟩, ⟨⟨dX12_readPart_76, rfl⟩, rfl⟩, ⟨⟨dX12_readPart_77, rfl⟩, Or.inr (Or.inl ⟨rfl, rfl⟩)⟩, trivial⟩, trivial⟩, by decide, Or.inl ⟨rfl, by decide, rfl⟩⟩
set_option maxRecDepth 100000 in
theorem g_X12_readPart_0 (S : sT) (call : cT) (n : Nat) (a0 : Nat) (h : pH) : bd S call dflT E_X12_readPart (n + 1) 0 [some (.ref a0), none] [] h = (rC h (.ref a0) 15 (cU (call 115 [.ref a0] h) (fun h1 => gI h1 (.ref a0) 15 6 (fun y2 => gI h1 (.ref a0) 15 8 (fun y3 => (if y2 ≤ y3 then rC h1 (.ref a0) 15 (cI (call 121 [.ref a0, .int 999999] h1) (fun y5 h4 => (if 0 ≤ y5 then rC h4 (.ref a0) 15 (cU (call 128 [.ref a0, .int 100, .int y5] h4) (fun h6 => zR 1 (some (.inl (some (.int 1)), h6)))) else zR 0 (some (.inl (some (.int 0)), h4))))) else bd S call dflT E_X12_readPart n 17 [some (.ref a0), some (.int 0)] [] h1)))))) := rfl
set_option maxRecDepth 100000 in
theorem g_X12_readPart_17 (S : sT) (call : cT) (n : Nat) (a0 : Nat) (x1 : Int32) (h : pH) : bd S call dflT E_X12_readPart (n + 1) 17 [some (.ref a0), some (.int x1)] [] h = ((if 11 ≤ x1 then (if x1 = 11 then zR 0 (some (.inl (some (.int 0)), h)) else rC h (.ref a0) 15 (cU (call 128 [.ref a0, .int x1, .int 0] h) (fun h1 => zR 1 (some (.inl (some (.int 1)), h1))))) else cA (call 129 [.int x1] h) (fun w3 h2 => rC h2 (.ref a0) 15 (cI (call 118 [.ref a0, w3] h2) (fun y5 h4 => (if y5 = 0 then bd S call dflT E_X12_readPart n 17 [some (.ref a0), some (.int (x1 + 1))] [] h4 else (if x1 = 11 then zR 0 (some (.inl (some (.int 0)), h4)) else rC h4 (.ref a0) 15 (cU (call 128 [.ref a0, .int x1, .int 0] h4) (fun h6 => zR 1 (some (.inl (some (.int 1)), h6))))))))))) := rfl
theorem dX12_readSum_0 : decode cX12_readSum 0 = .ok (.aload_n 0, 1) := by decide +kernel
theorem dX12_readSum_1 : decode cX12_readSum 1 = .ok (.invokevirtual 179, 3) := by decide +kernel
theorem dX12_readSum_4 : decode cX12_readSum 4 = .ok (.ifCond .ne 5, 3) := by decide +kernel
theorem dX12_readSum_7 : decode cX12_readSum 7 = .ok (.iconst 0, 1) := by decide +kernel
theorem dX12_readSum_8 : decode cX12_readSum 8 = .ok (.ireturn, 1) := by decide +kernel
theorem dX12_readSum_9 : decode cX12_readSum 9 = .ok (.aload_n 0, 1) := by decide +kernel
theorem dX12_readSum_10 : decode cX12_readSum 10 = .ok (.bipush 43, 2) := by decide +kernel
theorem dX12_readSum_12 : decode cX12_readSum 12 = .ok (.invokevirtual 183, 3) := by decide +kernel
theorem dX12_readSum_15 : decode cX12_readSum 15 = .ok (.ifCond .eq 22, 3) := by decide +kernel
theorem dX12_readSum_18 : decode cX12_readSum 18 = .ok (.aload_n 0, 1) := by decide +kernel
theorem dX12_readSum_19 : decode cX12_readSum 19 = .ok (.invokevirtual 179, 3) := by decide +kernel
theorem dX12_readSum_22 : decode cX12_readSum 22 = .ok (.ifCond .ne 5, 3) := by decide +kernel
theorem dX12_readSum_25 : decode cX12_readSum 25 = .ok (.iconst 0, 1) := by decide +kernel
theorem dX12_readSum_26 : decode cX12_readSum 26 = .ok (.ireturn, 1) := by decide +kernel
theorem dX12_readSum_27 : decode cX12_readSum 27 = .ok (.aload_n 0, 1) := by decide +kernel
theorem dX12_readSum_28 : decode cX12_readSum 28 = .ok (.bipush 101, 2) := by decide +kernel
theorem dX12_readSum_30 : decode cX12_readSum 30 = .ok (.iconst 0, 1) := by decide +kernel
theorem dX12_readSum_31 : decode cX12_readSum 31 = .ok (.invokevirtual 171, 3) := by decide +kernel
theorem dX12_readSum_34 : decode cX12_readSum 34 = .ok (.goto (-25), 3) := by decide +kernel
theorem dX12_readSum_37 : decode cX12_readSum 37 = .ok (.iconst 1, 1) := by decide +kernel
theorem dX12_readSum_38 : decode cX12_readSum 38 = .ok (.ireturn, 1) := by decide +kernel
noncomputable def E_X12_readSum : mE := (mX12_readSum, [(38, [(0, (.aload_n 0, 1, false, false, 0, 0, 0, 0, 0, 0, [])), (1, (.invokevirtual 179, 4, false, false, 130, 0, 1, 15, 0, 0, [])), (4, (.ifCond .ne 5, 7, false, true, 9, 0, 0, 0, 0, 0, [])), (7, (.iconst 0, 8, false, false, 0, 0, 0, 0, 0, 0, [])), (8, (.ireturn, 9, false, false, 0, 0, 1, 0, 0, 0, [])), (9, (.aload_n 0, 10, false, false, 0, 0, 0, 0, 0, 0, [])), (10, (.bipush 43, 12, false, false, 0, 0, 0, 0, 43, 0, [])), (12, (.invokevirtual 183, 15, false, false, 127, 1, 1, 15, 0, 0, [])), (15, (.ifCond .eq 22, 18, false, false, 37, 0, 0, 0, 0, 0, [])), (18, (.aload_n 0, 19, false, false, 0, 0, 0, 0, 0, 0, [])), (19, (.invokevirtual 179, 22, false, false, 130, 0, 1, 15, 0, 0, [])), (22, (.ifCond .ne 5, 25, false, false, 27, 0, 0, 0, 0, 0, [])), (25, (.iconst 0, 26, false, false, 0, 0, 0, 0, 0, 0, [])), (26, (.ireturn, 27, false, false, 0, 0, 1, 0, 0, 0, [])), (27, (.aload_n 0, 28, false, false, 0, 0, 0, 0, 0, 0, [])), (28, (.bipush 101, 30, false, false, 0, 0, 0, 0, 101, 0, [])), (30, (.iconst 0, 31, false, false, 0, 0, 0, 0, 0, 0, [])), (31, (.invokevirtual 171, 34, false, false, 128, 2, 0, 15, 0, 0, [])), (34, (.goto (-25), 37, false, true, 9, 0, 0, 0, 0, 0, [])), (37, (.iconst 1, 38, false, false, 0, 0, 0, 0, 1, 0, [])), (38, (.ireturn, 39, false, false, 0, 0, 1, 0, 0, 0, []))])], 0, [])
set_option maxRecDepth 100000 in
theorem v_X12_readSum : VE MYT dflT E_X12_readSum := ⟨⟨⟨⟨⟨dX12_readSum_0, rfl⟩, rfl⟩, ⟨⟨dX12_readSum_1, rfl⟩, Or.inr ⟨by decide, ⟨_, my_130, sX12_179⟩, fun q => absurd q (by decide)⟩⟩, ⟨⟨dX12_readSum_4, rfl⟩, rfl⟩, ⟨⟨dX12_readSum_7, rfl⟩, rfl⟩, ⟨⟨dX12_readSum_8, rfl⟩, Or.inr (Or.inl ⟨rfl, rfl⟩)⟩, ⟨⟨dX12_readSum_9, rfl⟩, rfl⟩, ⟨⟨dX12_readSum_10, rfl⟩, rfl⟩, ⟨⟨dX12_readSum_12, rfl⟩, Or.inr ⟨by decide, ⟨_, my_127, sX12_183⟩, fun q => absurd q (by decide)⟩⟩, ⟨⟨dX12_readSum_15, rfl⟩, rfl⟩, ⟨⟨dX12_readSum_18, rfl⟩, rfl⟩, ⟨⟨dX12_readSum_19, rfl⟩, Or.inr ⟨by decide, ⟨_, my_130, sX12_179⟩, fun q => absurd q (by decide)⟩⟩, ⟨⟨dX12_readSum_22, rfl⟩, rfl⟩, ⟨⟨dX12_readSum_25, rfl⟩, rfl⟩, ⟨⟨dX12_readSum_26, rfl⟩, Or.inr (Or.inl ⟨rfl, rfl⟩)⟩, ⟨⟨dX12_readSum_27, rfl⟩, rfl⟩, ⟨⟨dX12_readSum_28, rfl⟩, rfl⟩, ⟨⟨dX12_readSum_30, rfl⟩, rfl⟩, ⟨⟨dX12_readSum_31, rfl⟩, Or.inr ⟨by decide, ⟨_, my_128, sX12_171⟩, fun q => absurd q (by decide)⟩⟩, ⟨⟨dX12_readSum_34, rfl⟩, rfl⟩, ⟨⟨dX12_readSum_37, rfl⟩, rfl⟩, ⟨⟨dX12_readSum_38, rfl⟩, Or.inr (Or.inl ⟨rfl, rfl⟩)⟩, trivial⟩, trivial⟩, by decide, Or.inl ⟨rfl, by decide, rfl⟩⟩
set_option maxRecDepth 100000 in
theorem g_X12_readSum_0 (S : sT) (call : cT) (n : Nat) (a0 : Nat) (h : pH) : bd S call dflT E_X12_readSum (n + 1) 0 [some (.ref a0)] [] h = (rC h (.ref a0) 15 (cI (call 130 [.ref a0] h) (fun y2 h1 => (if y2 = 0 then zR 0 (some (.inl (some (.int 0)), h1)) else bd S call dflT E_X12_readSum n 9 [some (.ref a0)] [] h1)))) := rfl
set_option maxRecDepth 100000 in
theorem g_X12_readSum_9 (S : sT) (call : cT) (n : Nat) (a0 : Nat) (h : pH) : bd S call dflT E_X12_readSum (n + 1) 9 [some (.ref a0)] [] h = (rC h (.ref a0) 15 (cI (call 127 [.ref a0, .int 43] h) (fun y2 h1 => (if y2 = 0 then zR 1 (some (.inl (some (.int 1)), h1)) else rC h1 (.ref a0) 15 (cI (call 130 [.ref a0] h1) (fun y4 h3 => (if y4 = 0 then zR 0 (some (.inl (some (.int 0)), h3)) else rC h3 (.ref a0) 15 (cU (call 128 [.ref a0, .int 101, .int 0] h3) (fun h5 => bd S call dflT E_X12_readSum n 9 [some (.ref a0)] [] h5))))))))) := rfl
theorem dX12_readAtom_0 : decode cX12_readAtom 0 = .ok (.aload_n 0, 1) := by decide +kernel
theorem dX12_readAtom_1 : decode cX12_readAtom 1 = .ok (.bipush 40, 2) := by decide +kernel
theorem dX12_readAtom_3 : decode cX12_readAtom 3 = .ok (.invokevirtual 183, 3) := by decide +kernel
theorem dX12_readAtom_6 : decode cX12_readAtom 6 = .ok (.ifCond .eq 50, 3) := by decide +kernel
theorem dX12_readAtom_9 : decode cX12_readAtom 9 = .ok (.aload_n 0, 1) := by decide +kernel
theorem dX12_readAtom_10 : decode cX12_readAtom 10 = .ok (.getfield 186, 3) := by decide +kernel
theorem dX12_readAtom_13 : decode cX12_readAtom 13 = .ok (.bipush 6, 2) := by decide +kernel
theorem dX12_readAtom_15 : decode cX12_readAtom 15 = .ok (.if_icmp .ne 5, 3) := by decide +kernel
theorem dX12_readAtom_18 : decode cX12_readAtom 18 = .ok (.iconst 0, 1) := by decide +kernel
theorem dX12_readAtom_19 : decode cX12_readAtom 19 = .ok (.ireturn, 1) := by decide +kernel
theorem dX12_readAtom_20 : decode cX12_readAtom 20 = .ok (.aload_n 0, 1) := by decide +kernel
theorem dX12_readAtom_21 : decode cX12_readAtom 21 = .ok (.dup, 1) := by decide +kernel
theorem dX12_readAtom_22 : decode cX12_readAtom 22 = .ok (.getfield 186, 3) := by decide +kernel
theorem dX12_readAtom_25 : decode cX12_readAtom 25 = .ok (.iconst 1, 1) := by decide +kernel
theorem dX12_readAtom_26 : decode cX12_readAtom 26 = .ok (.iadd, 1) := by decide +kernel
theorem dX12_readAtom_27 : decode cX12_readAtom 27 = .ok (.putfield 186, 3) := by decide +kernel
theorem dX12_readAtom_30 : decode cX12_readAtom 30 = .ok (.aload_n 0, 1) := by decide +kernel
theorem dX12_readAtom_31 : decode cX12_readAtom 31 = .ok (.invokevirtual 189, 3) := by decide +kernel
theorem dX12_readAtom_34 : decode cX12_readAtom 34 = .ok (.ifCond .ne 5, 3) := by decide +kernel
theorem dX12_readAtom_37 : decode cX12_readAtom 37 = .ok (.iconst 0, 1) := by decide +kernel
theorem dX12_readAtom_38 : decode cX12_readAtom 38 = .ok (.ireturn, 1) := by decide +kernel
theorem dX12_readAtom_39 : decode cX12_readAtom 39 = .ok (.aload_n 0, 1) := by decide +kernel
theorem dX12_readAtom_40 : decode cX12_readAtom 40 = .ok (.dup, 1) := by decide +kernel
theorem dX12_readAtom_41 : decode cX12_readAtom 41 = .ok (.getfield 186, 3) := by decide +kernel
theorem dX12_readAtom_44 : decode cX12_readAtom 44 = .ok (.iconst 1, 1) := by decide +kernel
theorem dX12_readAtom_45 : decode cX12_readAtom 45 = .ok (.isub, 1) := by decide +kernel
theorem dX12_readAtom_46 : decode cX12_readAtom 46 = .ok (.putfield 186, 3) := by decide +kernel
theorem dX12_readAtom_49 : decode cX12_readAtom 49 = .ok (.aload_n 0, 1) := by decide +kernel
theorem dX12_readAtom_50 : decode cX12_readAtom 50 = .ok (.bipush 41, 2) := by decide +kernel
theorem dX12_readAtom_52 : decode cX12_readAtom 52 = .ok (.invokevirtual 183, 3) := by decide +kernel
theorem dX12_readAtom_55 : decode cX12_readAtom 55 = .ok (.ireturn, 1) := by decide +kernel
theorem dX12_readAtom_56 : decode cX12_readAtom 56 = .ok (.aload_n 0, 1) := by decide +kernel
theorem dX12_readAtom_57 : decode cX12_readAtom 57 = .ok (.ldc 192, 2) := by decide +kernel
theorem dX12_readAtom_59 : decode cX12_readAtom 59 = .ok (.invokevirtual 194, 3) := by decide +kernel
theorem dX12_readAtom_62 : decode cX12_readAtom 62 = .ok (.ifCond .eq 52, 3) := by decide +kernel
theorem dX12_readAtom_65 : decode cX12_readAtom 65 = .ok (.aload_n 0, 1) := by decide +kernel
theorem dX12_readAtom_66 : decode cX12_readAtom 66 = .ok (.getfield 186, 3) := by decide +kernel
theorem dX12_readAtom_69 : decode cX12_readAtom 69 = .ok (.bipush 6, 2) := by decide +kernel
theorem dX12_readAtom_71 : decode cX12_readAtom 71 = .ok (.if_icmp .ne 5, 3) := by decide +kernel
theorem dX12_readAtom_74 : decode cX12_readAtom 74 = .ok (.iconst 0, 1) := by decide +kernel
theorem dX12_readAtom_75 : decode cX12_readAtom 75 = .ok (.ireturn, 1) := by decide +kernel
theorem dX12_readAtom_76 : decode cX12_readAtom 76 = .ok (.aload_n 0, 1) := by decide +kernel
theorem dX12_readAtom_77 : decode cX12_readAtom 77 = .ok (.dup, 1) := by decide +kernel
theorem dX12_readAtom_78 : decode cX12_readAtom 78 = .ok (.getfield 186, 3) := by decide +kernel
theorem dX12_readAtom_81 : decode cX12_readAtom 81 = .ok (.iconst 1, 1) := by decide +kernel
theorem dX12_readAtom_82 : decode cX12_readAtom 82 = .ok (.iadd, 1) := by decide +kernel
theorem dX12_readAtom_83 : decode cX12_readAtom 83 = .ok (.putfield 186, 3) := by decide +kernel
theorem dX12_readAtom_86 : decode cX12_readAtom 86 = .ok (.aload_n 0, 1) := by decide +kernel
theorem dX12_readAtom_87 : decode cX12_readAtom 87 = .ok (.invokevirtual 197, 3) := by decide +kernel
theorem dX12_readAtom_90 : decode cX12_readAtom 90 = .ok (.ifCond .ne 5, 3) := by decide +kernel
theorem dX12_readAtom_93 : decode cX12_readAtom 93 = .ok (.iconst 0, 1) := by decide +kernel
theorem dX12_readAtom_94 : decode cX12_readAtom 94 = .ok (.ireturn, 1) := by decide +kernel
theorem dX12_readAtom_95 : decode cX12_readAtom 95 = .ok (.aload_n 0, 1) := by decide +kernel
theorem dX12_readAtom_96 : decode cX12_readAtom 96 = .ok (.dup, 1) := by decide +kernel
theorem dX12_readAtom_97 : decode cX12_readAtom 97 = .ok (.getfield 186, 3) := by decide +kernel
theorem dX12_readAtom_100 : decode cX12_readAtom 100 = .ok (.iconst 1, 1) := by decide +kernel
theorem dX12_readAtom_101 : decode cX12_readAtom 101 = .ok (.isub, 1) := by decide +kernel
theorem dX12_readAtom_102 : decode cX12_readAtom 102 = .ok (.putfield 186, 3) := by decide +kernel
theorem dX12_readAtom_105 : decode cX12_readAtom 105 = .ok (.aload_n 0, 1) := by decide +kernel
theorem dX12_readAtom_106 : decode cX12_readAtom 106 = .ok (.bipush 104, 2) := by decide +kernel
theorem dX12_readAtom_108 : decode cX12_readAtom 108 = .ok (.iconst 0, 1) := by decide +kernel
theorem dX12_readAtom_109 : decode cX12_readAtom 109 = .ok (.invokevirtual 171, 3) := by decide +kernel
theorem dX12_readAtom_112 : decode cX12_readAtom 112 = .ok (.iconst 1, 1) := by decide +kernel
theorem dX12_readAtom_113 : decode cX12_readAtom 113 = .ok (.ireturn, 1) := by decide +kernel
theorem dX12_readAtom_114 : decode cX12_readAtom 114 = .ok (.aload_n 0, 1) := by decide +kernel
theorem dX12_readAtom_115 : decode cX12_readAtom 115 = .ok (.invokevirtual 200, 3) := by decide +kernel
theorem dX12_readAtom_118 : decode cX12_readAtom 118 = .ok (.ifCond .ne 5, 3) := by decide +kernel
theorem dX12_readAtom_121 : decode cX12_readAtom 121 = .ok (.iconst 0, 1) := by decide +kernel
theorem dX12_readAtom_122 : decode cX12_readAtom 122 = .ok (.ireturn, 1) := by decide +kernel
theorem dX12_readAtom_123 : decode cX12_readAtom 123 = .ok (.aload_n 0, 1) := by decide +kernel
theorem dX12_readAtom_124 : decode cX12_readAtom 124 = .ok (.bipush 60, 2) := by decide +kernel
theorem dX12_readAtom_126 : decode cX12_readAtom 126 = .ok (.invokevirtual 183, 3) := by decide +kernel
theorem dX12_readAtom_129 : decode cX12_readAtom 129 = .ok (.istore_n 1, 1) := by decide +kernel
theorem dX12_readAtom_130 : decode cX12_readAtom 130 = .ok (.iload_n 1, 1) := by decide +kernel
theorem dX12_readAtom_131 : decode cX12_readAtom 131 = .ok (.ifCond .ne 12, 3) := by decide +kernel
theorem dX12_readAtom_134 : decode cX12_readAtom 134 = .ok (.aload_n 0, 1) := by decide +kernel
theorem dX12_readAtom_135 : decode cX12_readAtom 135 = .ok (.bipush 62, 2) := by decide +kernel
theorem dX12_readAtom_137 : decode cX12_readAtom 137 = .ok (.invokevirtual 183, 3) := by decide +kernel
theorem dX12_readAtom_140 : decode cX12_readAtom 140 = .ok (.ifCond .eq 10, 3) := by decide +kernel
theorem dX12_readAtom_143 : decode cX12_readAtom 143 = .ok (.aload_n 0, 1) := by decide +kernel
theorem dX12_readAtom_144 : decode cX12_readAtom 144 = .ok (.invokevirtual 200, 3) := by decide +kernel
theorem dX12_readAtom_147 : decode cX12_readAtom 147 = .ok (.ifCond .ne 5, 3) := by decide +kernel
theorem dX12_readAtom_150 : decode cX12_readAtom 150 = .ok (.iconst 0, 1) := by decide +kernel
theorem dX12_readAtom_151 : decode cX12_readAtom 151 = .ok (.ireturn, 1) := by decide +kernel
theorem dX12_readAtom_152 : decode cX12_readAtom 152 = .ok (.aload_n 0, 1) := by decide +kernel
theorem dX12_readAtom_153 : decode cX12_readAtom 153 = .ok (.iload_n 1, 1) := by decide +kernel
theorem dX12_readAtom_154 : decode cX12_readAtom 154 = .ok (.ifCond .eq 8, 3) := by decide +kernel
theorem dX12_readAtom_157 : decode cX12_readAtom 157 = .ok (.bipush 102, 2) := by decide +kernel
theorem dX12_readAtom_159 : decode cX12_readAtom 159 = .ok (.goto 5, 3) := by decide +kernel
theorem dX12_readAtom_162 : decode cX12_readAtom 162 = .ok (.bipush 103, 2) := by decide +kernel
theorem dX12_readAtom_164 : decode cX12_readAtom 164 = .ok (.iconst 0, 1) := by decide +kernel
theorem dX12_readAtom_165 : decode cX12_readAtom 165 = .ok (.invokevirtual 171, 3) := by decide +kernel
theorem dX12_readAtom_168 : decode cX12_readAtom 168 = .ok (.iconst 1, 1) := by decide +kernel
theorem dX12_readAtom_169 : decode cX12_readAtom 169 = .ok (.ireturn, 1) := by decide +kernel
noncomputable def E_X12_readAtom : mE := (mX12_readAtom, [(41, [(0, (.aload_n 0, 1, false, false, 0, 0, 0, 0, 0, 0, [])), (1, (.bipush 40, 3, false, false, 0, 0, 0, 0, 40, 0, [])), (3, (.invokevirtual 183, 6, false, false, 127, 1, 1, 15, 0, 0, [])), (6, (.ifCond .eq 50, 9, false, false, 56, 0, 0, 0, 0, 0, [])), (9, (.aload_n 0, 10, false, false, 0, 0, 0, 0, 0, 0, [])), (10, (.getfield 186, 13, false, false, 15, 9, 0, 0, 0, 0, [])), (13, (.bipush 6, 15, false, false, 0, 0, 0, 0, 6, 0, [])), (15, (.if_icmp .ne 5, 18, false, false, 20, 0, 0, 0, 0, 0, [])), (18, (.iconst 0, 19, false, false, 0, 0, 0, 0, 0, 0, [])), (19, (.ireturn, 20, false, false, 0, 0, 1, 0, 0, 0, [])), (20, (.aload_n 0, 21, false, false, 0, 0, 0, 0, 0, 0, [])), (21, (.dup, 22, false, false, 0, 0, 0, 0, 0, 0, [])), (22, (.getfield 186, 25, false, false, 15, 9, 0, 0, 0, 0, [])), (25, (.iconst 1, 26, false, false, 0, 0, 0, 0, 1, 0, [])), (26, (.iadd, 27, false, false, 0, 0, 0, 0, 0, 0, [])), (27, (.putfield 186, 30, false, false, 15, 9, 0, 0, 0, 0, [])), (30, (.aload_n 0, 31, false, false, 0, 0, 0, 0, 0, 0, [])), (31, (.invokevirtual 189, 34, false, false, 134, 0, 1, 15, 0, 0, [])), (34, (.ifCond .ne 5, 37, false, false, 39, 0, 0, 0, 0, 0, [])), (37, (.iconst 0, 38, false, false, 0, 0, 0, 0, 0, 0, [])), (38, (.ireturn, 39, false, false, 0, 0, 1, 0, 0, 0, [])), (39, (.aload_n 0, 40, false, false, 0, 0, 0, 0, 0, 0, [])), (40, (.dup, 41, false, false, 0, 0, 0, 0, 0, 0, [])), (41, (.getfield 186, 44, false, false, 15, 9, 0, 0, 0, 0, []))]),
  (86, [(44, (.iconst 1, 45, false, false, 0, 0, 0, 0, 1, 0, [])), (45, (.isub, 46, false, false, 0, 0, 0, 0, 0, 0, [])), (46, (.putfield 186, 49, false, false, 15, 9, 0, 0, 0, 0, [])), (49, (.aload_n 0, 50, false, false, 0, 0, 0, 0, 0, 0, [])), (50, (.bipush 41, 52, false, false, 0, 0, 0, 0, 41, 0, [])), (52, (.invokevirtual 183, 55, false, false, 127, 1, 1, 15, 0, 0, [])), (55, (.ireturn, 56, false, false, 0, 0, 1, 0, 0, 0, [])), (56, (.aload_n 0, 57, false, false, 0, 0, 0, 0, 0, 0, [])), (57, (.ldc 192, 59, false, false, 133, 33, 1, 0, 0, 0, [])), (59, (.invokevirtual 194, 62, false, false, 126, 1, 1, 15, 0, 0, [])), (62, (.ifCond .eq 52, 65, false, false, 114, 0, 0, 0, 0, 0, [])), (65, (.aload_n 0, 66, false, false, 0, 0, 0, 0, 0, 0, [])), (66, (.getfield 186, 69, false, false, 15, 9, 0, 0, 0, 0, [])), (69, (.bipush 6, 71, false, false, 0, 0, 0, 0, 6, 0, [])), (71, (.if_icmp .ne 5, 74, false, false, 76, 0, 0, 0, 0, 0, [])), (74, (.iconst 0, 75, false, false, 0, 0, 0, 0, 0, 0, [])), (75, (.ireturn, 76, false, false, 0, 0, 1, 0, 0, 0, [])), (76, (.aload_n 0, 77, false, false, 0, 0, 0, 0, 0, 0, [])), (77, (.dup, 78, false, false, 0, 0, 0, 0, 0, 0, [])), (78, (.getfield 186, 81, false, false, 15, 9, 0, 0, 0, 0, [])), (81, (.iconst 1, 82, false, false, 0, 0, 0, 0, 1, 0, [])), (82, (.iadd, 83, false, false, 0, 0, 0, 0, 0, 0, [])), (83, (.putfield 186, 86, false, false, 15, 9, 0, 0, 0, 0, [])), (86, (.aload_n 0, 87, false, false, 0, 0, 0, 0, 0, 0, []))]),
  (126, [(87, (.invokevirtual 197, 90, false, false, 132, 0, 1, 15, 0, 0, [])), (90, (.ifCond .ne 5, 93, false, false, 95, 0, 0, 0, 0, 0, [])), (93, (.iconst 0, 94, false, false, 0, 0, 0, 0, 0, 0, [])), (94, (.ireturn, 95, false, false, 0, 0, 1, 0, 0, 0, [])), (95, (.aload_n 0, 96, false, false, 0, 0, 0, 0, 0, 0, [])), (96, (.dup, 97, false, false, 0, 0, 0, 0, 0, 0, [])), (97, (.getfield 186, 100, false, false, 15, 9, 0, 0, 0, 0, [])), (100, (.iconst 1, 101, false, false, 0, 0, 0, 0, 1, 0, [])), (101, (.isub, 102, false, false, 0, 0, 0, 0, 0, 0, [])), (102, (.putfield 186, 105, false, false, 15, 9, 0, 0, 0, 0, [])), (105, (.aload_n 0, 106, false, false, 0, 0, 0, 0, 0, 0, [])), (106, (.bipush 104, 108, false, false, 0, 0, 0, 0, 104, 0, [])), (108, (.iconst 0, 109, false, false, 0, 0, 0, 0, 0, 0, [])), (109, (.invokevirtual 171, 112, false, false, 128, 2, 0, 15, 0, 0, [])), (112, (.iconst 1, 113, false, false, 0, 0, 0, 0, 1, 0, [])), (113, (.ireturn, 114, false, false, 0, 0, 1, 0, 0, 0, [])), (114, (.aload_n 0, 115, false, false, 0, 0, 0, 0, 0, 0, [])), (115, (.invokevirtual 200, 118, false, false, 131, 0, 1, 15, 0, 0, [])), (118, (.ifCond .ne 5, 121, false, false, 123, 0, 0, 0, 0, 0, [])), (121, (.iconst 0, 122, false, false, 0, 0, 0, 0, 0, 0, [])), (122, (.ireturn, 123, false, false, 0, 0, 1, 0, 0, 0, [])), (123, (.aload_n 0, 124, false, false, 0, 0, 0, 0, 0, 0, [])), (124, (.bipush 60, 126, false, false, 0, 0, 0, 0, 60, 0, [])), (126, (.invokevirtual 183, 129, false, false, 127, 1, 1, 15, 0, 0, []))]),
  (169, [(129, (.istore_n 1, 130, false, false, 1, 0, 0, 0, 0, 0, [])), (130, (.iload_n 1, 131, false, false, 1, 0, 0, 0, 0, 0, [])), (131, (.ifCond .ne 12, 134, false, true, 143, 0, 0, 0, 0, 0, [])), (134, (.aload_n 0, 135, false, false, 0, 0, 0, 0, 0, 0, [])), (135, (.bipush 62, 137, false, false, 0, 0, 0, 0, 62, 0, [])), (137, (.invokevirtual 183, 140, false, false, 127, 1, 1, 15, 0, 0, [])), (140, (.ifCond .eq 10, 143, true, false, 150, 0, 0, 0, 0, 0, [])), (143, (.aload_n 0, 144, false, false, 0, 0, 0, 0, 0, 0, [])), (144, (.invokevirtual 200, 147, false, false, 131, 0, 1, 15, 0, 0, [])), (147, (.ifCond .ne 5, 150, false, false, 152, 0, 0, 0, 0, 0, [])), (150, (.iconst 0, 151, false, false, 0, 0, 0, 0, 0, 0, [])), (151, (.ireturn, 152, false, false, 0, 0, 1, 0, 0, 0, [])), (152, (.aload_n 0, 153, false, false, 0, 0, 0, 0, 0, 0, [])), (153, (.iload_n 1, 154, false, false, 1, 0, 0, 0, 0, 0, [])), (154, (.ifCond .eq 8, 157, false, false, 162, 0, 0, 0, 0, 0, [])), (157, (.bipush 102, 159, false, false, 0, 0, 0, 0, 102, 0, [])), (159, (.goto 5, 162, false, false, 164, 0, 0, 0, 0, 0, [])), (162, (.bipush 103, 164, false, false, 0, 0, 0, 0, 103, 0, [])), (164, (.iconst 0, 165, false, false, 0, 0, 0, 0, 0, 0, [])), (165, (.invokevirtual 171, 168, false, false, 128, 2, 0, 15, 0, 0, [])), (168, (.iconst 1, 169, false, false, 0, 0, 0, 0, 1, 0, [])), (169, (.ireturn, 170, false, false, 0, 0, 1, 0, 0, 0, []))])], 0, [])
set_option maxRecDepth 100000 in
theorem v_X12_readAtom : VE MYT dflT E_X12_readAtom := ⟨⟨⟨⟨⟨dX12_readAtom_0, rfl⟩, rfl⟩, ⟨⟨dX12_readAtom_1, rfl⟩, rfl⟩, ⟨⟨dX12_readAtom_3, rfl⟩, Or.inr ⟨by decide, ⟨_, my_127, sX12_183⟩, fun q => absurd q (by decide)⟩⟩, ⟨⟨dX12_readAtom_6, rfl⟩, rfl⟩, ⟨⟨dX12_readAtom_9, rfl⟩, rfl⟩, ⟨⟨dX12_readAtom_10, rfl⟩, Or.inl ⟨by decide, _, _, fX12_186⟩⟩, ⟨⟨dX12_readAtom_13, rfl⟩, rfl⟩, ⟨⟨dX12_readAtom_15, rfl⟩, rfl⟩, ⟨⟨dX12_readAtom_18, rfl⟩, rfl⟩, ⟨⟨dX12_readAtom_19, rfl⟩, Or.inr (Or.inl ⟨rfl, rfl⟩)⟩, ⟨⟨dX12_readAtom_20, rfl⟩, rfl⟩, ⟨⟨dX12_readAtom_21, rfl⟩, trivial⟩, ⟨⟨dX12_readAtom_22, rfl⟩, Or.inl ⟨by decide, _, _, fX12_186⟩⟩, ⟨⟨dX12_readAtom_25, rfl⟩, rfl⟩, ⟨⟨dX12_readAtom_26, rfl⟩, trivial⟩, ⟨⟨dX12_readAtom_27, rfl⟩, Or.inl ⟨rfl, fX12_186⟩⟩, ⟨⟨dX12_readAtom_30, rfl⟩, rfl⟩, ⟨⟨dX12_readAtom_31, rfl⟩, Or.inr ⟨by decide, ⟨_, my_134, sX12_189⟩, fun q => absurd q (by decide)⟩⟩, ⟨⟨dX12_readAtom_34, rfl⟩, rfl⟩, ⟨⟨dX12_readAtom_37, rfl⟩, rfl⟩, ⟨⟨dX12_readAtom_38, rfl⟩, Or.inr (Or.inl ⟨rfl, rfl⟩)⟩, ⟨⟨dX12_readAtom_39, rfl⟩, rfl⟩, ⟨⟨dX12_readAtom_40, rfl⟩, trivial⟩, ⟨⟨dX12_readAtom_41, rfl⟩, Or.inl ⟨by decide, _, _, fX12_186⟩⟩, trivial⟩,
  ⟨⟨⟨dX12_readAtom_44, rfl⟩, rfl⟩, ⟨⟨dX12_readAtom_45, rfl⟩, trivial⟩, ⟨⟨dX12_readAtom_46, rfl⟩, Or.inl ⟨rfl, fX12_186⟩⟩, ⟨⟨dX12_readAtom_49, rfl⟩, rfl⟩, ⟨⟨dX12_readAtom_50, rfl⟩, rfl⟩, ⟨⟨dX12_readAtom_52, rfl⟩, Or.inr ⟨by decide, ⟨_, my_127, sX12_183⟩, fun q => absurd q (by decide)⟩⟩, ⟨⟨dX12_readAtom_55, rfl⟩, Or.inr (Or.inl ⟨rfl, rfl⟩)⟩, ⟨⟨dX12_readAtom_56, rfl⟩, rfl⟩, ⟨⟨dX12_readAtom_57, rfl⟩, Or.inr ⟨rfl, rfl, _, rfl, rfl, rfl⟩⟩, ⟨⟨dX12_readAtom_59, rfl⟩, Or.inr ⟨by decide, ⟨_, my_126, sX12_194⟩, fun q => absurd q (by decide)⟩⟩, ⟨⟨dX12_readAtom_62, rfl⟩, rfl⟩, ⟨⟨dX12_readAtom_65, rfl⟩, rfl⟩, ⟨⟨dX12_readAtom_66, rfl⟩, Or.inl ⟨by decide, _, _, fX12_186⟩⟩, ⟨⟨dX12_readAtom_69, rfl⟩, rfl⟩, ⟨⟨dX12_readAtom_71, rfl⟩, rfl⟩, ⟨⟨dX12_readAtom_74, rfl⟩, rfl⟩, ⟨⟨dX12_readAtom_75, rfl⟩, Or.inr (Or.inl ⟨rfl, rfl⟩)⟩, ⟨⟨dX12_readAtom_76, rfl⟩, rfl⟩, ⟨⟨dX12_readAtom_77, rfl⟩, trivial⟩, ⟨⟨dX12_readAtom_78, rfl⟩, Or.inl ⟨by decide, _, _, fX12_186⟩⟩, ⟨⟨dX12_readAtom_81, rfl⟩, rfl⟩, ⟨⟨dX12_readAtom_82, rfl⟩, trivial⟩, ⟨⟨dX12_readAtom_83, rfl⟩, Or.inl ⟨rfl, fX12_186⟩⟩, ⟨⟨dX12_readAtom_86, rfl⟩, rfl⟩, trivial⟩,
  ⟨⟨⟨dX12_readAtom_87, rfl⟩, Or.inr ⟨by decide, ⟨_, my_132, sX12_197⟩, fun q => absurd q (by decide)⟩⟩, ⟨⟨dX12_readAtom_90, rfl⟩, rfl⟩, ⟨⟨dX12_readAtom_93, rfl⟩, rfl⟩, ⟨⟨dX12_readAtom_94, rfl⟩, Or.inr (Or.inl ⟨rfl, rfl⟩)⟩, ⟨⟨dX12_readAtom_95, rfl⟩, rfl⟩, ⟨⟨dX12_readAtom_96, rfl⟩, trivial⟩, ⟨⟨dX12_readAtom_97, rfl⟩, Or.inl ⟨by decide, _, _, fX12_186⟩⟩, ⟨⟨dX12_readAtom_100, rfl⟩, rfl⟩, ⟨⟨dX12_readAtom_101, rfl⟩, trivial⟩, ⟨⟨dX12_readAtom_102, rfl⟩, Or.inl ⟨rfl, fX12_186⟩⟩, ⟨⟨dX12_readAtom_105, rfl⟩, rfl⟩, ⟨⟨dX12_readAtom_106, rfl⟩, rfl⟩, ⟨⟨dX12_readAtom_108, rfl⟩, rfl⟩, ⟨⟨dX12_readAtom_109, rfl⟩, Or.inr ⟨by decide, ⟨_, my_128, sX12_171⟩, fun q => absurd q (by decide)⟩⟩, ⟨⟨dX12_readAtom_112, rfl⟩, rfl⟩, ⟨⟨dX12_readAtom_113, rfl⟩, Or.inr (Or.inl ⟨rfl, rfl⟩)⟩, ⟨⟨dX12_readAtom_114, rfl⟩, rfl⟩, ⟨⟨dX12_readAtom_115, rfl⟩, Or.inr ⟨by decide, ⟨_, my_131, sX12_200⟩, fun q => absurd q (by decide)⟩⟩, ⟨⟨dX12_readAtom_118, rfl⟩, rfl⟩, ⟨⟨dX12_readAtom_121, rfl⟩, rfl⟩, ⟨⟨dX12_readAtom_122, rfl⟩, Or.inr (Or.inl ⟨rfl, rfl⟩)⟩, ⟨⟨dX12_readAtom_123, rfl⟩, rfl⟩, ⟨⟨dX12_readAtom_124, rfl⟩, rfl⟩, ⟨⟨dX12_readAtom_126, rfl⟩, Or.inr ⟨by decide, ⟨_, my_127, sX12_183⟩, fun q => absurd q (by decide)⟩⟩, trivial⟩,
  ⟨⟨⟨dX12_readAtom_129, rfl⟩, rfl⟩, ⟨⟨dX12_readAtom_130, rfl⟩, rfl⟩, ⟨⟨dX12_readAtom_131, rfl⟩, rfl⟩, ⟨⟨dX12_readAtom_134, rfl⟩, rfl⟩, ⟨⟨dX12_readAtom_135, rfl⟩, rfl⟩, ⟨⟨dX12_readAtom_137, rfl⟩, Or.inr ⟨by decide, ⟨_, my_127, sX12_183⟩, fun q => absurd q (by decide)⟩⟩, ⟨⟨dX12_readAtom_140, rfl⟩, rfl⟩, ⟨⟨dX12_readAtom_143, rfl⟩, rfl⟩, ⟨⟨dX12_readAtom_144, rfl⟩, Or.inr ⟨by decide, ⟨_, my_131, sX12_200⟩, fun q => absurd q (by decide)⟩⟩, ⟨⟨dX12_readAtom_147, rfl⟩, rfl⟩, ⟨⟨dX12_readAtom_150, rfl⟩, rfl⟩, ⟨⟨dX12_readAtom_151, rfl⟩, Or.inr (Or.inl ⟨rfl, rfl⟩)⟩, ⟨⟨dX12_readAtom_152, rfl⟩, rfl⟩, ⟨⟨dX12_readAtom_153, rfl⟩, rfl⟩, ⟨⟨dX12_readAtom_154, rfl⟩, rfl⟩, ⟨⟨dX12_readAtom_157, rfl⟩, rfl⟩, ⟨⟨dX12_readAtom_159, rfl⟩, rfl⟩, ⟨⟨dX12_readAtom_162, rfl⟩, rfl⟩, ⟨⟨dX12_readAtom_164, rfl⟩, rfl⟩, ⟨⟨dX12_readAtom_165, rfl⟩, Or.inr ⟨by decide, ⟨_, my_128, sX12_171⟩, fun q => absurd q (by decide)⟩⟩, ⟨⟨dX12_readAtom_168, rfl⟩, rfl⟩, ⟨⟨dX12_readAtom_169, rfl⟩, Or.inr (Or.inl ⟨rfl, rfl⟩)⟩, trivial⟩, trivial⟩, by decide, Or.inl ⟨rfl, by decide, rfl⟩⟩
set_option maxRecDepth 100000 in
theorem g_X12_readAtom_0 (S : sT) (call : cT) (n : Nat) (a0 : Nat) (h : pH) : bd S call dflT E_X12_readAtom (n + 1) 0 [some (.ref a0), none] [] h = (rC h (.ref a0) 15 (cI (call 127 [.ref a0, .int 40] h) (fun y2 h1 => (if y2 = 0 then rC h1 (.ref a0) 15 (cI (call 126 [.ref a0, .retAddr 133] h1) (fun y4 h3 => (if y4 = 0 then rC h3 (.ref a0) 15 (cI (call 131 [.ref a0] h3) (fun y6 h5 => (if y6 = 0 then zR 0 (some (.inl (some (.int 0)), h5)) else rC h5 (.ref a0) 15 (cI (call 127 [.ref a0, .int 60] h5) (fun y8 h7 => (if y8 = 0 then rC h7 (.ref a0) 15 (cI (call 127 [.ref a0, .int 62] h7) (fun y10 h9 => (if y10 = 0 then zR 0 (some (.inl (some (.int 0)), h9)) else bd S call dflT E_X12_readAtom n 143 [some (.ref a0), some (.int y8)] [] h9))) else bd S call dflT E_X12_readAtom n 143 [some (.ref a0), some (.int y8)] [] h7)))))) else gI h3 (.ref a0) 15 9 (fun y11 => (if y11 = 6 then zR 0 (some (.inl (some (.int 0)), h3)) else gI h3 (.ref a0) 15 9 (fun y12 => pF h3 (.ref a0) 15 9 (.int (y12 + 1)) (fun h13 => rC h13 (.ref a0) 15 (cI (call 132 [.ref a0] h13) (fun y15 h14 => (if y15 = 0 then zR 0 (some (.inl (some (.int 0)), h14)) else gI h14 (.ref a0) 15 9 (fun y16 => pF h14 (.ref a0) 15 9 (.int (y16 - 1)) (fun h17 => rC h17 (.ref a0) 15 (cU (call 128 [.ref a0, .int 104, .int 0] h17) (fun h18 => zR 1 (some (.inl (some (.int 1)), h18)))))))))))))))) else gI h1 (.ref a0) 15 9 (fun y19 => (if y19 = 6 then zR 0 (some (.inl (some (.int 0)), h1)) else gI h1 (.ref a0) 15 9 (fun y20 => pF h1 (.ref a0) 15 9 (.int (y20 + 1)) (fun h21 => rC h21 (.ref a0) 15 (cI (call 134 [.ref a0] h21) (fun y23 h22 => (if y23 = 0 then zR 0 (some (.inl (some (.int 0)), h22)) else gI h22 (.ref a0) 15 9 (fun y24 => pF h22 (.ref a0) 15 9 (.int (y24 - 1)) (fun h25 => rC h25 (.ref a0) 15 (cI (call 127 [.ref a0, .int 41] h25) (fun y27 h26 => zR y27 (some (.inl (some (.int y27)), h26))))))))))))))))) := rfl
set_option maxRecDepth 100000 in
theorem g_X12_readAtom_143 (S : sT) (call : cT) (n : Nat) (a0 : Nat) (x1 : Int32) (h : pH) : bd S call dflT E_X12_readAtom (n + 1) 143 [some (.ref a0), some (.int x1)] [] h = (rC h (.ref a0) 15 (cI (call 131 [.ref a0] h) (fun y2 h1 => (if y2 = 0 then zR 0 (some (.inl (some (.int 0)), h1)) else (if x1 = 0 then rC h1 (.ref a0) 15 (cU (call 128 [.ref a0, .int 103, .int 0] h1) (fun h3 => zR 1 (some (.inl (some (.int 1)), h3)))) else rC h1 (.ref a0) 15 (cU (call 128 [.ref a0, .int 102, .int 0] h1) (fun h4 => zR 1 (some (.inl (some (.int 1)), h4))))))))) := rfl
theorem dX12_readAllOf_0 : decode cX12_readAllOf 0 = .ok (.aload_n 0, 1) := by decide +kernel
theorem dX12_readAllOf_1 : decode cX12_readAllOf 1 = .ok (.invokevirtual 197, 3) := by decide +kernel
theorem dX12_readAllOf_4 : decode cX12_readAllOf 4 = .ok (.ifCond .ne 5, 3) := by decide +kernel
theorem dX12_readAllOf_7 : decode cX12_readAllOf 7 = .ok (.iconst 0, 1) := by decide +kernel
theorem dX12_readAllOf_8 : decode cX12_readAllOf 8 = .ok (.ireturn, 1) := by decide +kernel
theorem dX12_readAllOf_9 : decode cX12_readAllOf 9 = .ok (.aload_n 0, 1) := by decide +kernel
theorem dX12_readAllOf_10 : decode cX12_readAllOf 10 = .ok (.ldc 203, 2) := by decide +kernel
theorem dX12_readAllOf_12 : decode cX12_readAllOf 12 = .ok (.invokevirtual 194, 3) := by decide +kernel
theorem dX12_readAllOf_15 : decode cX12_readAllOf 15 = .ok (.ifCond .eq 22, 3) := by decide +kernel
theorem dX12_readAllOf_18 : decode cX12_readAllOf 18 = .ok (.aload_n 0, 1) := by decide +kernel
theorem dX12_readAllOf_19 : decode cX12_readAllOf 19 = .ok (.invokevirtual 197, 3) := by decide +kernel
theorem dX12_readAllOf_22 : decode cX12_readAllOf 22 = .ok (.ifCond .ne 5, 3) := by decide +kernel
theorem dX12_readAllOf_25 : decode cX12_readAllOf 25 = .ok (.iconst 0, 1) := by decide +kernel
theorem dX12_readAllOf_26 : decode cX12_readAllOf 26 = .ok (.ireturn, 1) := by decide +kernel
theorem dX12_readAllOf_27 : decode cX12_readAllOf 27 = .ok (.aload_n 0, 1) := by decide +kernel
theorem dX12_readAllOf_28 : decode cX12_readAllOf 28 = .ok (.bipush 105, 2) := by decide +kernel
theorem dX12_readAllOf_30 : decode cX12_readAllOf 30 = .ok (.iconst 0, 1) := by decide +kernel
theorem dX12_readAllOf_31 : decode cX12_readAllOf 31 = .ok (.invokevirtual 171, 3) := by decide +kernel
theorem dX12_readAllOf_34 : decode cX12_readAllOf 34 = .ok (.goto (-25), 3) := by decide +kernel
theorem dX12_readAllOf_37 : decode cX12_readAllOf 37 = .ok (.iconst 1, 1) := by decide +kernel
theorem dX12_readAllOf_38 : decode cX12_readAllOf 38 = .ok (.ireturn, 1) := by decide +kernel
noncomputable def E_X12_readAllOf : mE := (mX12_readAllOf, [(38, [(0, (.aload_n 0, 1, false, false, 0, 0, 0, 0, 0, 0, [])), (1, (.invokevirtual 197, 4, false, false, 132, 0, 1, 15, 0, 0, [])), (4, (.ifCond .ne 5, 7, false, true, 9, 0, 0, 0, 0, 0, [])), (7, (.iconst 0, 8, false, false, 0, 0, 0, 0, 0, 0, [])), (8, (.ireturn, 9, false, false, 0, 0, 1, 0, 0, 0, [])), (9, (.aload_n 0, 10, false, false, 0, 0, 0, 0, 0, 0, [])), (10, (.ldc 203, 12, false, false, 141, 41, 1, 0, 0, 0, [])), (12, (.invokevirtual 194, 15, false, false, 126, 1, 1, 15, 0, 0, [])), (15, (.ifCond .eq 22, 18, false, false, 37, 0, 0, 0, 0, 0, [])), (18, (.aload_n 0, 19, false, false, 0, 0, 0, 0, 0, 0, [])), (19, (.invokevirtual 197, 22, false, false, 132, 0, 1, 15, 0, 0, [])), (22, (.ifCond .ne 5, 25, false, false, 27, 0, 0, 0, 0, 0, [])), (25, (.iconst 0, 26, false, false, 0, 0, 0, 0, 0, 0, [])), (26, (.ireturn, 27, false, false, 0, 0, 1, 0, 0, 0, [])), (27, (.aload_n 0, 28, false, false, 0, 0, 0, 0, 0, 0, [])), (28, (.bipush 105, 30, false, false, 0, 0, 0, 0, 105, 0, [])), (30, (.iconst 0, 31, false, false, 0, 0, 0, 0, 0, 0, [])), (31, (.invokevirtual 171, 34, false, false, 128, 2, 0, 15, 0, 0, [])), (34, (.goto (-25), 37, false, true, 9, 0, 0, 0, 0, 0, [])), (37, (.iconst 1, 38, false, false, 0, 0, 0, 0, 1, 0, [])), (38, (.ireturn, 39, false, false, 0, 0, 1, 0, 0, 0, []))])], 0, [])
set_option maxRecDepth 100000 in
theorem v_X12_readAllOf : VE MYT dflT E_X12_readAllOf := ⟨⟨⟨⟨⟨dX12_readAllOf_0, rfl⟩, rfl⟩, ⟨⟨dX12_readAllOf_1, rfl⟩, Or.inr ⟨by decide, ⟨_, my_132, sX12_197⟩, fun q => absurd q (by decide)⟩⟩, ⟨⟨dX12_readAllOf_4, rfl⟩, rfl⟩, ⟨⟨dX12_readAllOf_7, rfl⟩, rfl⟩, ⟨⟨dX12_readAllOf_8, rfl⟩, Or.inr (Or.inl ⟨rfl, rfl⟩)⟩, ⟨⟨dX12_readAllOf_9, rfl⟩, rfl⟩, ⟨⟨dX12_readAllOf_10, rfl⟩, Or.inr ⟨rfl, rfl, _, rfl, rfl, rfl⟩⟩, ⟨⟨dX12_readAllOf_12, rfl⟩, Or.inr ⟨by decide, ⟨_, my_126, sX12_194⟩, fun q => absurd q (by decide)⟩⟩, ⟨⟨dX12_readAllOf_15, rfl⟩, rfl⟩, ⟨⟨dX12_readAllOf_18, rfl⟩, rfl⟩, ⟨⟨dX12_readAllOf_19, rfl⟩, Or.inr ⟨by decide, ⟨_, my_132, sX12_197⟩, fun q => absurd q (by decide)⟩⟩, ⟨⟨dX12_readAllOf_22, rfl⟩, rfl⟩, ⟨⟨dX12_readAllOf_25, rfl⟩, rfl⟩, ⟨⟨dX12_readAllOf_26, rfl⟩, Or.inr (Or.inl ⟨rfl, rfl⟩)⟩, ⟨⟨dX12_readAllOf_27, rfl⟩, rfl⟩, ⟨⟨dX12_readAllOf_28, rfl⟩, rfl⟩, ⟨⟨dX12_readAllOf_30, rfl⟩, rfl⟩, ⟨⟨dX12_readAllOf_31, rfl⟩, Or.inr ⟨by decide, ⟨_, my_128, sX12_171⟩, fun q => absurd q (by decide)⟩⟩, ⟨⟨dX12_readAllOf_34, rfl⟩, rfl⟩, ⟨⟨dX12_readAllOf_37, rfl⟩, rfl⟩, ⟨⟨dX12_readAllOf_38, rfl⟩, Or.inr (Or.inl ⟨rfl, rfl⟩)⟩, trivial⟩, trivial⟩, by decide, Or.inl ⟨rfl, by decide, rfl⟩⟩
set_option maxRecDepth 100000 in
theorem g_X12_readAllOf_0 (S : sT) (call : cT) (n : Nat) (a0 : Nat) (h : pH) : bd S call dflT E_X12_readAllOf (n + 1) 0 [some (.ref a0)] [] h = (rC h (.ref a0) 15 (cI (call 132 [.ref a0] h) (fun y2 h1 => (if y2 = 0 then zR 0 (some (.inl (some (.int 0)), h1)) else bd S call dflT E_X12_readAllOf n 9 [some (.ref a0)] [] h1)))) := rfl
set_option maxRecDepth 100000 in
theorem g_X12_readAllOf_9 (S : sT) (call : cT) (n : Nat) (a0 : Nat) (h : pH) : bd S call dflT E_X12_readAllOf (n + 1) 9 [some (.ref a0)] [] h = (rC h (.ref a0) 15 (cI (call 126 [.ref a0, .retAddr 141] h) (fun y2 h1 => (if y2 = 0 then zR 1 (some (.inl (some (.int 1)), h1)) else rC h1 (.ref a0) 15 (cI (call 132 [.ref a0] h1) (fun y4 h3 => (if y4 = 0 then zR 0 (some (.inl (some (.int 0)), h3)) else rC h3 (.ref a0) 15 (cU (call 128 [.ref a0, .int 105, .int 0] h3) (fun h5 => bd S call dflT E_X12_readAllOf n 9 [some (.ref a0)] [] h5))))))))) := rfl
theorem dX12_readCond_0 : decode cX12_readCond 0 = .ok (.aload_n 0, 1) := by decide +kernel
theorem dX12_readCond_1 : decode cX12_readCond 1 = .ok (.invokevirtual 205, 3) := by decide +kernel
theorem dX12_readCond_4 : decode cX12_readCond 4 = .ok (.ifCond .ne 5, 3) := by decide +kernel
theorem dX12_readCond_7 : decode cX12_readCond 7 = .ok (.iconst 0, 1) := by decide +kernel
theorem dX12_readCond_8 : decode cX12_readCond 8 = .ok (.ireturn, 1) := by decide +kernel
theorem dX12_readCond_9 : decode cX12_readCond 9 = .ok (.aload_n 0, 1) := by decide +kernel
theorem dX12_readCond_10 : decode cX12_readCond 10 = .ok (.ldc 208, 2) := by decide +kernel
theorem dX12_readCond_12 : decode cX12_readCond 12 = .ok (.invokevirtual 194, 3) := by decide +kernel
theorem dX12_readCond_15 : decode cX12_readCond 15 = .ok (.ifCond .eq 22, 3) := by decide +kernel
theorem dX12_readCond_18 : decode cX12_readCond 18 = .ok (.aload_n 0, 1) := by decide +kernel
theorem dX12_readCond_19 : decode cX12_readCond 19 = .ok (.invokevirtual 205, 3) := by decide +kernel
theorem dX12_readCond_22 : decode cX12_readCond 22 = .ok (.ifCond .ne 5, 3) := by decide +kernel
theorem dX12_readCond_25 : decode cX12_readCond 25 = .ok (.iconst 0, 1) := by decide +kernel
theorem dX12_readCond_26 : decode cX12_readCond 26 = .ok (.ireturn, 1) := by decide +kernel
theorem dX12_readCond_27 : decode cX12_readCond 27 = .ok (.aload_n 0, 1) := by decide +kernel
theorem dX12_readCond_28 : decode cX12_readCond 28 = .ok (.bipush 106, 2) := by decide +kernel
theorem dX12_readCond_30 : decode cX12_readCond 30 = .ok (.iconst 0, 1) := by decide +kernel
theorem dX12_readCond_31 : decode cX12_readCond 31 = .ok (.invokevirtual 171, 3) := by decide +kernel
theorem dX12_readCond_34 : decode cX12_readCond 34 = .ok (.goto (-25), 3) := by decide +kernel
theorem dX12_readCond_37 : decode cX12_readCond 37 = .ok (.iconst 1, 1) := by decide +kernel
theorem dX12_readCond_38 : decode cX12_readCond 38 = .ok (.ireturn, 1) := by decide +kernel
noncomputable def E_X12_readCond : mE := (mX12_readCond, [(38, [(0, (.aload_n 0, 1, false, false, 0, 0, 0, 0, 0, 0, [])), (1, (.invokevirtual 205, 4, false, false, 133, 0, 1, 15, 0, 0, [])), (4, (.ifCond .ne 5, 7, false, true, 9, 0, 0, 0, 0, 0, [])), (7, (.iconst 0, 8, false, false, 0, 0, 0, 0, 0, 0, [])), (8, (.ireturn, 9, false, false, 0, 0, 1, 0, 0, 0, [])), (9, (.aload_n 0, 10, false, false, 0, 0, 0, 0, 0, 0, [])), (10, (.ldc 208, 12, false, false, 142, 42, 1, 0, 0, 0, [])), (12, (.invokevirtual 194, 15, false, false, 126, 1, 1, 15, 0, 0, [])), (15, (.ifCond .eq 22, 18, false, false, 37, 0, 0, 0, 0, 0, [])), (18, (.aload_n 0, 19, false, false, 0, 0, 0, 0, 0, 0, [])), (19, (.invokevirtual 205, 22, false, false, 133, 0, 1, 15, 0, 0, [])), (22, (.ifCond .ne 5, 25, false, false, 27, 0, 0, 0, 0, 0, [])), (25, (.iconst 0, 26, false, false, 0, 0, 0, 0, 0, 0, [])), (26, (.ireturn, 27, false, false, 0, 0, 1, 0, 0, 0, [])), (27, (.aload_n 0, 28, false, false, 0, 0, 0, 0, 0, 0, [])), (28, (.bipush 106, 30, false, false, 0, 0, 0, 0, 106, 0, [])), (30, (.iconst 0, 31, false, false, 0, 0, 0, 0, 0, 0, [])), (31, (.invokevirtual 171, 34, false, false, 128, 2, 0, 15, 0, 0, [])), (34, (.goto (-25), 37, false, true, 9, 0, 0, 0, 0, 0, [])), (37, (.iconst 1, 38, false, false, 0, 0, 0, 0, 1, 0, [])), (38, (.ireturn, 39, false, false, 0, 0, 1, 0, 0, 0, []))])], 0, [])
set_option maxRecDepth 100000 in
theorem v_X12_readCond : VE MYT dflT E_X12_readCond := ⟨⟨⟨⟨⟨dX12_readCond_0, rfl⟩, rfl⟩, ⟨⟨dX12_readCond_1, rfl⟩, Or.inr ⟨by decide, ⟨_, my_133, sX12_205⟩, fun q => absurd q (by decide)⟩⟩, ⟨⟨dX12_readCond_4, rfl⟩, rfl⟩, ⟨⟨dX12_readCond_7, rfl⟩, rfl⟩, ⟨⟨dX12_readCond_8, rfl⟩, Or.inr (Or.inl ⟨rfl, rfl⟩)⟩, ⟨⟨dX12_readCond_9, rfl⟩, rfl⟩, ⟨⟨dX12_readCond_10, rfl⟩, Or.inr ⟨rfl, rfl, _, rfl, rfl, rfl⟩⟩, ⟨⟨dX12_readCond_12, rfl⟩, Or.inr ⟨by decide, ⟨_, my_126, sX12_194⟩, fun q => absurd q (by decide)⟩⟩, ⟨⟨dX12_readCond_15, rfl⟩, rfl⟩, ⟨⟨dX12_readCond_18, rfl⟩, rfl⟩, ⟨⟨dX12_readCond_19, rfl⟩, Or.inr ⟨by decide, ⟨_, my_133, sX12_205⟩, fun q => absurd q (by decide)⟩⟩, ⟨⟨dX12_readCond_22, rfl⟩, rfl⟩, ⟨⟨dX12_readCond_25, rfl⟩, rfl⟩, ⟨⟨dX12_readCond_26, rfl⟩, Or.inr (Or.inl ⟨rfl, rfl⟩)⟩, ⟨⟨dX12_readCond_27, rfl⟩, rfl⟩, ⟨⟨dX12_readCond_28, rfl⟩, rfl⟩, ⟨⟨dX12_readCond_30, rfl⟩, rfl⟩, ⟨⟨dX12_readCond_31, rfl⟩, Or.inr ⟨by decide, ⟨_, my_128, sX12_171⟩, fun q => absurd q (by decide)⟩⟩, ⟨⟨dX12_readCond_34, rfl⟩, rfl⟩, ⟨⟨dX12_readCond_37, rfl⟩, rfl⟩, ⟨⟨dX12_readCond_38, rfl⟩, Or.inr (Or.inl ⟨rfl, rfl⟩)⟩, trivial⟩, trivial⟩, by decide, Or.inl ⟨rfl, by decide, rfl⟩⟩
set_option maxRecDepth 100000 in
theorem g_X12_readCond_0 (S : sT) (call : cT) (n : Nat) (a0 : Nat) (h : pH) : bd S call dflT E_X12_readCond (n + 1) 0 [some (.ref a0)] [] h = (rC h (.ref a0) 15 (cI (call 133 [.ref a0] h) (fun y2 h1 => (if y2 = 0 then zR 0 (some (.inl (some (.int 0)), h1)) else bd S call dflT E_X12_readCond n 9 [some (.ref a0)] [] h1)))) := rfl
set_option maxRecDepth 100000 in
theorem g_X12_readCond_9 (S : sT) (call : cT) (n : Nat) (a0 : Nat) (h : pH) : bd S call dflT E_X12_readCond (n + 1) 9 [some (.ref a0)] [] h = (rC h (.ref a0) 15 (cI (call 126 [.ref a0, .retAddr 142] h) (fun y2 h1 => (if y2 = 0 then zR 1 (some (.inl (some (.int 1)), h1)) else rC h1 (.ref a0) 15 (cI (call 133 [.ref a0] h1) (fun y4 h3 => (if y4 = 0 then zR 0 (some (.inl (some (.int 0)), h3)) else rC h3 (.ref a0) 15 (cU (call 128 [.ref a0, .int 106, .int 0] h3) (fun h5 => bd S call dflT E_X12_readCond n 9 [some (.ref a0)] [] h5))))))))) := rfl
theorem dX12_readIf_0 : decode cX12_readIf 0 = .ok (.aload_n 0, 1) := by decide +kernel
theorem dX12_readIf_1 : decode cX12_readIf 1 = .ok (.ldc 253, 2) := by decide +kernel
theorem dX12_readIf_3 : decode cX12_readIf 3 = .ok (.invokevirtual 194, 3) := by decide +kernel
theorem dX12_readIf_6 : decode cX12_readIf 6 = .ok (.ifCond .eq 31, 3) := by decide +kernel
theorem dX12_readIf_9 : decode cX12_readIf 9 = .ok (.aload_n 0, 1) := by decide +kernel
theorem dX12_readIf_10 : decode cX12_readIf 10 = .ok (.iconst 0, 1) := by decide +kernel
theorem dX12_readIf_11 : decode cX12_readIf 11 = .ok (.putfield 186, 3) := by decide +kernel
theorem dX12_readIf_14 : decode cX12_readIf 14 = .ok (.aload_n 0, 1) := by decide +kernel
theorem dX12_readIf_15 : decode cX12_readIf 15 = .ok (.invokevirtual 189, 3) := by decide +kernel
theorem dX12_readIf_18 : decode cX12_readIf 18 = .ok (.ifCond .ne 5, 3) := by decide +kernel
theorem dX12_readIf_21 : decode cX12_readIf 21 = .ok (.iconst 0, 1) := by decide +kernel
theorem dX12_readIf_22 : decode cX12_readIf 22 = .ok (.ireturn, 1) := by decide +kernel
theorem dX12_readIf_23 : decode cX12_readIf 23 = .ok (.aload_n 0, 1) := by decide +kernel
theorem dX12_readIf_24 : decode cX12_readIf 24 = .ok (.getfield 27, 3) := by decide +kernel
theorem dX12_readIf_27 : decode cX12_readIf 27 = .ok (.iload_n 1, 1) := by decide +kernel
theorem dX12_readIf_28 : decode cX12_readIf 28 = .ok (.iconst 5, 1) := by decide +kernel
theorem dX12_readIf_29 : decode cX12_readIf 29 = .ok (.iadd, 1) := by decide +kernel
theorem dX12_readIf_30 : decode cX12_readIf 30 = .ok (.aload_n 0, 1) := by decide +kernel
theorem dX12_readIf_31 : decode cX12_readIf 31 = .ok (.getfield 143, 3) := by decide +kernel
theorem dX12_readIf_34 : decode cX12_readIf 34 = .ok (.iastore, 1) := by decide +kernel
theorem dX12_readIf_35 : decode cX12_readIf 35 = .ok (.iconst 1, 1) := by decide +kernel
theorem dX12_readIf_36 : decode cX12_readIf 36 = .ok (.ireturn, 1) := by decide +kernel
theorem dX12_readIf_37 : decode cX12_readIf 37 = .ok (.iload_n 2, 1) := by decide +kernel
theorem dX12_readIf_38 : decode cX12_readIf 38 = .ok (.ifCond .ne 7, 3) := by decide +kernel
theorem dX12_readIf_41 : decode cX12_readIf 41 = .ok (.iconst 1, 1) := by decide +kernel
theorem dX12_readIf_42 : decode cX12_readIf 42 = .ok (.goto 4, 3) := by decide +kernel
theorem dX12_readIf_45 : decode cX12_readIf 45 = .ok (.iconst 0, 1) := by decide +kernel
theorem dX12_readIf_46 : decode cX12_readIf 46 = .ok (.ireturn, 1) := by decide +kernel
noncomputable def E_X12_readIf : mE := (mX12_readIf, [(38, [(0, (.aload_n 0, 1, false, false, 0, 0, 0, 0, 0, 0, [])), (1, (.ldc 253, 3, false, false, 132, 32, 1, 0, 0, 0, [])), (3, (.invokevirtual 194, 6, false, false, 126, 1, 1, 15, 0, 0, [])), (6, (.ifCond .eq 31, 9, false, false, 37, 0, 0, 0, 0, 0, [])), (9, (.aload_n 0, 10, false, false, 0, 0, 0, 0, 0, 0, [])), (10, (.iconst 0, 11, false, false, 0, 0, 0, 0, 0, 0, [])), (11, (.putfield 186, 14, false, false, 15, 9, 0, 0, 0, 0, [])), (14, (.aload_n 0, 15, false, false, 0, 0, 0, 0, 0, 0, [])), (15, (.invokevirtual 189, 18, false, false, 134, 0, 1, 15, 0, 0, [])), (18, (.ifCond .ne 5, 21, false, false, 23, 0, 0, 0, 0, 0, [])), (21, (.iconst 0, 22, false, false, 0, 0, 0, 0, 0, 0, [])), (22, (.ireturn, 23, false, false, 0, 0, 1, 0, 0, 0, [])), (23, (.aload_n 0, 24, false, false, 0, 0, 0, 0, 0, 0, [])), (24, (.getfield 27, 27, false, false, 15, 1, 1, 0, 0, 0, [])), (27, (.iload_n 1, 28, false, false, 1, 0, 0, 0, 0, 0, [])), (28, (.iconst 5, 29, false, false, 0, 0, 0, 0, 5, 0, [])), (29, (.iadd, 30, false, false, 0, 0, 0, 0, 0, 0, [])), (30, (.aload_n 0, 31, false, false, 0, 0, 0, 0, 0, 0, [])), (31, (.getfield 143, 34, false, false, 15, 12, 0, 0, 0, 0, [])), (34, (.iastore, 35, false, false, 0, 0, 0, 0, 0, 0, [])), (35, (.iconst 1, 36, false, false, 0, 0, 0, 0, 1, 0, [])), (36, (.ireturn, 37, false, false, 0, 0, 1, 0, 0, 0, [])), (37, (.iload_n 2, 38, false, false, 2, 0, 0, 0, 0, 0, [])), (38, (.ifCond .ne 7, 41, false, false, 45, 0, 0, 0, 0, 0, []))]),
  (46, [(41, (.iconst 1, 42, false, false, 0, 0, 0, 0, 1, 0, [])), (42, (.goto 4, 45, false, false, 46, 0, 0, 0, 0, 0, [])), (45, (.iconst 0, 46, false, false, 0, 0, 0, 0, 0, 0, [])), (46, (.ireturn, 47, false, false, 0, 0, 1, 0, 0, 0, []))])], 0, [])
set_option maxRecDepth 100000 in
theorem v_X12_readIf : VE MYT dflT E_X12_readIf := ⟨⟨⟨⟨⟨dX12_readIf_0, rfl⟩, rfl⟩, ⟨⟨dX12_readIf_1, rfl⟩, Or.inr ⟨rfl, rfl, _, rfl, rfl, rfl⟩⟩, ⟨⟨dX12_readIf_3, rfl⟩, Or.inr ⟨by decide, ⟨_, my_126, sX12_194⟩, fun q => absurd q (by decide)⟩⟩, ⟨⟨dX12_readIf_6, rfl⟩, rfl⟩, ⟨⟨dX12_readIf_9, rfl⟩, rfl⟩, ⟨⟨dX12_readIf_10, rfl⟩, rfl⟩, ⟨⟨dX12_readIf_11, rfl⟩, Or.inl ⟨rfl, fX12_186⟩⟩, ⟨⟨dX12_readIf_14, rfl⟩, rfl⟩, ⟨⟨dX12_readIf_15, rfl⟩, Or.inr ⟨by decide, ⟨_, my_134, sX12_189⟩, fun q => absurd q (by decide)⟩⟩, ⟨⟨dX12_readIf_18, rfl⟩, rfl⟩, ⟨⟨dX12_readIf_21, rfl⟩, rfl⟩, ⟨⟨dX12_readIf_22, rfl⟩, Or.inr (Or.inl ⟨rfl, rfl⟩)⟩, ⟨⟨dX12_readIf_23, rfl⟩, rfl⟩, ⟨⟨dX12_readIf_24, rfl⟩, Or.inl ⟨by decide, _, _, fX12_27⟩⟩, ⟨⟨dX12_readIf_27, rfl⟩, rfl⟩, ⟨⟨dX12_readIf_28, rfl⟩, rfl⟩, ⟨⟨dX12_readIf_29, rfl⟩, trivial⟩, ⟨⟨dX12_readIf_30, rfl⟩, rfl⟩, ⟨⟨dX12_readIf_31, rfl⟩, Or.inl ⟨by decide, _, _, fX12_143⟩⟩, ⟨⟨dX12_readIf_34, rfl⟩, trivial⟩, ⟨⟨dX12_readIf_35, rfl⟩, rfl⟩, ⟨⟨dX12_readIf_36, rfl⟩, Or.inr (Or.inl ⟨rfl, rfl⟩)⟩, ⟨⟨dX12_readIf_37, rfl⟩, rfl⟩, ⟨⟨dX12_readIf_38, rfl⟩, rfl⟩, trivial⟩,
  ⟨⟨⟨dX12_readIf_41, rfl⟩, rfl⟩, ⟨⟨dX12_readIf_42, rfl⟩, rfl⟩, ⟨⟨dX12_readIf_45, rfl⟩, rfl⟩, ⟨⟨dX12_readIf_46, rfl⟩, Or.inr (Or.inl ⟨rfl, rfl⟩)⟩, trivial⟩, trivial⟩, by decide, Or.inl ⟨rfl, by decide, rfl⟩⟩
set_option maxRecDepth 100000 in
theorem g_X12_readIf_0 (S : sT) (call : cT) (n : Nat) (a0 : Nat) (x1 : Int32) (x2 : Int32) (h : pH) : bd S call dflT E_X12_readIf (n + 1) 0 [some (.ref a0), some (.int x1), some (.int x2)] [] h = (rC h (.ref a0) 15 (cI (call 126 [.ref a0, .retAddr 132] h) (fun y2 h1 => (if y2 = 0 then (if x2 = 0 then zR 1 (some (.inl (some (.int 1)), h1)) else zR 0 (some (.inl (some (.int 0)), h1))) else pF h1 (.ref a0) 15 9 (.int 0) (fun h3 => rC h3 (.ref a0) 15 (cI (call 134 [.ref a0] h3) (fun y5 h4 => (if y5 = 0 then zR 0 (some (.inl (some (.int 0)), h4)) else gV h4 (.ref a0) 15 1 (fun w6 => gI h4 (.ref a0) 15 12 (fun y7 => sI h4 w6 0 (x1 + 5) y7 (fun h8 => zR 1 (some (.inl (some (.int 1)), h8))))))))))))) := rfl
