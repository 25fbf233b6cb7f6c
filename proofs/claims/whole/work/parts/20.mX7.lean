/-! by program: methods as data, that they are right, what their bodies do -/
theorem dX7_init_0 : decode cX7_init 0 = .ok (.aload_n 0, 1) := by decide +kernel
theorem dX7_init_1 : decode cX7_init 1 = .ok (.invokespecial 3, 3) := by decide +kernel
theorem dX7_init_4 : decode cX7_init 4 = .ok (.aload_n 0, 1) := by decide +kernel
theorem dX7_init_5 : decode cX7_init 5 = .ok (.sipush 192, 3) := by decide +kernel
theorem dX7_init_8 : decode cX7_init 8 = .ok (.newarray .int, 2) := by decide +kernel
theorem dX7_init_10 : decode cX7_init 10 = .ok (.putfield 11, 3) := by decide +kernel
theorem dX7_init_13 : decode cX7_init 13 = .ok (.aload_n 0, 1) := by decide +kernel
theorem dX7_init_14 : decode cX7_init 14 = .ok (.sipush 192, 3) := by decide +kernel
theorem dX7_init_17 : decode cX7_init 17 = .ok (.newarray .int, 2) := by decide +kernel
theorem dX7_init_19 : decode cX7_init 19 = .ok (.putfield 15, 3) := by decide +kernel
theorem dX7_init_22 : decode cX7_init 22 = .ok (.return_, 1) := by decide +kernel
noncomputable def E_X7_init : mE := (mX7_init, [(22, [(0, (.aload_n 0, 1, false, false, 0, 0, 0, 0, 0, 0, [])), (1, (.invokespecial 3, 4, false, false, 0, 0, 0, 1, 0, 0, [])), (4, (.aload_n 0, 5, false, false, 0, 0, 0, 0, 0, 0, [])), (5, (.sipush 192, 8, false, false, 0, 0, 0, 0, 192, 0, [])), (8, (.newarray .int, 10, false, false, 0, 0, 0, 0, 0, 0, [])), (10, (.putfield 11, 13, false, false, 10, 1, 4, 0, 0, 0, [])), (13, (.aload_n 0, 14, false, false, 0, 0, 0, 0, 0, 0, [])), (14, (.sipush 192, 17, false, false, 0, 0, 0, 0, 192, 0, [])), (17, (.newarray .int, 19, false, false, 0, 0, 0, 0, 0, 0, [])), (19, (.putfield 15, 22, false, false, 10, 2, 4, 0, 0, 0, [])), (22, (.return_, 23, false, false, 0, 0, 0, 0, 0, 0, []))])], 0, [])
set_option maxRecDepth 100000 in
theorem v_X7_init : VE MYT dflT E_X7_init := ⟨⟨⟨⟨⟨dX7_init_0, rfl⟩, rfl⟩, ⟨⟨dX7_init_1, rfl⟩, Or.inr ⟨rfl, oX7_3, o_1, o_2⟩⟩, ⟨⟨dX7_init_4, rfl⟩, rfl⟩, ⟨⟨dX7_init_5, rfl⟩, rfl⟩, ⟨⟨dX7_init_8, rfl⟩, Or.inl ⟨rfl, rfl, a_int⟩⟩, ⟨⟨dX7_init_10, rfl⟩, Or.inr (Or.inr (Or.inr (Or.inr ⟨rfl, ⟨_, (Or.inr ⟨_, rfl⟩), fX7_11⟩, rfl, rfl⟩)))⟩, ⟨⟨dX7_init_13, rfl⟩, rfl⟩, ⟨⟨dX7_init_14, rfl⟩, rfl⟩, ⟨⟨dX7_init_17, rfl⟩, Or.inl ⟨rfl, rfl, a_int⟩⟩, ⟨⟨dX7_init_19, rfl⟩, Or.inr (Or.inr (Or.inr (Or.inr ⟨rfl, ⟨_, (Or.inr ⟨_, rfl⟩), fX7_15⟩, rfl, rfl⟩)))⟩, ⟨⟨dX7_init_22, rfl⟩, rfl⟩, trivial⟩, trivial⟩, by decide, Or.inl ⟨rfl, by decide, rfl⟩⟩
set_option maxRecDepth 100000 in
theorem g_X7_init_0 (S : sT) (call : cT) (n : Nat) (a0 : Nat) (h : pH) : bd S call dflT E_X7_init (n + 1) 0 [some (.ref a0)] [] h = (mkI h 0 192 (fun h1 => pF h1 (.ref a0) 10 1 (.ref (List.length h)) (fun h2 => mkI h2 0 192 (fun h3 => pF h3 (.ref a0) 10 2 (.ref (List.length h2)) (fun h4 => some (.inl none, h4)))))) := rfl
theorem dX7_add_0 : decode cX7_add 0 = .ok (.aload_n 0, 1) := by decide +kernel
theorem dX7_add_1 : decode cX7_add 1 = .ok (.getfield 18, 3) := by decide +kernel
theorem dX7_add_4 : decode cX7_add 4 = .ok (.iconst 4, 1) := by decide +kernel
theorem dX7_add_5 : decode cX7_add 5 = .ok (.if_icmp .lt 42, 3) := by decide +kernel
theorem dX7_add_8 : decode cX7_add 8 = .ok (.aload_n 0, 1) := by decide +kernel
theorem dX7_add_9 : decode cX7_add 9 = .ok (.getfield 11, 3) := by decide +kernel
theorem dX7_add_12 : decode cX7_add 12 = .ok (.bipush 48, 2) := by decide +kernel
theorem dX7_add_14 : decode cX7_add 14 = .ok (.aload_n 0, 1) := by decide +kernel
theorem dX7_add_15 : decode cX7_add 15 = .ok (.getfield 11, 3) := by decide +kernel
theorem dX7_add_18 : decode cX7_add 18 = .ok (.iconst 0, 1) := by decide +kernel
theorem dX7_add_19 : decode cX7_add 19 = .ok (.sipush 144, 3) := by decide +kernel
theorem dX7_add_22 : decode cX7_add 22 = .ok (.invokestatic 22, 3) := by decide +kernel
theorem dX7_add_25 : decode cX7_add 25 = .ok (.aload_n 0, 1) := by decide +kernel
theorem dX7_add_26 : decode cX7_add 26 = .ok (.getfield 15, 3) := by decide +kernel
theorem dX7_add_29 : decode cX7_add 29 = .ok (.bipush 48, 2) := by decide +kernel
theorem dX7_add_31 : decode cX7_add 31 = .ok (.aload_n 0, 1) := by decide +kernel
theorem dX7_add_32 : decode cX7_add 32 = .ok (.getfield 15, 3) := by decide +kernel
theorem dX7_add_35 : decode cX7_add 35 = .ok (.iconst 0, 1) := by decide +kernel
theorem dX7_add_36 : decode cX7_add 36 = .ok (.sipush 144, 3) := by decide +kernel
theorem dX7_add_39 : decode cX7_add 39 = .ok (.invokestatic 22, 3) := by decide +kernel
theorem dX7_add_42 : decode cX7_add 42 = .ok (.aload_n 0, 1) := by decide +kernel
theorem dX7_add_43 : decode cX7_add 43 = .ok (.iconst 3, 1) := by decide +kernel
theorem dX7_add_44 : decode cX7_add 44 = .ok (.putfield 18, 3) := by decide +kernel
theorem dX7_add_47 : decode cX7_add 47 = .ok (.iconst 0, 1) := by decide +kernel
theorem dX7_add_48 : decode cX7_add 48 = .ok (.istore_n 2, 1) := by decide +kernel
theorem dX7_add_49 : decode cX7_add 49 = .ok (.iload_n 2, 1) := by decide +kernel
theorem dX7_add_50 : decode cX7_add 50 = .ok (.bipush 48, 2) := by decide +kernel
theorem dX7_add_52 : decode cX7_add 52 = .ok (.if_icmp .ge 51, 3) := by decide +kernel
theorem dX7_add_55 : decode cX7_add 55 = .ok (.aload_n 0, 1) := by decide +kernel
theorem dX7_add_56 : decode cX7_add 56 = .ok (.getfield 11, 3) := by decide +kernel
theorem dX7_add_59 : decode cX7_add 59 = .ok (.aload_n 0, 1) := by decide +kernel
theorem dX7_add_60 : decode cX7_add 60 = .ok (.getfield 18, 3) := by decide +kernel
theorem dX7_add_63 : decode cX7_add 63 = .ok (.bipush 48, 2) := by decide +kernel
theorem dX7_add_65 : decode cX7_add 65 = .ok (.imul, 1) := by decide +kernel
theorem dX7_add_66 : decode cX7_add 66 = .ok (.iload_n 2, 1) := by decide +kernel
theorem dX7_add_67 : decode cX7_add 67 = .ok (.iadd, 1) := by decide +kernel
theorem dX7_add_68 : decode cX7_add 68 = .ok (.aload_n 1, 1) := by decide +kernel
theorem dX7_add_69 : decode cX7_add 69 = .ok (.bipush 9, 2) := by decide +kernel
theorem dX7_add_71 : decode cX7_add 71 = .ok (.iload_n 2, 1) := by decide +kernel
theorem dX7_add_72 : decode cX7_add 72 = .ok (.invokevirtual 30, 3) := by decide +kernel
theorem dX7_add_75 : decode cX7_add 75 = .ok (.iastore, 1) := by decide +kernel
theorem dX7_add_76 : decode cX7_add 76 = .ok (.aload_n 0, 1) := by decide +kernel
theorem dX7_add_77 : decode cX7_add 77 = .ok (.getfield 15, 3) := by decide +kernel
theorem dX7_add_80 : decode cX7_add 80 = .ok (.aload_n 0, 1) := by decide +kernel
theorem dX7_add_81 : decode cX7_add 81 = .ok (.getfield 18, 3) := by decide +kernel
theorem dX7_add_84 : decode cX7_add 84 = .ok (.bipush 48, 2) := by decide +kernel
theorem dX7_add_86 : decode cX7_add 86 = .ok (.imul, 1) := by decide +kernel
theorem dX7_add_87 : decode cX7_add 87 = .ok (.iload_n 2, 1) := by decide +kernel
theorem dX7_add_88 : decode cX7_add 88 = .ok (.iadd, 1) := by decide +kernel
theorem dX7_add_89 : decode cX7_add 89 = .ok (.aload_n 1, 1) := by decide +kernel
theorem dX7_add_90 : decode cX7_add 90 = .ok (.bipush 9, 2) := by decide +kernel
theorem dX7_add_92 : decode cX7_add 92 = .ok (.iload_n 2, 1) := by decide +kernel
theorem dX7_add_93 : decode cX7_add 93 = .ok (.invokevirtual 30, 3) := by decide +kernel
theorem dX7_add_96 : decode cX7_add 96 = .ok (.iastore, 1) := by decide +kernel
theorem dX7_add_97 : decode cX7_add 97 = .ok (.iinc 2 1, 3) := by decide +kernel
theorem dX7_add_100 : decode cX7_add 100 = .ok (.goto (-51), 3) := by decide +kernel
theorem dX7_add_103 : decode cX7_add 103 = .ok (.aload_n 0, 1) := by decide +kernel
theorem dX7_add_104 : decode cX7_add 104 = .ok (.dup, 1) := by decide +kernel
theorem dX7_add_105 : decode cX7_add 105 = .ok (.getfield 18, 3) := by decide +kernel
theorem dX7_add_108 : decode cX7_add 108 = .ok (.iconst 1, 1) := by decide +kernel
theorem dX7_add_109 : decode cX7_add 109 = .ok (.iadd, 1) := by decide +kernel
theorem dX7_add_110 : decode cX7_add 110 = .ok (.putfield 18, 3) := by decide +kernel
theorem dX7_add_113 : decode cX7_add 113 = .ok (.return_, 1) := by decide +kernel
noncomputable def E_X7_add : mE := (mX7_add, [(47, [(0, (.aload_n 0, 1, false, false, 0, 0, 0, 0, 0, 0, [])), (1, (.getfield 18, 4, false, false, 10, 0, 0, 0, 0, 0, [])), (4, (.iconst 4, 5, false, false, 0, 0, 0, 0, 4, 0, [])), (5, (.if_icmp .lt 42, 8, false, false, 47, 0, 0, 0, 0, 0, [])), (8, (.aload_n 0, 9, false, false, 0, 0, 0, 0, 0, 0, [])), (9, (.getfield 11, 12, false, false, 10, 1, 1, 0, 0, 0, [])), (12, (.bipush 48, 14, false, false, 0, 0, 0, 0, 48, 0, [])), (14, (.aload_n 0, 15, false, false, 0, 0, 0, 0, 0, 0, [])), (15, (.getfield 11, 18, false, false, 10, 1, 1, 0, 0, 0, [])), (18, (.iconst 0, 19, false, false, 0, 0, 0, 0, 0, 0, [])), (19, (.sipush 144, 22, false, false, 0, 0, 0, 0, 144, 0, [])), (22, (.invokestatic 22, 25, false, false, 0, 5, 0, 2, 0, 0, [])), (25, (.aload_n 0, 26, false, false, 0, 0, 0, 0, 0, 0, [])), (26, (.getfield 15, 29, false, false, 10, 2, 1, 0, 0, 0, [])), (29, (.bipush 48, 31, false, false, 0, 0, 0, 0, 48, 0, [])), (31, (.aload_n 0, 32, false, false, 0, 0, 0, 0, 0, 0, [])), (32, (.getfield 15, 35, false, false, 10, 2, 1, 0, 0, 0, [])), (35, (.iconst 0, 36, false, false, 0, 0, 0, 0, 0, 0, [])), (36, (.sipush 144, 39, false, false, 0, 0, 0, 0, 144, 0, [])), (39, (.invokestatic 22, 42, false, false, 0, 5, 0, 2, 0, 0, [])), (42, (.aload_n 0, 43, false, false, 0, 0, 0, 0, 0, 0, [])), (43, (.iconst 3, 44, false, false, 0, 0, 0, 0, 3, 0, [])), (44, (.putfield 18, 47, false, false, 10, 0, 0, 0, 0, 0, [])), (47, (.iconst 0, 48, false, false, 0, 0, 0, 0, 0, 0, []))]),
  (87, [(48, (.istore_n 2, 49, true, false, 2, 0, 0, 0, 0, 0, [])), (49, (.iload_n 2, 50, false, false, 2, 0, 0, 0, 0, 0, [])), (50, (.bipush 48, 52, false, false, 0, 0, 0, 0, 48, 0, [])), (52, (.if_icmp .ge 51, 55, false, false, 103, 0, 0, 0, 0, 0, [])), (55, (.aload_n 0, 56, false, false, 0, 0, 0, 0, 0, 0, [])), (56, (.getfield 11, 59, false, false, 10, 1, 1, 0, 0, 0, [])), (59, (.aload_n 0, 60, false, false, 0, 0, 0, 0, 0, 0, [])), (60, (.getfield 18, 63, false, false, 10, 0, 0, 0, 0, 0, [])), (63, (.bipush 48, 65, false, false, 0, 0, 0, 0, 48, 0, [])), (65, (.imul, 66, false, false, 0, 0, 0, 0, 0, 0, [])), (66, (.iload_n 2, 67, false, false, 2, 0, 0, 0, 0, 0, [])), (67, (.iadd, 68, false, false, 0, 0, 0, 0, 0, 0, [])), (68, (.aload_n 1, 69, false, false, 1, 0, 0, 0, 0, 0, [])), (69, (.bipush 9, 71, false, false, 0, 0, 0, 0, 9, 0, [])), (71, (.iload_n 2, 72, false, false, 2, 0, 0, 0, 0, 0, [])), (72, (.invokevirtual 30, 75, false, false, 23, 2, 1, 5, 0, 0, [])), (75, (.iastore, 76, false, false, 0, 0, 0, 0, 0, 0, [])), (76, (.aload_n 0, 77, false, false, 0, 0, 0, 0, 0, 0, [])), (77, (.getfield 15, 80, false, false, 10, 2, 1, 0, 0, 0, [])), (80, (.aload_n 0, 81, false, false, 0, 0, 0, 0, 0, 0, [])), (81, (.getfield 18, 84, false, false, 10, 0, 0, 0, 0, 0, [])), (84, (.bipush 48, 86, false, false, 0, 0, 0, 0, 48, 0, [])), (86, (.imul, 87, false, false, 0, 0, 0, 0, 0, 0, [])), (87, (.iload_n 2, 88, false, false, 2, 0, 0, 0, 0, 0, []))]),
  (113, [(88, (.iadd, 89, false, false, 0, 0, 0, 0, 0, 0, [])), (89, (.aload_n 1, 90, false, false, 1, 0, 0, 0, 0, 0, [])), (90, (.bipush 9, 92, false, false, 0, 0, 0, 0, 9, 0, [])), (92, (.iload_n 2, 93, false, false, 2, 0, 0, 0, 0, 0, [])), (93, (.invokevirtual 30, 96, false, false, 23, 2, 1, 5, 0, 0, [])), (96, (.iastore, 97, false, false, 0, 0, 0, 0, 0, 0, [])), (97, (.iinc 2 1, 100, false, false, 2, 0, 0, 0, 1, 0, [])), (100, (.goto (-51), 103, false, true, 49, 0, 0, 0, 0, 0, [])), (103, (.aload_n 0, 104, false, false, 0, 0, 0, 0, 0, 0, [])), (104, (.dup, 105, false, false, 0, 0, 0, 0, 0, 0, [])), (105, (.getfield 18, 108, false, false, 10, 0, 0, 0, 0, 0, [])), (108, (.iconst 1, 109, false, false, 0, 0, 0, 0, 1, 0, [])), (109, (.iadd, 110, false, false, 0, 0, 0, 0, 0, 0, [])), (110, (.putfield 18, 113, false, false, 10, 0, 0, 0, 0, 0, [])), (113, (.return_, 114, false, false, 0, 0, 0, 0, 0, 0, []))])], 0, [])
set_option maxRecDepth 100000 in
theorem v_X7_add : VE MYT dflT E_X7_add := ⟨⟨⟨⟨⟨dX7_add_0, rfl⟩, rfl⟩, ⟨⟨dX7_add_1, rfl⟩, Or.inl ⟨by decide, _, _, fX7_18⟩⟩, ⟨⟨dX7_add_4, rfl⟩, rfl⟩, ⟨⟨dX7_add_5, rfl⟩, rfl⟩, ⟨⟨dX7_add_8, rfl⟩, rfl⟩, ⟨⟨dX7_add_9, rfl⟩, Or.inl ⟨by decide, _, _, fX7_11⟩⟩, ⟨⟨dX7_add_12, rfl⟩, rfl⟩, ⟨⟨dX7_add_14, rfl⟩, rfl⟩, ⟨⟨dX7_add_15, rfl⟩, Or.inl ⟨by decide, _, _, fX7_11⟩⟩, ⟨⟨dX7_add_18, rfl⟩, rfl⟩, ⟨⟨dX7_add_19, rfl⟩, rfl⟩, ⟨⟨dX7_add_22, rfl⟩, Or.inr (Or.inr (Or.inl ⟨rfl, acX7_22, ac_1, ac_2, ac_3⟩))⟩, ⟨⟨dX7_add_25, rfl⟩, rfl⟩, ⟨⟨dX7_add_26, rfl⟩, Or.inl ⟨by decide, _, _, fX7_15⟩⟩, ⟨⟨dX7_add_29, rfl⟩, rfl⟩, ⟨⟨dX7_add_31, rfl⟩, rfl⟩, ⟨⟨dX7_add_32, rfl⟩, Or.inl ⟨by decide, _, _, fX7_15⟩⟩, ⟨⟨dX7_add_35, rfl⟩, rfl⟩, ⟨⟨dX7_add_36, rfl⟩, rfl⟩, ⟨⟨dX7_add_39, rfl⟩, Or.inr (Or.inr (Or.inl ⟨rfl, acX7_22, ac_1, ac_2, ac_3⟩))⟩, ⟨⟨dX7_add_42, rfl⟩, rfl⟩, ⟨⟨dX7_add_43, rfl⟩, rfl⟩, ⟨⟨dX7_add_44, rfl⟩, Or.inl ⟨rfl, fX7_18⟩⟩, ⟨⟨dX7_add_47, rfl⟩, rfl⟩, trivial⟩,
  ⟨⟨⟨dX7_add_48, rfl⟩, rfl⟩, ⟨⟨dX7_add_49, rfl⟩, rfl⟩, ⟨⟨dX7_add_50, rfl⟩, rfl⟩, ⟨⟨dX7_add_52, rfl⟩, rfl⟩, ⟨⟨dX7_add_55, rfl⟩, rfl⟩, ⟨⟨dX7_add_56, rfl⟩, Or.inl ⟨by decide, _, _, fX7_11⟩⟩, ⟨⟨dX7_add_59, rfl⟩, rfl⟩, ⟨⟨dX7_add_60, rfl⟩, Or.inl ⟨by decide, _, _, fX7_18⟩⟩, ⟨⟨dX7_add_63, rfl⟩, rfl⟩, ⟨⟨dX7_add_65, rfl⟩, trivial⟩, ⟨⟨dX7_add_66, rfl⟩, rfl⟩, ⟨⟨dX7_add_67, rfl⟩, trivial⟩, ⟨⟨dX7_add_68, rfl⟩, rfl⟩, ⟨⟨dX7_add_69, rfl⟩, rfl⟩, ⟨⟨dX7_add_71, rfl⟩, rfl⟩, ⟨⟨dX7_add_72, rfl⟩, Or.inr ⟨by decide, ⟨_, my_23, sX7_30⟩, fun q => absurd q (by decide)⟩⟩, ⟨⟨dX7_add_75, rfl⟩, trivial⟩, ⟨⟨dX7_add_76, rfl⟩, rfl⟩, ⟨⟨dX7_add_77, rfl⟩, Or.inl ⟨by decide, _, _, fX7_15⟩⟩, ⟨⟨dX7_add_80, rfl⟩, rfl⟩, ⟨⟨dX7_add_81, rfl⟩, Or.inl ⟨by decide, _, _, fX7_18⟩⟩, ⟨⟨dX7_add_84, rfl⟩, rfl⟩, ⟨⟨dX7_add_86, rfl⟩, trivial⟩, ⟨⟨dX7_add_87, rfl⟩, rfl⟩, trivial⟩,
  ⟨⟨⟨dX7_add_88, rfl⟩, trivial⟩, ⟨⟨dX7_add_89, rfl⟩, rfl⟩, ⟨⟨dX7_add_90, rfl⟩, rfl⟩, ⟨⟨dX7_add_92, rfl⟩, rfl⟩, ⟨⟨dX7_add_93, rfl⟩, Or.inr ⟨by decide, ⟨_, my_23, sX7_30⟩, fun q => absurd q (by decide)⟩⟩, ⟨⟨dX7_add_96, rfl⟩, trivial⟩, ⟨⟨dX7_add_97, rfl⟩, ⟨rfl, rfl⟩⟩, ⟨⟨dX7_add_100, rfl⟩, rfl⟩, ⟨⟨dX7_add_103, rfl⟩, rfl⟩, ⟨⟨dX7_add_104, rfl⟩, trivial⟩, ⟨⟨dX7_add_105, rfl⟩, Or.inl ⟨by decide, _, _, fX7_18⟩⟩, ⟨⟨dX7_add_108, rfl⟩, rfl⟩, ⟨⟨dX7_add_109, rfl⟩, trivial⟩, ⟨⟨dX7_add_110, rfl⟩, Or.inl ⟨rfl, fX7_18⟩⟩, ⟨⟨dX7_add_113, rfl⟩, rfl⟩, trivial⟩, trivial⟩, by decide, Or.inl ⟨rfl, by decide, rfl⟩⟩
set_option maxRecDepth 100000 in
theorem g_X7_add_0 (S : sT) (call : cT) (n : Nat) (a0 : Nat) (v1 : Value) (h : pH) : bd S call dflT E_X7_add (n + 1) 0 [some (.ref a0), some (v1), none] [] h = (gI h (.ref a0) 10 0 (fun y1 => (if y1 < 4 then nl v1 (bd S call dflT E_X7_add n 49 [some (.ref a0), some (v1), some (.int 0)] [] h) else gV h (.ref a0) 10 1 (fun w2 => gV h (.ref a0) 10 1 (fun w3 => cpI h w2 48 w3 0 144 (fun h4 => gV h4 (.ref a0) 10 2 (fun w5 => gV h4 (.ref a0) 10 2 (fun w6 => cpI h4 w5 48 w6 0 144 (fun h7 => pF h7 (.ref a0) 10 0 (.int 3) (fun h8 => nl v1 (bd S call dflT E_X7_add n 49 [some (.ref a0), some (v1), some (.int 0)] [] h8))))))))))) := rfl
set_option maxRecDepth 100000 in
theorem g_X7_add_49 (S : sT) (call : cT) (n : Nat) (a0 : Nat) (v1 : Value) (x2 : Int32) (h : pH) : bd S call dflT E_X7_add (n + 1) 49 [some (.ref a0), some (v1), some (.int x2)] [] h = ((if 48 ≤ x2 then gI h (.ref a0) 10 0 (fun y1 => pF h (.ref a0) 10 0 (.int (y1 + 1)) (fun h2 => some (.inl none, h2))) else gV h (.ref a0) 10 1 (fun w3 => gI h (.ref a0) 10 0 (fun y4 => iA v1 (rC h v1 5 (cI (call 23 [v1, .int 9, .int x2] h) (fun y6 h5 => sI h5 w3 0 ((y4 * 48) + x2) y6 (fun h7 => gV h7 (.ref a0) 10 2 (fun w8 => gI h7 (.ref a0) 10 0 (fun y9 => iA v1 (rC h7 v1 5 (cI (call 23 [v1, .int 9, .int x2] h7) (fun y11 h10 => sI h10 w8 0 ((y9 * 48) + x2) y11 (fun h12 => nl v1 (bd S call dflT E_X7_add n 49 [some (.ref a0), some (v1), some (.int (x2 + 1))] [] h12))))))))))))))) := rfl
theorem dX7_firstFalse_0 : decode cX7_firstFalse 0 = .ok (.iconst 0, 1) := by decide +kernel
theorem dX7_firstFalse_1 : decode cX7_firstFalse 1 = .ok (.istore_n 1, 1) := by decide +kernel
theorem dX7_firstFalse_2 : decode cX7_firstFalse 2 = .ok (.iload_n 1, 1) := by decide +kernel
theorem dX7_firstFalse_3 : decode cX7_firstFalse 3 = .ok (.aload_n 0, 1) := by decide +kernel
theorem dX7_firstFalse_4 : decode cX7_firstFalse 4 = .ok (.getfield 18, 3) := by decide +kernel
theorem dX7_firstFalse_7 : decode cX7_firstFalse 7 = .ok (.bipush 48, 2) := by decide +kernel
theorem dX7_firstFalse_9 : decode cX7_firstFalse 9 = .ok (.imul, 1) := by decide +kernel
theorem dX7_firstFalse_10 : decode cX7_firstFalse 10 = .ok (.if_icmp .ge 26, 3) := by decide +kernel
theorem dX7_firstFalse_13 : decode cX7_firstFalse 13 = .ok (.aload_n 0, 1) := by decide +kernel
theorem dX7_firstFalse_14 : decode cX7_firstFalse 14 = .ok (.getfield 11, 3) := by decide +kernel
theorem dX7_firstFalse_17 : decode cX7_firstFalse 17 = .ok (.iload_n 1, 1) := by decide +kernel
theorem dX7_firstFalse_18 : decode cX7_firstFalse 18 = .ok (.iaload, 1) := by decide +kernel
theorem dX7_firstFalse_19 : decode cX7_firstFalse 19 = .ok (.aload_n 0, 1) := by decide +kernel
theorem dX7_firstFalse_20 : decode cX7_firstFalse 20 = .ok (.getfield 15, 3) := by decide +kernel
theorem dX7_firstFalse_23 : decode cX7_firstFalse 23 = .ok (.iload_n 1, 1) := by decide +kernel
theorem dX7_firstFalse_24 : decode cX7_firstFalse 24 = .ok (.iaload, 1) := by decide +kernel
theorem dX7_firstFalse_25 : decode cX7_firstFalse 25 = .ok (.if_icmp .eq 5, 3) := by decide +kernel
theorem dX7_firstFalse_28 : decode cX7_firstFalse 28 = .ok (.iload_n 1, 1) := by decide +kernel
theorem dX7_firstFalse_29 : decode cX7_firstFalse 29 = .ok (.ireturn, 1) := by decide +kernel
theorem dX7_firstFalse_30 : decode cX7_firstFalse 30 = .ok (.iinc 1 1, 3) := by decide +kernel
theorem dX7_firstFalse_33 : decode cX7_firstFalse 33 = .ok (.goto (-31), 3) := by decide +kernel
theorem dX7_firstFalse_36 : decode cX7_firstFalse 36 = .ok (.iconst (-1), 1) := by decide +kernel
theorem dX7_firstFalse_37 : decode cX7_firstFalse 37 = .ok (.ireturn, 1) := by decide +kernel
noncomputable def E_X7_firstFalse : mE := (mX7_firstFalse, [(37, [(0, (.iconst 0, 1, false, false, 0, 0, 0, 0, 0, 0, [])), (1, (.istore_n 1, 2, true, false, 1, 0, 0, 0, 0, 0, [])), (2, (.iload_n 1, 3, false, false, 1, 0, 0, 0, 0, 0, [])), (3, (.aload_n 0, 4, false, false, 0, 0, 0, 0, 0, 0, [])), (4, (.getfield 18, 7, false, false, 10, 0, 0, 0, 0, 0, [])), (7, (.bipush 48, 9, false, false, 0, 0, 0, 0, 48, 0, [])), (9, (.imul, 10, false, false, 0, 0, 0, 0, 0, 0, [])), (10, (.if_icmp .ge 26, 13, false, false, 36, 0, 0, 0, 0, 0, [])), (13, (.aload_n 0, 14, false, false, 0, 0, 0, 0, 0, 0, [])), (14, (.getfield 11, 17, false, false, 10, 1, 1, 0, 0, 0, [])), (17, (.iload_n 1, 18, false, false, 1, 0, 0, 0, 0, 0, [])), (18, (.iaload, 19, false, false, 0, 0, 0, 0, 0, 0, [])), (19, (.aload_n 0, 20, false, false, 0, 0, 0, 0, 0, 0, [])), (20, (.getfield 15, 23, false, false, 10, 2, 1, 0, 0, 0, [])), (23, (.iload_n 1, 24, false, false, 1, 0, 0, 0, 0, 0, [])), (24, (.iaload, 25, false, false, 0, 0, 0, 0, 0, 0, [])), (25, (.if_icmp .eq 5, 28, false, false, 30, 0, 0, 0, 0, 0, [])), (28, (.iload_n 1, 29, false, false, 1, 0, 0, 0, 0, 0, [])), (29, (.ireturn, 30, false, false, 0, 0, 0, 0, 0, 0, [])), (30, (.iinc 1 1, 33, false, false, 1, 0, 0, 0, 1, 0, [])), (33, (.goto (-31), 36, false, true, 2, 0, 0, 0, 0, 0, [])), (36, (.iconst (-1), 37, false, false, 0, 0, 0, 0, -1, 0, [])), (37, (.ireturn, 38, false, false, 0, 0, 0, 0, 0, 0, []))])], 0, [])
set_option maxRecDepth 100000 in
theorem v_X7_firstFalse : VE MYT dflT E_X7_firstFalse := ⟨⟨⟨⟨⟨dX7_firstFalse_0, rfl⟩, rfl⟩, ⟨⟨dX7_firstFalse_1, rfl⟩, rfl⟩, ⟨⟨dX7_firstFalse_2, rfl⟩, rfl⟩, ⟨⟨dX7_firstFalse_3, rfl⟩, rfl⟩, ⟨⟨dX7_firstFalse_4, rfl⟩, Or.inl ⟨by decide, _, _, fX7_18⟩⟩, ⟨⟨dX7_firstFalse_7, rfl⟩, rfl⟩, ⟨⟨dX7_firstFalse_9, rfl⟩, trivial⟩, ⟨⟨dX7_firstFalse_10, rfl⟩, rfl⟩, ⟨⟨dX7_firstFalse_13, rfl⟩, rfl⟩, ⟨⟨dX7_firstFalse_14, rfl⟩, Or.inl ⟨by decide, _, _, fX7_11⟩⟩, ⟨⟨dX7_firstFalse_17, rfl⟩, rfl⟩, ⟨⟨dX7_firstFalse_18, rfl⟩, trivial⟩, ⟨⟨dX7_firstFalse_19, rfl⟩, rfl⟩, ⟨⟨dX7_firstFalse_20, rfl⟩, Or.inl ⟨by decide, _, _, fX7_15⟩⟩, ⟨⟨dX7_firstFalse_23, rfl⟩, rfl⟩, ⟨⟨dX7_firstFalse_24, rfl⟩, trivial⟩, ⟨⟨dX7_firstFalse_25, rfl⟩, rfl⟩, ⟨⟨dX7_firstFalse_28, rfl⟩, rfl⟩, ⟨⟨dX7_firstFalse_29, rfl⟩, Or.inl ⟨rfl, rfl⟩⟩, ⟨⟨dX7_firstFalse_30, rfl⟩, ⟨rfl, rfl⟩⟩, ⟨⟨dX7_firstFalse_33, rfl⟩, rfl⟩, ⟨⟨dX7_firstFalse_36, rfl⟩, rfl⟩, ⟨⟨dX7_firstFalse_37, rfl⟩, Or.inl ⟨rfl, rfl⟩⟩, trivial⟩, trivial⟩, by decide, Or.inl ⟨rfl, by decide, rfl⟩⟩
set_option maxRecDepth 100000 in
theorem g_X7_firstFalse_0 (S : sT) (call : cT) (n : Nat) (a0 : Nat) (h : pH) : bd S call dflT E_X7_firstFalse (n + 1) 0 [some (.ref a0), none] [] h = (bd S call dflT E_X7_firstFalse n 2 [some (.ref a0), some (.int 0)] [] h) := rfl
set_option maxRecDepth 100000 in
theorem g_X7_firstFalse_2 (S : sT) (call : cT) (n : Nat) (a0 : Nat) (x1 : Int32) (h : pH) : bd S call dflT E_X7_firstFalse (n + 1) 2 [some (.ref a0), some (.int x1)] [] h = (gI h (.ref a0) 10 0 (fun y1 => (if (y1 * 48) ≤ x1 then some (.inl (some (.int (-1))), h) else gV h (.ref a0) 10 1 (fun w2 => aI h w2 0 x1 (fun y3 => gV h (.ref a0) 10 2 (fun w4 => aI h w4 0 x1 (fun y5 => (if y3 = y5 then bd S call dflT E_X7_firstFalse n 2 [some (.ref a0), some (.int (x1 + 1))] [] h else some (.inl (some (.int x1)), h))))))))) := rfl
theorem dX7_copyFrom_0 : decode cX7_copyFrom 0 = .ok (.aload_n 0, 1) := by decide +kernel
theorem dX7_copyFrom_1 : decode cX7_copyFrom 1 = .ok (.aload_n 1, 1) := by decide +kernel
theorem dX7_copyFrom_2 : decode cX7_copyFrom 2 = .ok (.getfield 18, 3) := by decide +kernel
theorem dX7_copyFrom_5 : decode cX7_copyFrom 5 = .ok (.putfield 18, 3) := by decide +kernel
theorem dX7_copyFrom_8 : decode cX7_copyFrom 8 = .ok (.aload_n 1, 1) := by decide +kernel
theorem dX7_copyFrom_9 : decode cX7_copyFrom 9 = .ok (.getfield 11, 3) := by decide +kernel
theorem dX7_copyFrom_12 : decode cX7_copyFrom 12 = .ok (.iconst 0, 1) := by decide +kernel
theorem dX7_copyFrom_13 : decode cX7_copyFrom 13 = .ok (.aload_n 0, 1) := by decide +kernel
theorem dX7_copyFrom_14 : decode cX7_copyFrom 14 = .ok (.getfield 11, 3) := by decide +kernel
theorem dX7_copyFrom_17 : decode cX7_copyFrom 17 = .ok (.iconst 0, 1) := by decide +kernel
theorem dX7_copyFrom_18 : decode cX7_copyFrom 18 = .ok (.sipush 192, 3) := by decide +kernel
theorem dX7_copyFrom_21 : decode cX7_copyFrom 21 = .ok (.invokestatic 22, 3) := by decide +kernel
theorem dX7_copyFrom_24 : decode cX7_copyFrom 24 = .ok (.aload_n 1, 1) := by decide +kernel
theorem dX7_copyFrom_25 : decode cX7_copyFrom 25 = .ok (.getfield 15, 3) := by decide +kernel
theorem dX7_copyFrom_28 : decode cX7_copyFrom 28 = .ok (.iconst 0, 1) := by decide +kernel
theorem dX7_copyFrom_29 : decode cX7_copyFrom 29 = .ok (.aload_n 0, 1) := by decide +kernel
theorem dX7_copyFrom_30 : decode cX7_copyFrom 30 = .ok (.getfield 15, 3) := by decide +kernel
theorem dX7_copyFrom_33 : decode cX7_copyFrom 33 = .ok (.iconst 0, 1) := by decide +kernel
theorem dX7_copyFrom_34 : decode cX7_copyFrom 34 = .ok (.sipush 192, 3) := by decide +kernel
theorem dX7_copyFrom_37 : decode cX7_copyFrom 37 = .ok (.invokestatic 22, 3) := by decide +kernel
theorem dX7_copyFrom_40 : decode cX7_copyFrom 40 = .ok (.return_, 1) := by decide +kernel
noncomputable def E_X7_copyFrom : mE := (mX7_copyFrom, [(40, [(0, (.aload_n 0, 1, false, false, 0, 0, 0, 0, 0, 0, [])), (1, (.aload_n 1, 2, false, false, 1, 0, 0, 0, 0, 0, [])), (2, (.getfield 18, 5, false, false, 10, 0, 0, 0, 0, 0, [])), (5, (.putfield 18, 8, false, false, 10, 0, 0, 0, 0, 0, [])), (8, (.aload_n 1, 9, false, false, 1, 0, 0, 0, 0, 0, [])), (9, (.getfield 11, 12, false, false, 10, 1, 1, 0, 0, 0, [])), (12, (.iconst 0, 13, false, false, 0, 0, 0, 0, 0, 0, [])), (13, (.aload_n 0, 14, false, false, 0, 0, 0, 0, 0, 0, [])), (14, (.getfield 11, 17, false, false, 10, 1, 1, 0, 0, 0, [])), (17, (.iconst 0, 18, false, false, 0, 0, 0, 0, 0, 0, [])), (18, (.sipush 192, 21, false, false, 0, 0, 0, 0, 192, 0, [])), (21, (.invokestatic 22, 24, false, false, 0, 5, 0, 2, 0, 0, [])), (24, (.aload_n 1, 25, false, false, 1, 0, 0, 0, 0, 0, [])), (25, (.getfield 15, 28, false, false, 10, 2, 1, 0, 0, 0, [])), (28, (.iconst 0, 29, false, false, 0, 0, 0, 0, 0, 0, [])), (29, (.aload_n 0, 30, false, false, 0, 0, 0, 0, 0, 0, [])), (30, (.getfield 15, 33, false, false, 10, 2, 1, 0, 0, 0, [])), (33, (.iconst 0, 34, false, false, 0, 0, 0, 0, 0, 0, [])), (34, (.sipush 192, 37, false, false, 0, 0, 0, 0, 192, 0, [])), (37, (.invokestatic 22, 40, false, false, 0, 5, 0, 2, 0, 0, [])), (40, (.return_, 41, false, false, 0, 0, 0, 0, 0, 0, []))])], 0, [])
set_option maxRecDepth 100000 in
theorem v_X7_copyFrom : VE MYT dflT E_X7_copyFrom := ⟨⟨⟨⟨⟨dX7_copyFrom_0, rfl⟩, rfl⟩, ⟨⟨dX7_copyFrom_1, rfl⟩, rfl⟩, ⟨⟨dX7_copyFrom_2, rfl⟩, Or.inl ⟨by decide, _, _, fX7_18⟩⟩, ⟨⟨dX7_copyFrom_5, rfl⟩, Or.inl ⟨rfl, fX7_18⟩⟩, ⟨⟨dX7_copyFrom_8, rfl⟩, rfl⟩, ⟨⟨dX7_copyFrom_9, rfl⟩, Or.inl ⟨by decide, _, _, fX7_11⟩⟩, ⟨⟨dX7_copyFrom_12, rfl⟩, rfl⟩, ⟨⟨dX7_copyFrom_13, rfl⟩, rfl⟩, ⟨⟨dX7_copyFrom_14, rfl⟩, Or.inl ⟨by decide, _, _, fX7_11⟩⟩, ⟨⟨dX7_copyFrom_17, rfl⟩, rfl⟩, ⟨⟨dX7_copyFrom_18, rfl⟩, rfl⟩, ⟨⟨dX7_copyFrom_21, rfl⟩, Or.inr (Or.inr (Or.inl ⟨rfl, acX7_22, ac_1, ac_2, ac_3⟩))⟩, ⟨⟨dX7_copyFrom_24, rfl⟩, rfl⟩, ⟨⟨dX7_copyFrom_25, rfl⟩, Or.inl ⟨by decide, _, _, fX7_15⟩⟩, ⟨⟨dX7_copyFrom_28, rfl⟩, rfl⟩, ⟨⟨dX7_copyFrom_29, rfl⟩, rfl⟩, ⟨⟨dX7_copyFrom_30, rfl⟩, Or.inl ⟨by decide, _, _, fX7_15⟩⟩, ⟨⟨dX7_copyFrom_33, rfl⟩, rfl⟩, ⟨⟨dX7_copyFrom_34, rfl⟩, rfl⟩, ⟨⟨dX7_copyFrom_37, rfl⟩, Or.inr (Or.inr (Or.inl ⟨rfl, acX7_22, ac_1, ac_2, ac_3⟩))⟩, ⟨⟨dX7_copyFrom_40, rfl⟩, rfl⟩, trivial⟩, trivial⟩, by decide, Or.inl ⟨rfl, by decide, rfl⟩⟩
set_option maxRecDepth 100000 in
theorem g_X7_copyFrom_0 (S : sT) (call : cT) (n : Nat) (a0 : Nat) (v1 : Value) (h : pH) : bd S call dflT E_X7_copyFrom (n + 1) 0 [some (.ref a0), some (v1)] [] h = (iA v1 (gI h v1 10 0 (fun y1 => pF h (.ref a0) 10 0 (.int y1) (fun h2 => iA v1 (gV h2 v1 10 1 (fun w3 => gV h2 (.ref a0) 10 1 (fun w4 => cpI h2 w3 0 w4 0 192 (fun h5 => iA v1 (gV h5 v1 10 2 (fun w6 => gV h5 (.ref a0) 10 2 (fun w7 => cpI h5 w6 0 w7 0 192 (fun h8 => some (.inl none, h8))))))))))))) := rfl
