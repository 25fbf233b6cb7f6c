/-! by program: methods as data, that they are right, what their bodies do -/
theorem dX0_init_0 : decode cX0_init 0 = .ok (.aload_n 0, 1) := by decide +kernel
theorem dX0_init_1 : decode cX0_init 1 = .ok (.invokespecial 3, 3) := by decide +kernel
theorem dX0_init_4 : decode cX0_init 4 = .ok (.aload_n 0, 1) := by decide +kernel
theorem dX0_init_5 : decode cX0_init 5 = .ok (.new 9, 3) := by decide +kernel
theorem dX0_init_8 : decode cX0_init 8 = .ok (.dup, 1) := by decide +kernel
theorem dX0_init_9 : decode cX0_init 9 = .ok (.invokespecial 11, 3) := by decide +kernel
theorem dX0_init_12 : decode cX0_init 12 = .ok (.putfield 12, 3) := by decide +kernel
theorem dX0_init_15 : decode cX0_init 15 = .ok (.aload_n 0, 1) := by decide +kernel
theorem dX0_init_16 : decode cX0_init 16 = .ok (.new 18, 3) := by decide +kernel
theorem dX0_init_19 : decode cX0_init 19 = .ok (.dup, 1) := by decide +kernel
theorem dX0_init_20 : decode cX0_init 20 = .ok (.invokespecial 20, 3) := by decide +kernel
theorem dX0_init_23 : decode cX0_init 23 = .ok (.putfield 21, 3) := by decide +kernel
theorem dX0_init_26 : decode cX0_init 26 = .ok (.aload_n 0, 1) := by decide +kernel
theorem dX0_init_27 : decode cX0_init 27 = .ok (.new 25, 3) := by decide +kernel
theorem dX0_init_30 : decode cX0_init 30 = .ok (.dup, 1) := by decide +kernel
theorem dX0_init_31 : decode cX0_init 31 = .ok (.invokespecial 27, 3) := by decide +kernel
theorem dX0_init_34 : decode cX0_init 34 = .ok (.putfield 28, 3) := by decide +kernel
theorem dX0_init_37 : decode cX0_init 37 = .ok (.aload_n 0, 1) := by decide +kernel
theorem dX0_init_38 : decode cX0_init 38 = .ok (.new 32, 3) := by decide +kernel
theorem dX0_init_41 : decode cX0_init 41 = .ok (.dup, 1) := by decide +kernel
theorem dX0_init_42 : decode cX0_init 42 = .ok (.invokespecial 34, 3) := by decide +kernel
theorem dX0_init_45 : decode cX0_init 45 = .ok (.putfield 35, 3) := by decide +kernel
theorem dX0_init_48 : decode cX0_init 48 = .ok (.aload_n 0, 1) := by decide +kernel
theorem dX0_init_49 : decode cX0_init 49 = .ok (.new 39, 3) := by decide +kernel
theorem dX0_init_52 : decode cX0_init 52 = .ok (.dup, 1) := by decide +kernel
theorem dX0_init_53 : decode cX0_init 53 = .ok (.invokespecial 41, 3) := by decide +kernel
theorem dX0_init_56 : decode cX0_init 56 = .ok (.putfield 42, 3) := by decide +kernel
theorem dX0_init_59 : decode cX0_init 59 = .ok (.aload_n 0, 1) := by decide +kernel
theorem dX0_init_60 : decode cX0_init 60 = .ok (.new 46, 3) := by decide +kernel
theorem dX0_init_63 : decode cX0_init 63 = .ok (.dup, 1) := by decide +kernel
theorem dX0_init_64 : decode cX0_init 64 = .ok (.invokespecial 48, 3) := by decide +kernel
theorem dX0_init_67 : decode cX0_init 67 = .ok (.putfield 49, 3) := by decide +kernel
theorem dX0_init_70 : decode cX0_init 70 = .ok (.aload_n 0, 1) := by decide +kernel
theorem dX0_init_71 : decode cX0_init 71 = .ok (.new 53, 3) := by decide +kernel
theorem dX0_init_74 : decode cX0_init 74 = .ok (.dup, 1) := by decide +kernel
theorem dX0_init_75 : decode cX0_init 75 = .ok (.invokespecial 55, 3) := by decide +kernel
theorem dX0_init_78 : decode cX0_init 78 = .ok (.putfield 56, 3) := by decide +kernel
theorem dX0_init_81 : decode cX0_init 81 = .ok (.aload_n 0, 1) := by decide +kernel
theorem dX0_init_82 : decode cX0_init 82 = .ok (.bipush 6, 2) := by decide +kernel
theorem dX0_init_84 : decode cX0_init 84 = .ok (.newarray .int, 2) := by decide +kernel
theorem dX0_init_86 : decode cX0_init 86 = .ok (.putfield 60, 3) := by decide +kernel
theorem dX0_init_89 : decode cX0_init 89 = .ok (.aload_n 0, 1) := by decide +kernel
theorem dX0_init_90 : decode cX0_init 90 = .ok (.bipush 51, 2) := by decide +kernel
theorem dX0_init_92 : decode cX0_init 92 = .ok (.newarray .long, 2) := by decide +kernel
theorem dX0_init_94 : decode cX0_init 94 = .ok (.putfield 66, 3) := by decide +kernel
theorem dX0_init_97 : decode cX0_init 97 = .ok (.return_, 1) := by decide +kernel
noncomputable def E_X0_init : mE := (mX0_init, [(49, [(0, (.aload_n 0, 1, false, false, 0, 0, 0, 0, 0, 0, [])), (1, (.invokespecial 3, 4, false, false, 0, 0, 0, 1, 0, 0, [])), (4, (.aload_n 0, 5, false, false, 0, 0, 0, 0, 0, 0, [])), (5, (.new 9, 8, false, false, 12, 0, 0, 0, 0, 0, [])), (8, (.dup, 9, false, false, 0, 0, 0, 0, 0, 0, [])), (9, (.invokespecial 11, 12, false, false, 1, 0, 0, 0, 0, 0, [])), (12, (.putfield 12, 15, false, false, 3, 0, 4, 0, 0, 0, [])), (15, (.aload_n 0, 16, false, false, 0, 0, 0, 0, 0, 0, [])), (16, (.new 18, 19, false, false, 5, 0, 0, 0, 0, 0, [])), (19, (.dup, 20, false, false, 0, 0, 0, 0, 0, 0, [])), (20, (.invokespecial 20, 23, false, false, 2, 0, 0, 0, 0, 0, [])), (23, (.putfield 21, 26, false, false, 3, 1, 4, 0, 0, 0, [])), (26, (.aload_n 0, 27, false, false, 0, 0, 0, 0, 0, 0, [])), (27, (.new 25, 30, false, false, 4, 0, 0, 0, 0, 0, [])), (30, (.dup, 31, false, false, 0, 0, 0, 0, 0, 0, [])), (31, (.invokespecial 27, 34, false, false, 4, 0, 0, 0, 0, 0, [])), (34, (.putfield 28, 37, false, false, 3, 2, 4, 0, 0, 0, [])), (37, (.aload_n 0, 38, false, false, 0, 0, 0, 0, 0, 0, [])), (38, (.new 32, 41, false, false, 7, 0, 0, 0, 0, 0, [])), (41, (.dup, 42, false, false, 0, 0, 0, 0, 0, 0, [])), (42, (.invokespecial 34, 45, false, false, 5, 0, 0, 0, 0, 0, [])), (45, (.putfield 35, 48, false, false, 3, 3, 4, 0, 0, 0, [])), (48, (.aload_n 0, 49, false, false, 0, 0, 0, 0, 0, 0, [])), (49, (.new 39, 52, false, false, 6, 0, 0, 0, 0, 0, []))]),
  (97, [(52, (.dup, 53, false, false, 0, 0, 0, 0, 0, 0, [])), (53, (.invokespecial 41, 56, false, false, 6, 0, 0, 0, 0, 0, [])), (56, (.putfield 42, 59, false, false, 3, 4, 4, 0, 0, 0, [])), (59, (.aload_n 0, 60, false, false, 0, 0, 0, 0, 0, 0, [])), (60, (.new 46, 63, false, false, 8, 0, 0, 0, 0, 0, [])), (63, (.dup, 64, false, false, 0, 0, 0, 0, 0, 0, [])), (64, (.invokespecial 48, 67, false, false, 7, 0, 0, 0, 0, 0, [])), (67, (.putfield 49, 70, false, false, 3, 5, 4, 0, 0, 0, [])), (70, (.aload_n 0, 71, false, false, 0, 0, 0, 0, 0, 0, [])), (71, (.new 53, 74, false, false, 10, 0, 0, 0, 0, 0, [])), (74, (.dup, 75, false, false, 0, 0, 0, 0, 0, 0, [])), (75, (.invokespecial 55, 78, false, false, 8, 0, 0, 0, 0, 0, [])), (78, (.putfield 56, 81, false, false, 3, 6, 4, 0, 0, 0, [])), (81, (.aload_n 0, 82, false, false, 0, 0, 0, 0, 0, 0, [])), (82, (.bipush 6, 84, false, false, 0, 0, 0, 0, 6, 0, [])), (84, (.newarray .int, 86, false, false, 0, 0, 0, 0, 0, 0, [])), (86, (.putfield 60, 89, false, false, 3, 8, 4, 0, 0, 0, [])), (89, (.aload_n 0, 90, false, false, 0, 0, 0, 0, 0, 0, [])), (90, (.bipush 51, 92, false, false, 0, 0, 0, 0, 51, 0, [])), (92, (.newarray .long, 94, false, false, 0, 0, 3, 0, 0, 0, [])), (94, (.putfield 66, 97, false, false, 3, 9, 4, 0, 0, 0, [])), (97, (.return_, 98, false, false, 0, 0, 0, 0, 0, 0, []))])], 0, [])
set_option maxRecDepth 100000 in
theorem v_X0_init : VE MYT dflT E_X0_init := ⟨⟨⟨⟨⟨dX0_init_0, rfl⟩, rfl⟩, ⟨⟨dX0_init_1, rfl⟩, Or.inr ⟨rfl, oX0_3, o_1, o_2⟩⟩, ⟨⟨dX0_init_4, rfl⟩, rfl⟩, ⟨⟨dX0_init_5, rfl⟩, Or.inl ⟨rfl, _, rfl, nX0_9⟩⟩, ⟨⟨dX0_init_8, rfl⟩, trivial⟩, ⟨⟨dX0_init_9, rfl⟩, Or.inl ⟨rfl, _, my_1, sX0_11⟩⟩, ⟨⟨dX0_init_12, rfl⟩, Or.inr (Or.inr (Or.inr (Or.inr ⟨rfl, ⟨_, (Or.inl ⟨_, rfl⟩), fX0_12⟩, rfl, rfl⟩)))⟩, ⟨⟨dX0_init_15, rfl⟩, rfl⟩, ⟨⟨dX0_init_16, rfl⟩, Or.inl ⟨rfl, _, rfl, nX0_18⟩⟩, ⟨⟨dX0_init_19, rfl⟩, trivial⟩, ⟨⟨dX0_init_20, rfl⟩, Or.inl ⟨rfl, _, my_2, sX0_20⟩⟩, ⟨⟨dX0_init_23, rfl⟩, Or.inr (Or.inr (Or.inr (Or.inr ⟨rfl, ⟨_, (Or.inl ⟨_, rfl⟩), fX0_21⟩, rfl, rfl⟩)))⟩, ⟨⟨dX0_init_26, rfl⟩, rfl⟩, ⟨⟨dX0_init_27, rfl⟩, Or.inl ⟨rfl, _, rfl, nX0_25⟩⟩, ⟨⟨dX0_init_30, rfl⟩, trivial⟩, ⟨⟨dX0_init_31, rfl⟩, Or.inl ⟨rfl, _, my_4, sX0_27⟩⟩, ⟨⟨dX0_init_34, rfl⟩, Or.inr (Or.inr (Or.inr (Or.inr ⟨rfl, ⟨_, (Or.inl ⟨_, rfl⟩), fX0_28⟩, rfl, rfl⟩)))⟩, ⟨⟨dX0_init_37, rfl⟩, rfl⟩, ⟨⟨dX0_init_38, rfl⟩, Or.inl ⟨rfl, _, rfl, nX0_32⟩⟩, ⟨⟨dX0_init_41, rfl⟩, trivial⟩, ⟨⟨dX0_init_42, rfl⟩, Or.inl ⟨rfl, _, my_5, sX0_34⟩⟩, ⟨⟨dX0_init_45, rfl⟩, Or.inr (Or.inr (Or.inr (Or.inr ⟨rfl, ⟨_, (Or.inl ⟨_, rfl⟩), fX0_35⟩, rfl, rfl⟩)))⟩, ⟨⟨dX0_init_48, rfl⟩, rfl⟩, ⟨⟨dX0_init_49, rfl⟩, Or.inl ⟨rfl, _, rfl, nX0_39⟩⟩, trivial⟩,
  ⟨⟨⟨dX0_init_52, rfl⟩, trivial⟩, ⟨⟨dX0_init_53, rfl⟩, Or.inl ⟨rfl, _, my_6, sX0_41⟩⟩, ⟨⟨dX0_init_56, rfl⟩, Or.inr (Or.inr (Or.inr (Or.inr ⟨rfl, ⟨_, (Or.inl ⟨_, rfl⟩), fX0_42⟩, rfl, rfl⟩)))⟩, ⟨⟨dX0_init_59, rfl⟩, rfl⟩, ⟨⟨dX0_init_60, rfl⟩, Or.inl ⟨rfl, _, rfl, nX0_46⟩⟩, ⟨⟨dX0_init_63, rfl⟩, trivial⟩, ⟨⟨dX0_init_64, rfl⟩, Or.inl ⟨rfl, _, my_7, sX0_48⟩⟩, ⟨⟨dX0_init_67, rfl⟩, Or.inr (Or.inr (Or.inr (Or.inr ⟨rfl, ⟨_, (Or.inl ⟨_, rfl⟩), fX0_49⟩, rfl, rfl⟩)))⟩, ⟨⟨dX0_init_70, rfl⟩, rfl⟩, ⟨⟨dX0_init_71, rfl⟩, Or.inl ⟨rfl, _, rfl, nX0_53⟩⟩, ⟨⟨dX0_init_74, rfl⟩, trivial⟩, ⟨⟨dX0_init_75, rfl⟩, Or.inl ⟨rfl, _, my_8, sX0_55⟩⟩, ⟨⟨dX0_init_78, rfl⟩, Or.inr (Or.inr (Or.inr (Or.inr ⟨rfl, ⟨_, (Or.inl ⟨_, rfl⟩), fX0_56⟩, rfl, rfl⟩)))⟩, ⟨⟨dX0_init_81, rfl⟩, rfl⟩, ⟨⟨dX0_init_82, rfl⟩, rfl⟩, ⟨⟨dX0_init_84, rfl⟩, Or.inl ⟨rfl, rfl, a_int⟩⟩, ⟨⟨dX0_init_86, rfl⟩, Or.inr (Or.inr (Or.inr (Or.inr ⟨rfl, ⟨_, (Or.inr ⟨_, rfl⟩), fX0_60⟩, rfl, rfl⟩)))⟩, ⟨⟨dX0_init_89, rfl⟩, rfl⟩, ⟨⟨dX0_init_90, rfl⟩, rfl⟩, ⟨⟨dX0_init_92, rfl⟩, Or.inr (Or.inr (Or.inr ⟨rfl, rfl, a_long⟩))⟩, ⟨⟨dX0_init_94, rfl⟩, Or.inr (Or.inr (Or.inr (Or.inr ⟨rfl, ⟨_, (Or.inr ⟨_, rfl⟩), fX0_66⟩, rfl, rfl⟩)))⟩, ⟨⟨dX0_init_97, rfl⟩, rfl⟩, trivial⟩, trivial⟩, by decide, Or.inl ⟨rfl, by decide, rfl⟩⟩
set_option maxRecDepth 100000 in
theorem g_X0_init_0 (S : sT) (call : cT) (n : Nat) (a0 : Nat) (h : pH) : bd S call dflT E_X0_init (n + 1) 0 [some (.ref a0)] [] h = (cUx tN (call 1 [.ref (List.length h)] (h ++ [.inr (12, dflT 12)])) (fun h1 => pF h1 (.ref a0) 3 0 (.ref (List.length h)) (fun h2 => cUx tN (call 2 [.ref (List.length h2)] (h2 ++ [.inr (5, dflT 5)])) (fun h3 => pF h3 (.ref a0) 3 1 (.ref (List.length h2)) (fun h4 => cUx tN (call 4 [.ref (List.length h4)] (h4 ++ [.inr (4, dflT 4)])) (fun h5 => pF h5 (.ref a0) 3 2 (.ref (List.length h4)) (fun h6 => cUx tN (call 5 [.ref (List.length h6)] (h6 ++ [.inr (7, dflT 7)])) (fun h7 => pF h7 (.ref a0) 3 3 (.ref (List.length h6)) (fun h8 => cUx tN (call 6 [.ref (List.length h8)] (h8 ++ [.inr (6, dflT 6)])) (fun h9 => pF h9 (.ref a0) 3 4 (.ref (List.length h8)) (fun h10 => cUx tN (call 7 [.ref (List.length h10)] (h10 ++ [.inr (8, dflT 8)])) (fun h11 => pF h11 (.ref a0) 3 5 (.ref (List.length h10)) (fun h12 => cUx tN (call 8 [.ref (List.length h12)] (h12 ++ [.inr (10, dflT 10)])) (fun h13 => pF h13 (.ref a0) 3 6 (.ref (List.length h12)) (fun h14 => mkI h14 0 6 (fun h15 => pF h15 (.ref a0) 3 8 (.ref (List.length h14)) (fun h16 => mkJ h16 51 (fun h17 => pF h17 (.ref a0) 3 9 (.ref (List.length h16)) (fun h18 => some (.inl none, h18)))))))))))))))))))) := rfl
theorem dX0_lastLine_0 : decode cX0_lastLine 0 = .ok (.aload_n 0, 1) := by decide +kernel
theorem dX0_lastLine_1 : decode cX0_lastLine 1 = .ok (.getfield 12, 3) := by decide +kernel
theorem dX0_lastLine_4 : decode cX0_lastLine 4 = .ok (.aload_n 0, 1) := by decide +kernel
theorem dX0_lastLine_5 : decode cX0_lastLine 5 = .ok (.getfield 92, 3) := by decide +kernel
theorem dX0_lastLine_8 : decode cX0_lastLine 8 = .ok (.iload_n 1, 1) := by decide +kernel
theorem dX0_lastLine_9 : decode cX0_lastLine 9 = .ok (.iload_n 2, 1) := by decide +kernel
theorem dX0_lastLine_10 : decode cX0_lastLine 10 = .ok (.invokevirtual 143, 3) := by decide +kernel
theorem dX0_lastLine_13 : decode cX0_lastLine 13 = .ok (.ireturn, 1) := by decide +kernel
noncomputable def E_X0_lastLine : mE := (mX0_lastLine, [(13, [(0, (.aload_n 0, 1, false, false, 0, 0, 0, 0, 0, 0, [])), (1, (.getfield 12, 4, false, false, 3, 0, 1, 0, 0, 0, [])), (4, (.aload_n 0, 5, false, false, 0, 0, 0, 0, 0, 0, [])), (5, (.getfield 92, 8, false, false, 3, 7, 0, 0, 0, 0, [])), (8, (.iload_n 1, 9, false, false, 1, 0, 0, 0, 0, 0, [])), (9, (.iload_n 2, 10, false, false, 2, 0, 0, 0, 0, 0, [])), (10, (.invokevirtual 143, 13, false, false, 90, 3, 1, 12, 0, 0, [])), (13, (.ireturn, 14, false, false, 0, 0, 0, 0, 0, 0, []))])], 0, [])
set_option maxRecDepth 100000 in
theorem v_X0_lastLine : VE MYT dflT E_X0_lastLine := ⟨⟨⟨⟨⟨dX0_lastLine_0, rfl⟩, rfl⟩, ⟨⟨dX0_lastLine_1, rfl⟩, Or.inl ⟨by decide, _, _, fX0_12⟩⟩, ⟨⟨dX0_lastLine_4, rfl⟩, rfl⟩, ⟨⟨dX0_lastLine_5, rfl⟩, Or.inl ⟨by decide, _, _, fX0_92⟩⟩, ⟨⟨dX0_lastLine_8, rfl⟩, rfl⟩, ⟨⟨dX0_lastLine_9, rfl⟩, rfl⟩, ⟨⟨dX0_lastLine_10, rfl⟩, Or.inr ⟨by decide, ⟨_, my_90, sX0_143⟩, fun q => absurd q (by decide)⟩⟩, ⟨⟨dX0_lastLine_13, rfl⟩, Or.inl ⟨rfl, rfl⟩⟩, trivial⟩, trivial⟩, by decide, Or.inl ⟨rfl, by decide, rfl⟩⟩
set_option maxRecDepth 100000 in
theorem g_X0_lastLine_0 (S : sT) (call : cT) (n : Nat) (a0 : Nat) (x1 : Int32) (x2 : Int32) (h : pH) : bd S call dflT E_X0_lastLine (n + 1) 0 [some (.ref a0), some (.int x1), some (.int x2)] [] h = (gV h (.ref a0) 3 0 (fun w1 => gI h (.ref a0) 3 7 (fun y2 => rC h w1 12 (cI (call 90 [w1, .int y2, .int x1, .int x2] h) (fun y4 h3 => some (.inl (some (.int y4)), h3)))))) := rfl
theorem dX0_yearsLet_0 : decode cX0_yearsLet 0 = .ok (.aload_n 0, 1) := by decide +kernel
theorem dX0_yearsLet_1 : decode cX0_yearsLet 1 = .ok (.getfield 12, 3) := by decide +kernel
theorem dX0_yearsLet_4 : decode cX0_yearsLet 4 = .ok (.aload_n 0, 1) := by decide +kernel
theorem dX0_yearsLet_5 : decode cX0_yearsLet 5 = .ok (.bipush 17, 2) := by decide +kernel
theorem dX0_yearsLet_7 : decode cX0_yearsLet 7 = .ok (.iconst 0, 1) := by decide +kernel
theorem dX0_yearsLet_8 : decode cX0_yearsLet 8 = .ok (.invokevirtual 146, 3) := by decide +kernel
theorem dX0_yearsLet_11 : decode cX0_yearsLet 11 = .ok (.invokevirtual 148, 3) := by decide +kernel
theorem dX0_yearsLet_14 : decode cX0_yearsLet 14 = .ok (.ireturn, 1) := by decide +kernel
noncomputable def E_X0_yearsLet : mE := (mX0_yearsLet, [(14, [(0, (.aload_n 0, 1, false, false, 0, 0, 0, 0, 0, 0, [])), (1, (.getfield 12, 4, false, false, 3, 0, 1, 0, 0, 0, [])), (4, (.aload_n 0, 5, false, false, 0, 0, 0, 0, 0, 0, [])), (5, (.bipush 17, 7, false, false, 0, 0, 0, 0, 17, 0, [])), (7, (.iconst 0, 8, false, false, 0, 0, 0, 0, 0, 0, [])), (8, (.invokevirtual 146, 11, false, false, 91, 2, 1, 3, 0, 0, [])), (11, (.invokevirtual 148, 14, false, false, 92, 1, 1, 12, 0, 0, [])), (14, (.ireturn, 15, false, false, 0, 0, 0, 0, 0, 0, []))])], 0, [])
set_option maxRecDepth 100000 in
theorem v_X0_yearsLet : VE MYT dflT E_X0_yearsLet := ⟨⟨⟨⟨⟨dX0_yearsLet_0, rfl⟩, rfl⟩, ⟨⟨dX0_yearsLet_1, rfl⟩, Or.inl ⟨by decide, _, _, fX0_12⟩⟩, ⟨⟨dX0_yearsLet_4, rfl⟩, rfl⟩, ⟨⟨dX0_yearsLet_5, rfl⟩, rfl⟩, ⟨⟨dX0_yearsLet_7, rfl⟩, rfl⟩, ⟨⟨dX0_yearsLet_8, rfl⟩, Or.inr ⟨by decide, ⟨_, my_91, sX0_146⟩, fun q => absurd q (by decide)⟩⟩, ⟨⟨dX0_yearsLet_11, rfl⟩, Or.inr ⟨by decide, ⟨_, my_92, sX0_148⟩, fun q => absurd q (by decide)⟩⟩, ⟨⟨dX0_yearsLet_14, rfl⟩, Or.inl ⟨rfl, rfl⟩⟩, trivial⟩, trivial⟩, by decide, Or.inl ⟨rfl, by decide, rfl⟩⟩
set_option maxRecDepth 100000 in
theorem g_X0_yearsLet_0 (S : sT) (call : cT) (n : Nat) (a0 : Nat) (h : pH) : bd S call dflT E_X0_yearsLet (n + 1) 0 [some (.ref a0)] [] h = (gV h (.ref a0) 3 0 (fun w1 => rC h (.ref a0) 3 (cI (call 91 [.ref a0, .int 17, .int 0] h) (fun y3 h2 => rC h2 w1 12 (cI (call 92 [w1, .int y3] h2) (fun y5 h4 => some (.inl (some (.int y5)), h4))))))) := rfl
theorem dX0_isFree_0 : decode cX0_isFree 0 = .ok (.aload_n 0, 1) := by decide +kernel
theorem dX0_isFree_1 : decode cX0_isFree 1 = .ok (.getfield 28, 3) := by decide +kernel
theorem dX0_isFree_4 : decode cX0_isFree 4 = .ok (.getfield 105, 3) := by decide +kernel
theorem dX0_isFree_7 : decode cX0_isFree 7 = .ok (.bipush 24, 2) := by decide +kernel
theorem dX0_isFree_9 : decode cX0_isFree 9 = .ok (.if_icmp .lt 5, 3) := by decide +kernel
theorem dX0_isFree_12 : decode cX0_isFree 12 = .ok (.iconst 0, 1) := by decide +kernel
theorem dX0_isFree_13 : decode cX0_isFree 13 = .ok (.ireturn, 1) := by decide +kernel
theorem dX0_isFree_14 : decode cX0_isFree 14 = .ok (.iconst 0, 1) := by decide +kernel
theorem dX0_isFree_15 : decode cX0_isFree 15 = .ok (.istore_n 3, 1) := by decide +kernel
theorem dX0_isFree_16 : decode cX0_isFree 16 = .ok (.iload_n 3, 1) := by decide +kernel
theorem dX0_isFree_17 : decode cX0_isFree 17 = .ok (.bipush 48, 2) := by decide +kernel
theorem dX0_isFree_19 : decode cX0_isFree 19 = .ok (.if_icmp .ge 57, 3) := by decide +kernel
theorem dX0_isFree_22 : decode cX0_isFree 22 = .ok (.aload_n 0, 1) := by decide +kernel
theorem dX0_isFree_23 : decode cX0_isFree 23 = .ok (.getfield 21, 3) := by decide +kernel
theorem dX0_isFree_26 : decode cX0_isFree 26 = .ok (.iload_n 3, 1) := by decide +kernel
theorem dX0_isFree_27 : decode cX0_isFree 27 = .ok (.invokevirtual 108, 3) := by decide +kernel
theorem dX0_isFree_30 : decode cX0_isFree 30 = .ok (.ifCond .ne 17, 3) := by decide +kernel
theorem dX0_isFree_33 : decode cX0_isFree 33 = .ok (.aload_n 0, 1) := by decide +kernel
theorem dX0_isFree_34 : decode cX0_isFree 34 = .ok (.getfield 21, 3) := by decide +kernel
theorem dX0_isFree_37 : decode cX0_isFree 37 = .ok (.bipush 10, 2) := by decide +kernel
theorem dX0_isFree_39 : decode cX0_isFree 39 = .ok (.iload_n 3, 1) := by decide +kernel
theorem dX0_isFree_40 : decode cX0_isFree 40 = .ok (.invokevirtual 96, 3) := by decide +kernel
theorem dX0_isFree_43 : decode cX0_isFree 43 = .ok (.iconst (-1), 1) := by decide +kernel
theorem dX0_isFree_44 : decode cX0_isFree 44 = .ok (.if_icmp .eq 7, 3) := by decide +kernel
theorem dX0_isFree_47 : decode cX0_isFree 47 = .ok (.iconst 1, 1) := by decide +kernel
theorem dX0_isFree_48 : decode cX0_isFree 48 = .ok (.goto 4, 3) := by decide +kernel
theorem dX0_isFree_51 : decode cX0_isFree 51 = .ok (.iconst 0, 1) := by decide +kernel
theorem dX0_isFree_52 : decode cX0_isFree 52 = .ok (.istore 4, 2) := by decide +kernel
theorem dX0_isFree_54 : decode cX0_isFree 54 = .ok (.iload 4, 2) := by decide +kernel
theorem dX0_isFree_56 : decode cX0_isFree 56 = .ok (.ifCond .eq 14, 3) := by decide +kernel
theorem dX0_isFree_59 : decode cX0_isFree 59 = .ok (.iload_n 3, 1) := by decide +kernel
theorem dX0_isFree_60 : decode cX0_isFree 60 = .ok (.iload_n 1, 1) := by decide +kernel
theorem dX0_isFree_61 : decode cX0_isFree 61 = .ok (.iload_n 2, 1) := by decide +kernel
theorem dX0_isFree_62 : decode cX0_isFree 62 = .ok (.invokestatic 112, 3) := by decide +kernel
theorem dX0_isFree_65 : decode cX0_isFree 65 = .ok (.ifCond .eq 5, 3) := by decide +kernel
theorem dX0_isFree_68 : decode cX0_isFree 68 = .ok (.iconst 0, 1) := by decide +kernel
theorem dX0_isFree_69 : decode cX0_isFree 69 = .ok (.ireturn, 1) := by decide +kernel
theorem dX0_isFree_70 : decode cX0_isFree 70 = .ok (.iinc 3 1, 3) := by decide +kernel
theorem dX0_isFree_73 : decode cX0_isFree 73 = .ok (.goto (-57), 3) := by decide +kernel
theorem dX0_isFree_76 : decode cX0_isFree 76 = .ok (.iconst 1, 1) := by decide +kernel
theorem dX0_isFree_77 : decode cX0_isFree 77 = .ok (.ireturn, 1) := by decide +kernel
noncomputable def E_X0_isFree : mE := (mX0_isFree, [(44, [(0, (.aload_n 0, 1, false, false, 0, 0, 0, 0, 0, 0, [])), (1, (.getfield 28, 4, false, false, 3, 2, 1, 0, 0, 0, [])), (4, (.getfield 105, 7, false, false, 4, 0, 0, 0, 0, 0, [])), (7, (.bipush 24, 9, false, false, 0, 0, 0, 0, 24, 0, [])), (9, (.if_icmp .lt 5, 12, false, false, 14, 0, 0, 0, 0, 0, [])), (12, (.iconst 0, 13, false, false, 0, 0, 0, 0, 0, 0, [])), (13, (.ireturn, 14, false, false, 0, 0, 1, 0, 0, 0, [])), (14, (.iconst 0, 15, false, false, 0, 0, 0, 0, 0, 0, [])), (15, (.istore_n 3, 16, true, false, 3, 0, 0, 0, 0, 0, [])), (16, (.iload_n 3, 17, false, false, 3, 0, 0, 0, 0, 0, [])), (17, (.bipush 48, 19, false, false, 0, 0, 0, 0, 48, 0, [])), (19, (.if_icmp .ge 57, 22, false, false, 76, 0, 0, 0, 0, 0, [])), (22, (.aload_n 0, 23, false, false, 0, 0, 0, 0, 0, 0, [])), (23, (.getfield 21, 26, false, false, 3, 1, 1, 0, 0, 0, [])), (26, (.iload_n 3, 27, false, false, 3, 0, 0, 0, 0, 0, [])), (27, (.invokevirtual 108, 30, false, false, 24, 1, 1, 5, 0, 0, [])), (30, (.ifCond .ne 17, 33, false, false, 47, 0, 0, 0, 0, 0, [])), (33, (.aload_n 0, 34, false, false, 0, 0, 0, 0, 0, 0, [])), (34, (.getfield 21, 37, false, false, 3, 1, 1, 0, 0, 0, [])), (37, (.bipush 10, 39, false, false, 0, 0, 0, 0, 10, 0, [])), (39, (.iload_n 3, 40, false, false, 3, 0, 0, 0, 0, 0, [])), (40, (.invokevirtual 96, 43, false, false, 23, 2, 1, 5, 0, 0, [])), (43, (.iconst (-1), 44, false, false, 0, 0, 0, 0, -1, 0, [])), (44, (.if_icmp .eq 7, 47, false, false, 51, 0, 0, 0, 0, 0, []))]),
  (77, [(47, (.iconst 1, 48, false, false, 0, 0, 0, 0, 1, 0, [])), (48, (.goto 4, 51, false, true, 52, 0, 0, 0, 0, 0, [])), (51, (.iconst 0, 52, true, false, 0, 0, 0, 0, 0, 0, [])), (52, (.istore 4, 54, false, false, 4, 0, 0, 0, 0, 0, [])), (54, (.iload 4, 56, false, false, 4, 0, 0, 0, 0, 0, [])), (56, (.ifCond .eq 14, 59, false, false, 70, 0, 0, 0, 0, 0, [])), (59, (.iload_n 3, 60, false, false, 3, 0, 0, 0, 0, 0, [])), (60, (.iload_n 1, 61, false, false, 1, 0, 0, 0, 0, 0, [])), (61, (.iload_n 2, 62, false, false, 2, 0, 0, 0, 0, 0, [])), (62, (.invokestatic 112, 65, false, false, 95, 3, 1, 0, 0, 0, [])), (65, (.ifCond .eq 5, 68, false, false, 70, 0, 0, 0, 0, 0, [])), (68, (.iconst 0, 69, false, false, 0, 0, 0, 0, 0, 0, [])), (69, (.ireturn, 70, false, false, 0, 0, 1, 0, 0, 0, [])), (70, (.iinc 3 1, 73, false, false, 3, 0, 0, 0, 1, 0, [])), (73, (.goto (-57), 76, false, true, 16, 0, 0, 0, 0, 0, [])), (76, (.iconst 1, 77, false, false, 0, 0, 0, 0, 1, 0, [])), (77, (.ireturn, 78, false, false, 0, 0, 1, 0, 0, 0, []))])], 0, [])
set_option maxRecDepth 100000 in
theorem v_X0_isFree : VE MYT dflT E_X0_isFree := ⟨⟨⟨⟨⟨dX0_isFree_0, rfl⟩, rfl⟩, ⟨⟨dX0_isFree_1, rfl⟩, Or.inl ⟨by decide, _, _, fX0_28⟩⟩, ⟨⟨dX0_isFree_4, rfl⟩, Or.inl ⟨by decide, _, _, fX0_105⟩⟩, ⟨⟨dX0_isFree_7, rfl⟩, rfl⟩, ⟨⟨dX0_isFree_9, rfl⟩, rfl⟩, ⟨⟨dX0_isFree_12, rfl⟩, rfl⟩, ⟨⟨dX0_isFree_13, rfl⟩, Or.inr (Or.inl ⟨rfl, rfl⟩)⟩, ⟨⟨dX0_isFree_14, rfl⟩, rfl⟩, ⟨⟨dX0_isFree_15, rfl⟩, rfl⟩, ⟨⟨dX0_isFree_16, rfl⟩, rfl⟩, ⟨⟨dX0_isFree_17, rfl⟩, rfl⟩, ⟨⟨dX0_isFree_19, rfl⟩, rfl⟩, ⟨⟨dX0_isFree_22, rfl⟩, rfl⟩, ⟨⟨dX0_isFree_23, rfl⟩, Or.inl ⟨by decide, _, _, fX0_21⟩⟩, ⟨⟨dX0_isFree_26, rfl⟩, rfl⟩, ⟨⟨dX0_isFree_27, rfl⟩, Or.inr ⟨by decide, ⟨_, my_24, sX0_108⟩, fun q => absurd q (by decide)⟩⟩, ⟨⟨dX0_isFree_30, rfl⟩, rfl⟩, ⟨⟨dX0_isFree_33, rfl⟩, rfl⟩, ⟨⟨dX0_isFree_34, rfl⟩, Or.inl ⟨by decide, _, _, fX0_21⟩⟩, ⟨⟨dX0_isFree_37, rfl⟩, rfl⟩, ⟨⟨dX0_isFree_39, rfl⟩, rfl⟩, ⟨⟨dX0_isFree_40, rfl⟩, Or.inr ⟨by decide, ⟨_, my_23, sX0_96⟩, fun q => absurd q (by decide)⟩⟩, ⟨⟨dX0_isFree_43, rfl⟩, rfl⟩, ⟨⟨dX0_isFree_44, rfl⟩, rfl⟩, trivial⟩,
  ⟨⟨⟨dX0_isFree_47, rfl⟩, rfl⟩, ⟨⟨dX0_isFree_48, rfl⟩, rfl⟩, ⟨⟨dX0_isFree_51, rfl⟩, rfl⟩, ⟨⟨dX0_isFree_52, rfl⟩, rfl⟩, ⟨⟨dX0_isFree_54, rfl⟩, rfl⟩, ⟨⟨dX0_isFree_56, rfl⟩, rfl⟩, ⟨⟨dX0_isFree_59, rfl⟩, rfl⟩, ⟨⟨dX0_isFree_60, rfl⟩, rfl⟩, ⟨⟨dX0_isFree_61, rfl⟩, rfl⟩, ⟨⟨dX0_isFree_62, rfl⟩, Or.inl ⟨rfl, _, my_95, sX0_112⟩⟩, ⟨⟨dX0_isFree_65, rfl⟩, rfl⟩, ⟨⟨dX0_isFree_68, rfl⟩, rfl⟩, ⟨⟨dX0_isFree_69, rfl⟩, Or.inr (Or.inl ⟨rfl, rfl⟩)⟩, ⟨⟨dX0_isFree_70, rfl⟩, ⟨rfl, rfl⟩⟩, ⟨⟨dX0_isFree_73, rfl⟩, rfl⟩, ⟨⟨dX0_isFree_76, rfl⟩, rfl⟩, ⟨⟨dX0_isFree_77, rfl⟩, Or.inr (Or.inl ⟨rfl, rfl⟩)⟩, trivial⟩, trivial⟩, by decide, Or.inl ⟨rfl, by decide, rfl⟩⟩
set_option maxRecDepth 100000 in
theorem g_X0_isFree_0 (S : sT) (call : cT) (n : Nat) (a0 : Nat) (x1 : Int32) (x2 : Int32) (h : pH) : bd S call dflT E_X0_isFree (n + 1) 0 [some (.ref a0), some (.int x1), some (.int x2), none, none] [] h = (gV h (.ref a0) 3 2 (fun w1 => gI h w1 4 0 (fun y2 => (if y2 < 24 then bd S call dflT E_X0_isFree n 16 [some (.ref a0), some (.int x1), some (.int x2), some (.int 0), none] [] h else zR 0 (some (.inl (some (.int 0)), h)))))) := rfl
set_option maxRecDepth 100000 in
theorem g_X0_isFree_16 (S : sT) (call : cT) (n : Nat) (a0 : Nat) (x1 : Int32) (x2 : Int32) (x3 : Int32) (o4 : Option Value) (h : pH) : bd S call dflT E_X0_isFree (n + 1) 16 [some (.ref a0), some (.int x1), some (.int x2), some (.int x3), o4] [] h = ((if 48 ≤ x3 then zR 1 (some (.inl (some (.int 1)), h)) else gV h (.ref a0) 3 1 (fun w1 => rC h w1 5 (cI (call 24 [w1, .int x3] h) (fun y3 h2 => (if y3 = 0 then gV h2 (.ref a0) 3 1 (fun w4 => rC h2 w4 5 (cI (call 23 [w4, .int 10, .int x3] h2) (fun y6 h5 => (if y6 = (-1) then bd S call dflT E_X0_isFree n 52 [some (.ref a0), some (.int x1), some (.int x2), some (.int x3), o4] [.int 0] h5 else bd S call dflT E_X0_isFree n 52 [some (.ref a0), some (.int x1), some (.int x2), some (.int x3), o4] [.int 1] h5)))) else bd S call dflT E_X0_isFree n 52 [some (.ref a0), some (.int x1), some (.int x2), some (.int x3), o4] [.int 1] h2)))))) := rfl
set_option maxRecDepth 100000 in
theorem g_X0_isFree_52 (S : sT) (call : cT) (n : Nat) (a0 : Nat) (x1 : Int32) (x2 : Int32) (x3 : Int32) (o4 : Option Value) (y0 : Int32) (h : pH) : bd S call dflT E_X0_isFree (n + 1) 52 [some (.ref a0), some (.int x1), some (.int x2), some (.int x3), o4] [.int y0] h = ((if y0 = 0 then bd S call dflT E_X0_isFree n 16 [some (.ref a0), some (.int x1), some (.int x2), some (.int (x3 + 1)), some (.int y0)] [] h else cI (call 95 [.int x3, .int x1, .int x2] h) (fun y2 h1 => (if y2 = 0 then bd S call dflT E_X0_isFree n 16 [some (.ref a0), some (.int x1), some (.int x2), some (.int (x3 + 1)), some (.int y0)] [] h1 else zR 0 (some (.inl (some (.int 0)), h1)))))) := rfl
theorem dX0_noteWrong_0 : decode cX0_noteWrong 0 = .ok (.aload_n 0, 1) := by decide +kernel
theorem dX0_noteWrong_1 : decode cX0_noteWrong 1 = .ok (.getfield 42, 3) := by decide +kernel
theorem dX0_noteWrong_4 : decode cX0_noteWrong 4 = .ok (.iload_n 1, 1) := by decide +kernel
theorem dX0_noteWrong_5 : decode cX0_noteWrong 5 = .ok (.iload_n 2, 1) := by decide +kernel
theorem dX0_noteWrong_6 : decode cX0_noteWrong 6 = .ok (.aload_n 0, 1) := by decide +kernel
theorem dX0_noteWrong_7 : decode cX0_noteWrong 7 = .ok (.getfield 92, 3) := by decide +kernel
theorem dX0_noteWrong_10 : decode cX0_noteWrong 10 = .ok (.invokevirtual 101, 3) := by decide +kernel
theorem dX0_noteWrong_13 : decode cX0_noteWrong 13 = .ok (.return_, 1) := by decide +kernel
noncomputable def E_X0_noteWrong : mE := (mX0_noteWrong, [(13, [(0, (.aload_n 0, 1, false, false, 0, 0, 0, 0, 0, 0, [])), (1, (.getfield 42, 4, false, false, 3, 4, 1, 0, 0, 0, [])), (4, (.iload_n 1, 5, false, false, 1, 0, 0, 0, 0, 0, [])), (5, (.iload_n 2, 6, false, false, 2, 0, 0, 0, 0, 0, [])), (6, (.aload_n 0, 7, false, false, 0, 0, 0, 0, 0, 0, [])), (7, (.getfield 92, 10, false, false, 3, 7, 0, 0, 0, 0, [])), (10, (.invokevirtual 101, 13, false, false, 97, 3, 0, 6, 0, 0, [])), (13, (.return_, 14, false, false, 0, 0, 0, 0, 0, 0, []))])], 0, [])
set_option maxRecDepth 100000 in
theorem v_X0_noteWrong : VE MYT dflT E_X0_noteWrong := ⟨⟨⟨⟨⟨dX0_noteWrong_0, rfl⟩, rfl⟩, ⟨⟨dX0_noteWrong_1, rfl⟩, Or.inl ⟨by decide, _, _, fX0_42⟩⟩, ⟨⟨dX0_noteWrong_4, rfl⟩, rfl⟩, ⟨⟨dX0_noteWrong_5, rfl⟩, rfl⟩, ⟨⟨dX0_noteWrong_6, rfl⟩, rfl⟩, ⟨⟨dX0_noteWrong_7, rfl⟩, Or.inl ⟨by decide, _, _, fX0_92⟩⟩, ⟨⟨dX0_noteWrong_10, rfl⟩, Or.inr ⟨by decide, ⟨_, my_97, sX0_101⟩, fun q => absurd q (by decide)⟩⟩, ⟨⟨dX0_noteWrong_13, rfl⟩, rfl⟩, trivial⟩, trivial⟩, by decide, Or.inl ⟨rfl, by decide, rfl⟩⟩
set_option maxRecDepth 100000 in
theorem g_X0_noteWrong_0 (S : sT) (call : cT) (n : Nat) (a0 : Nat) (x1 : Int32) (x2 : Int32) (h : pH) : bd S call dflT E_X0_noteWrong (n + 1) 0 [some (.ref a0), some (.int x1), some (.int x2)] [] h = (gV h (.ref a0) 3 4 (fun w1 => gI h (.ref a0) 3 7 (fun y2 => rC h w1 6 (cU (call 97 [w1, .int x1, .int x2, .int y2] h) (fun h3 => some (.inl none, h3)))))) := rfl
theorem dX0_openOn_0 : decode cX0_openOn 0 = .ok (.aload_n 0, 1) := by decide +kernel
theorem dX0_openOn_1 : decode cX0_openOn 1 = .ok (.getfield 28, 3) := by decide +kernel
theorem dX0_openOn_4 : decode cX0_openOn 4 = .ok (.iload_n 3, 1) := by decide +kernel
theorem dX0_openOn_5 : decode cX0_openOn 5 = .ok (.invokevirtual 123, 3) := by decide +kernel
theorem dX0_openOn_8 : decode cX0_openOn 8 = .ok (.istore 4, 2) := by decide +kernel
theorem dX0_openOn_10 : decode cX0_openOn 10 = .ok (.iload 4, 2) := by decide +kernel
theorem dX0_openOn_12 : decode cX0_openOn 12 = .ok (.iconst (-1), 1) := by decide +kernel
theorem dX0_openOn_13 : decode cX0_openOn 13 = .ok (.if_icmp .ne 5, 3) := by decide +kernel
theorem dX0_openOn_16 : decode cX0_openOn 16 = .ok (.iconst (-1), 1) := by decide +kernel
theorem dX0_openOn_17 : decode cX0_openOn 17 = .ok (.ireturn, 1) := by decide +kernel
theorem dX0_openOn_18 : decode cX0_openOn 18 = .ok (.iconst 0, 1) := by decide +kernel
theorem dX0_openOn_19 : decode cX0_openOn 19 = .ok (.istore 5, 2) := by decide +kernel
theorem dX0_openOn_21 : decode cX0_openOn 21 = .ok (.iload 5, 2) := by decide +kernel
theorem dX0_openOn_23 : decode cX0_openOn 23 = .ok (.bipush 48, 2) := by decide +kernel
theorem dX0_openOn_25 : decode cX0_openOn 25 = .ok (.if_icmp .ge 43, 3) := by decide +kernel
theorem dX0_openOn_28 : decode cX0_openOn 28 = .ok (.iload 5, 2) := by decide +kernel
theorem dX0_openOn_30 : decode cX0_openOn 30 = .ok (.iload_n 1, 1) := by decide +kernel
theorem dX0_openOn_31 : decode cX0_openOn 31 = .ok (.iload_n 2, 1) := by decide +kernel
theorem dX0_openOn_32 : decode cX0_openOn 32 = .ok (.invokestatic 112, 3) := by decide +kernel
theorem dX0_openOn_35 : decode cX0_openOn 35 = .ok (.ifCond .eq 27, 3) := by decide +kernel
theorem dX0_openOn_38 : decode cX0_openOn 38 = .ok (.aload_n 0, 1) := by decide +kernel
theorem dX0_openOn_39 : decode cX0_openOn 39 = .ok (.getfield 21, 3) := by decide +kernel
theorem dX0_openOn_42 : decode cX0_openOn 42 = .ok (.bipush 10, 2) := by decide +kernel
theorem dX0_openOn_44 : decode cX0_openOn 44 = .ok (.iload 5, 2) := by decide +kernel
theorem dX0_openOn_46 : decode cX0_openOn 46 = .ok (.iload 4, 2) := by decide +kernel
theorem dX0_openOn_48 : decode cX0_openOn 48 = .ok (.invokevirtual 127, 3) := by decide +kernel
theorem dX0_openOn_51 : decode cX0_openOn 51 = .ok (.aload_n 0, 1) := by decide +kernel
theorem dX0_openOn_52 : decode cX0_openOn 52 = .ok (.getfield 28, 3) := by decide +kernel
theorem dX0_openOn_55 : decode cX0_openOn 55 = .ok (.iconst 1, 1) := by decide +kernel
theorem dX0_openOn_56 : decode cX0_openOn 56 = .ok (.iload 4, 2) := by decide +kernel
theorem dX0_openOn_58 : decode cX0_openOn 58 = .ok (.lconst 1, 1) := by decide +kernel
theorem dX0_openOn_59 : decode cX0_openOn 59 = .ok (.invokevirtual 128, 3) := by decide +kernel
theorem dX0_openOn_62 : decode cX0_openOn 62 = .ok (.iinc 5 1, 3) := by decide +kernel
theorem dX0_openOn_65 : decode cX0_openOn 65 = .ok (.goto (-44), 3) := by decide +kernel
theorem dX0_openOn_68 : decode cX0_openOn 68 = .ok (.iload 4, 2) := by decide +kernel
theorem dX0_openOn_70 : decode cX0_openOn 70 = .ok (.ireturn, 1) := by decide +kernel
noncomputable def E_X0_openOn : mE := (mX0_openOn, [(44, [(0, (.aload_n 0, 1, false, false, 0, 0, 0, 0, 0, 0, [])), (1, (.getfield 28, 4, false, false, 3, 2, 1, 0, 0, 0, [])), (4, (.iload_n 3, 5, false, false, 3, 0, 0, 0, 0, 0, [])), (5, (.invokevirtual 123, 8, false, false, 101, 1, 1, 4, 0, 0, [])), (8, (.istore 4, 10, false, false, 4, 0, 0, 0, 0, 0, [])), (10, (.iload 4, 12, false, false, 4, 0, 0, 0, 0, 0, [])), (12, (.iconst (-1), 13, false, false, 0, 0, 0, 0, -1, 0, [])), (13, (.if_icmp .ne 5, 16, false, false, 18, 0, 0, 0, 0, 0, [])), (16, (.iconst (-1), 17, false, false, 0, 0, 0, 0, -1, 0, [])), (17, (.ireturn, 18, false, false, 0, 0, 0, 0, 0, 0, [])), (18, (.iconst 0, 19, false, false, 0, 0, 0, 0, 0, 0, [])), (19, (.istore 5, 21, true, false, 5, 0, 0, 0, 0, 0, [])), (21, (.iload 5, 23, false, false, 5, 0, 0, 0, 0, 0, [])), (23, (.bipush 48, 25, false, false, 0, 0, 0, 0, 48, 0, [])), (25, (.if_icmp .ge 43, 28, false, false, 68, 0, 0, 0, 0, 0, [])), (28, (.iload 5, 30, false, false, 5, 0, 0, 0, 0, 0, [])), (30, (.iload_n 1, 31, false, false, 1, 0, 0, 0, 0, 0, [])), (31, (.iload_n 2, 32, false, false, 2, 0, 0, 0, 0, 0, [])), (32, (.invokestatic 112, 35, false, false, 95, 3, 1, 0, 0, 0, [])), (35, (.ifCond .eq 27, 38, false, false, 62, 0, 0, 0, 0, 0, [])), (38, (.aload_n 0, 39, false, false, 0, 0, 0, 0, 0, 0, [])), (39, (.getfield 21, 42, false, false, 3, 1, 1, 0, 0, 0, [])), (42, (.bipush 10, 44, false, false, 0, 0, 0, 0, 10, 0, [])), (44, (.iload 5, 46, false, false, 5, 0, 0, 0, 0, 0, []))]),
  (70, [(46, (.iload 4, 48, false, false, 4, 0, 0, 0, 0, 0, [])), (48, (.invokevirtual 127, 51, false, false, 25, 3, 0, 5, 0, 0, [])), (51, (.aload_n 0, 52, false, false, 0, 0, 0, 0, 0, 0, [])), (52, (.getfield 28, 55, false, false, 3, 2, 1, 0, 0, 0, [])), (55, (.iconst 1, 56, false, false, 0, 0, 0, 0, 1, 0, [])), (56, (.iload 4, 58, false, false, 4, 0, 0, 0, 0, 0, [])), (58, (.lconst 1, 59, false, false, 0, 0, 0, 0, 0, 1, [])), (59, (.invokevirtual 128, 62, false, false, 104, 3, 0, 4, 0, 0, [])), (62, (.iinc 5 1, 65, false, false, 5, 0, 0, 0, 1, 0, [])), (65, (.goto (-44), 68, false, true, 21, 0, 0, 0, 0, 0, [])), (68, (.iload 4, 70, false, false, 4, 0, 0, 0, 0, 0, [])), (70, (.ireturn, 71, false, false, 0, 0, 0, 0, 0, 0, []))])], 0, [])
set_option maxRecDepth 100000 in
theorem v_X0_openOn : VE MYT dflT E_X0_openOn := ⟨⟨⟨⟨⟨dX0_openOn_0, rfl⟩, rfl⟩, ⟨⟨dX0_openOn_1, rfl⟩, Or.inl ⟨by decide, _, _, fX0_28⟩⟩, ⟨⟨dX0_openOn_4, rfl⟩, rfl⟩, ⟨⟨dX0_openOn_5, rfl⟩, Or.inr ⟨by decide, ⟨_, my_101, sX0_123⟩, fun q => absurd q (by decide)⟩⟩, ⟨⟨dX0_openOn_8, rfl⟩, rfl⟩, ⟨⟨dX0_openOn_10, rfl⟩, rfl⟩, ⟨⟨dX0_openOn_12, rfl⟩, rfl⟩, ⟨⟨dX0_openOn_13, rfl⟩, rfl⟩, ⟨⟨dX0_openOn_16, rfl⟩, rfl⟩, ⟨⟨dX0_openOn_17, rfl⟩, Or.inl ⟨rfl, rfl⟩⟩, ⟨⟨dX0_openOn_18, rfl⟩, rfl⟩, ⟨⟨dX0_openOn_19, rfl⟩, rfl⟩, ⟨⟨dX0_openOn_21, rfl⟩, rfl⟩, ⟨⟨dX0_openOn_23, rfl⟩, rfl⟩, ⟨⟨dX0_openOn_25, rfl⟩, rfl⟩, ⟨⟨dX0_openOn_28, rfl⟩, rfl⟩, ⟨⟨dX0_openOn_30, rfl⟩, rfl⟩, ⟨⟨dX0_openOn_31, rfl⟩, rfl⟩, ⟨⟨dX0_openOn_32, rfl⟩, Or.inl ⟨rfl, _, my_95, sX0_112⟩⟩, ⟨⟨dX0_openOn_35, rfl⟩, rfl⟩, ⟨⟨dX0_openOn_38, rfl⟩, rfl⟩, ⟨⟨dX0_openOn_39, rfl⟩, Or.inl ⟨by decide, _, _, fX0_21⟩⟩, ⟨⟨dX0_openOn_42, rfl⟩, rfl⟩, ⟨⟨dX0_openOn_44, rfl⟩, rfl⟩, trivial⟩,
  ⟨⟨⟨dX0_openOn_46, rfl⟩, rfl⟩, ⟨⟨dX0_openOn_48, rfl⟩, Or.inr ⟨by decide, ⟨_, my_25, sX0_127⟩, fun q => absurd q (by decide)⟩⟩, ⟨⟨dX0_openOn_51, rfl⟩, rfl⟩, ⟨⟨dX0_openOn_52, rfl⟩, Or.inl ⟨by decide, _, _, fX0_28⟩⟩, ⟨⟨dX0_openOn_55, rfl⟩, rfl⟩, ⟨⟨dX0_openOn_56, rfl⟩, rfl⟩, ⟨⟨dX0_openOn_58, rfl⟩, rfl⟩, ⟨⟨dX0_openOn_59, rfl⟩, Or.inr ⟨by decide, ⟨_, my_104, sX0_128⟩, fun q => absurd q (by decide)⟩⟩, ⟨⟨dX0_openOn_62, rfl⟩, ⟨rfl, rfl⟩⟩, ⟨⟨dX0_openOn_65, rfl⟩, rfl⟩, ⟨⟨dX0_openOn_68, rfl⟩, rfl⟩, ⟨⟨dX0_openOn_70, rfl⟩, Or.inl ⟨rfl, rfl⟩⟩, trivial⟩, trivial⟩, by decide, Or.inl ⟨rfl, by decide, rfl⟩⟩
set_option maxRecDepth 100000 in
theorem g_X0_openOn_0 (S : sT) (call : cT) (n : Nat) (a0 : Nat) (x1 : Int32) (x2 : Int32) (x3 : Int32) (h : pH) : bd S call dflT E_X0_openOn (n + 1) 0 [some (.ref a0), some (.int x1), some (.int x2), some (.int x3), none, none] [] h = (gV h (.ref a0) 3 2 (fun w1 => rC h w1 4 (cI (call 101 [w1, .int x3] h) (fun y3 h2 => (if y3 = (-1) then some (.inl (some (.int (-1))), h2) else bd S call dflT E_X0_openOn n 21 [some (.ref a0), some (.int x1), some (.int x2), some (.int x3), some (.int y3), some (.int 0)] [] h2))))) := rfl
set_option maxRecDepth 100000 in
theorem g_X0_openOn_21 (S : sT) (call : cT) (n : Nat) (a0 : Nat) (x1 : Int32) (x2 : Int32) (x3 : Int32) (x4 : Int32) (x5 : Int32) (h : pH) : bd S call dflT E_X0_openOn (n + 1) 21 [some (.ref a0), some (.int x1), some (.int x2), some (.int x3), some (.int x4), some (.int x5)] [] h = ((if 48 ≤ x5 then some (.inl (some (.int x4)), h) else cI (call 95 [.int x5, .int x1, .int x2] h) (fun y2 h1 => (if y2 = 0 then bd S call dflT E_X0_openOn n 21 [some (.ref a0), some (.int x1), some (.int x2), some (.int x3), some (.int x4), some (.int (x5 + 1))] [] h1 else gV h1 (.ref a0) 3 1 (fun w3 => rC h1 w3 5 (cU (call 25 [w3, .int 10, .int x5, .int x4] h1) (fun h4 => gV h4 (.ref a0) 3 2 (fun w5 => rC h4 w5 4 (cU (call 104 [w5, .int 1, .int x4, .long 1] h4) (fun h6 => bd S call dflT E_X0_openOn n 21 [some (.ref a0), some (.int x1), some (.int x2), some (.int x3), some (.int x4), some (.int (x5 + 1))] [] h6)))))))))) := rfl
theorem dX0_openLease_0 : decode cX0_openLease 0 = .ok (.aload_n 0, 1) := by decide +kernel
theorem dX0_openLease_1 : decode cX0_openLease 1 = .ok (.iload_n 1, 1) := by decide +kernel
theorem dX0_openLease_2 : decode cX0_openLease 2 = .ok (.iload_n 2, 1) := by decide +kernel
theorem dX0_openLease_3 : decode cX0_openLease 3 = .ok (.iload_n 3, 1) := by decide +kernel
theorem dX0_openLease_4 : decode cX0_openLease 4 = .ok (.ifCond .le 7, 3) := by decide +kernel
theorem dX0_openLease_7 : decode cX0_openLease 7 = .ok (.iconst 0, 1) := by decide +kernel
theorem dX0_openLease_8 : decode cX0_openLease 8 = .ok (.goto 4, 3) := by decide +kernel
theorem dX0_openLease_11 : decode cX0_openLease 11 = .ok (.iconst 1, 1) := by decide +kernel
theorem dX0_openLease_12 : decode cX0_openLease 12 = .ok (.invokevirtual 116, 3) := by decide +kernel
theorem dX0_openLease_15 : decode cX0_openLease 15 = .ok (.istore 5, 2) := by decide +kernel
theorem dX0_openLease_17 : decode cX0_openLease 17 = .ok (.iload 5, 2) := by decide +kernel
theorem dX0_openLease_19 : decode cX0_openLease 19 = .ok (.iconst (-1), 1) := by decide +kernel
theorem dX0_openLease_20 : decode cX0_openLease 20 = .ok (.if_icmp .eq 45, 3) := by decide +kernel
theorem dX0_openLease_23 : decode cX0_openLease 23 = .ok (.aload_n 0, 1) := by decide +kernel
theorem dX0_openLease_24 : decode cX0_openLease 24 = .ok (.getfield 28, 3) := by decide +kernel
theorem dX0_openLease_27 : decode cX0_openLease 27 = .ok (.iconst 2, 1) := by decide +kernel
theorem dX0_openLease_28 : decode cX0_openLease 28 = .ok (.iload 5, 2) := by decide +kernel
theorem dX0_openLease_30 : decode cX0_openLease 30 = .ok (.iload 4, 2) := by decide +kernel
theorem dX0_openLease_32 : decode cX0_openLease 32 = .ok (.invokevirtual 120, 3) := by decide +kernel
theorem dX0_openLease_35 : decode cX0_openLease 35 = .ok (.aload_n 0, 1) := by decide +kernel
theorem dX0_openLease_36 : decode cX0_openLease 36 = .ok (.getfield 28, 3) := by decide +kernel
theorem dX0_openLease_39 : decode cX0_openLease 39 = .ok (.iconst 5, 1) := by decide +kernel
theorem dX0_openLease_40 : decode cX0_openLease 40 = .ok (.iload 5, 2) := by decide +kernel
theorem dX0_openLease_42 : decode cX0_openLease 42 = .ok (.iload_n 3, 1) := by decide +kernel
theorem dX0_openLease_43 : decode cX0_openLease 43 = .ok (.ifCond .le 18, 3) := by decide +kernel
theorem dX0_openLease_46 : decode cX0_openLease 46 = .ok (.iconst 4, 1) := by decide +kernel
theorem dX0_openLease_47 : decode cX0_openLease 47 = .ok (.aload_n 0, 1) := by decide +kernel
theorem dX0_openLease_48 : decode cX0_openLease 48 = .ok (.getfield 92, 3) := by decide +kernel
theorem dX0_openLease_51 : decode cX0_openLease 51 = .ok (.iconst 4, 1) := by decide +kernel
theorem dX0_openLease_52 : decode cX0_openLease 52 = .ok (.idiv, 1) := by decide +kernel
theorem dX0_openLease_53 : decode cX0_openLease 53 = .ok (.iload_n 3, 1) := by decide +kernel
theorem dX0_openLease_54 : decode cX0_openLease 54 = .ok (.iadd, 1) := by decide +kernel
theorem dX0_openLease_55 : decode cX0_openLease 55 = .ok (.imul, 1) := by decide +kernel
theorem dX0_openLease_56 : decode cX0_openLease 56 = .ok (.iconst 1, 1) := by decide +kernel
theorem dX0_openLease_57 : decode cX0_openLease 57 = .ok (.isub, 1) := by decide +kernel
theorem dX0_openLease_58 : decode cX0_openLease 58 = .ok (.goto 4, 3) := by decide +kernel
theorem dX0_openLease_61 : decode cX0_openLease 61 = .ok (.iconst (-1), 1) := by decide +kernel
theorem dX0_openLease_62 : decode cX0_openLease 62 = .ok (.invokevirtual 120, 3) := by decide +kernel
theorem dX0_openLease_65 : decode cX0_openLease 65 = .ok (.iload 5, 2) := by decide +kernel
theorem dX0_openLease_67 : decode cX0_openLease 67 = .ok (.ireturn, 1) := by decide +kernel
noncomputable def E_X0_openLease : mE := (mX0_openLease, [(42, [(0, (.aload_n 0, 1, false, false, 0, 0, 0, 0, 0, 0, [])), (1, (.iload_n 1, 2, false, false, 1, 0, 0, 0, 0, 0, [])), (2, (.iload_n 2, 3, false, false, 2, 0, 0, 0, 0, 0, [])), (3, (.iload_n 3, 4, false, false, 3, 0, 0, 0, 0, 0, [])), (4, (.ifCond .le 7, 7, false, false, 11, 0, 0, 0, 0, 0, [])), (7, (.iconst 0, 8, false, false, 0, 0, 0, 0, 0, 0, [])), (8, (.goto 4, 11, false, true, 12, 0, 0, 0, 0, 0, [])), (11, (.iconst 1, 12, true, false, 0, 0, 0, 0, 1, 0, [])), (12, (.invokevirtual 116, 15, false, false, 105, 3, 1, 3, 0, 0, [])), (15, (.istore 5, 17, false, false, 5, 0, 0, 0, 0, 0, [])), (17, (.iload 5, 19, false, false, 5, 0, 0, 0, 0, 0, [])), (19, (.iconst (-1), 20, false, false, 0, 0, 0, 0, -1, 0, [])), (20, (.if_icmp .eq 45, 23, false, false, 65, 0, 0, 0, 0, 0, [])), (23, (.aload_n 0, 24, false, false, 0, 0, 0, 0, 0, 0, [])), (24, (.getfield 28, 27, false, false, 3, 2, 1, 0, 0, 0, [])), (27, (.iconst 2, 28, false, false, 0, 0, 0, 0, 2, 0, [])), (28, (.iload 5, 30, false, false, 5, 0, 0, 0, 0, 0, [])), (30, (.iload 4, 32, false, false, 4, 0, 0, 0, 0, 0, [])), (32, (.invokevirtual 120, 35, false, false, 100, 3, 0, 4, 0, 0, [])), (35, (.aload_n 0, 36, false, false, 0, 0, 0, 0, 0, 0, [])), (36, (.getfield 28, 39, false, false, 3, 2, 1, 0, 0, 0, [])), (39, (.iconst 5, 40, false, false, 0, 0, 0, 0, 5, 0, [])), (40, (.iload 5, 42, false, false, 5, 0, 0, 0, 0, 0, [])), (42, (.iload_n 3, 43, false, false, 3, 0, 0, 0, 0, 0, []))]),
  (67, [(43, (.ifCond .le 18, 46, false, false, 61, 0, 0, 0, 0, 0, [])), (46, (.iconst 4, 47, false, false, 0, 0, 0, 0, 4, 0, [])), (47, (.aload_n 0, 48, false, false, 0, 0, 0, 0, 0, 0, [])), (48, (.getfield 92, 51, false, false, 3, 7, 0, 0, 0, 0, [])), (51, (.iconst 4, 52, false, false, 0, 0, 0, 0, 4, 0, [])), (52, (.idiv, 53, false, false, 0, 0, 0, 0, 0, 0, [])), (53, (.iload_n 3, 54, false, false, 3, 0, 0, 0, 0, 0, [])), (54, (.iadd, 55, false, false, 0, 0, 0, 0, 0, 0, [])), (55, (.imul, 56, false, false, 0, 0, 0, 0, 0, 0, [])), (56, (.iconst 1, 57, false, false, 0, 0, 0, 0, 1, 0, [])), (57, (.isub, 58, false, false, 0, 0, 0, 0, 0, 0, [])), (58, (.goto 4, 61, false, false, 62, 0, 0, 0, 0, 0, [])), (61, (.iconst (-1), 62, false, false, 0, 0, 0, 0, -1, 0, [])), (62, (.invokevirtual 120, 65, false, false, 100, 3, 0, 4, 0, 0, [])), (65, (.iload 5, 67, false, false, 5, 0, 0, 0, 0, 0, [])), (67, (.ireturn, 68, false, false, 0, 0, 0, 0, 0, 0, []))])], 0, [])
set_option maxRecDepth 100000 in
theorem v_X0_openLease : VE MYT dflT E_X0_openLease := ⟨⟨⟨⟨⟨dX0_openLease_0, rfl⟩, rfl⟩, ⟨⟨dX0_openLease_1, rfl⟩, rfl⟩, ⟨⟨dX0_openLease_2, rfl⟩, rfl⟩, ⟨⟨dX0_openLease_3, rfl⟩, rfl⟩, ⟨⟨dX0_openLease_4, rfl⟩, rfl⟩, ⟨⟨dX0_openLease_7, rfl⟩, rfl⟩, ⟨⟨dX0_openLease_8, rfl⟩, rfl⟩, ⟨⟨dX0_openLease_11, rfl⟩, rfl⟩, ⟨⟨dX0_openLease_12, rfl⟩, Or.inr ⟨by decide, ⟨_, my_105, sX0_116⟩, fun q => absurd q (by decide)⟩⟩, ⟨⟨dX0_openLease_15, rfl⟩, rfl⟩, ⟨⟨dX0_openLease_17, rfl⟩, rfl⟩, ⟨⟨dX0_openLease_19, rfl⟩, rfl⟩, ⟨⟨dX0_openLease_20, rfl⟩, rfl⟩, ⟨⟨dX0_openLease_23, rfl⟩, rfl⟩, ⟨⟨dX0_openLease_24, rfl⟩, Or.inl ⟨by decide, _, _, fX0_28⟩⟩, ⟨⟨dX0_openLease_27, rfl⟩, rfl⟩, ⟨⟨dX0_openLease_28, rfl⟩, rfl⟩, ⟨⟨dX0_openLease_30, rfl⟩, rfl⟩, ⟨⟨dX0_openLease_32, rfl⟩, Or.inr ⟨by decide, ⟨_, my_100, sX0_120⟩, fun q => absurd q (by decide)⟩⟩, ⟨⟨dX0_openLease_35, rfl⟩, rfl⟩, ⟨⟨dX0_openLease_36, rfl⟩, Or.inl ⟨by decide, _, _, fX0_28⟩⟩, ⟨⟨dX0_openLease_39, rfl⟩, rfl⟩, ⟨⟨dX0_openLease_40, rfl⟩, rfl⟩, ⟨⟨dX0_openLease_42, rfl⟩, rfl⟩, trivial⟩,
  ⟨⟨⟨dX0_openLease_43, rfl⟩, rfl⟩, ⟨⟨dX0_openLease_46, rfl⟩, rfl⟩, ⟨⟨dX0_openLease_47, rfl⟩, rfl⟩, ⟨⟨dX0_openLease_48, rfl⟩, Or.inl ⟨by decide, _, _, fX0_92⟩⟩, ⟨⟨dX0_openLease_51, rfl⟩, rfl⟩, ⟨⟨dX0_openLease_52, rfl⟩, trivial⟩, ⟨⟨dX0_openLease_53, rfl⟩, rfl⟩, ⟨⟨dX0_openLease_54, rfl⟩, trivial⟩, ⟨⟨dX0_openLease_55, rfl⟩, trivial⟩, ⟨⟨dX0_openLease_56, rfl⟩, rfl⟩, ⟨⟨dX0_openLease_57, rfl⟩, trivial⟩, ⟨⟨dX0_openLease_58, rfl⟩, rfl⟩, ⟨⟨dX0_openLease_61, rfl⟩, rfl⟩, ⟨⟨dX0_openLease_62, rfl⟩, Or.inr ⟨by decide, ⟨_, my_100, sX0_120⟩, fun q => absurd q (by decide)⟩⟩, ⟨⟨dX0_openLease_65, rfl⟩, rfl⟩, ⟨⟨dX0_openLease_67, rfl⟩, Or.inl ⟨rfl, rfl⟩⟩, trivial⟩, trivial⟩, by decide, Or.inl ⟨rfl, by decide, rfl⟩⟩
set_option maxRecDepth 100000 in
theorem g_X0_openLease_0 (S : sT) (call : cT) (n : Nat) (a0 : Nat) (x1 : Int32) (x2 : Int32) (x3 : Int32) (x4 : Int32) (h : pH) : bd S call dflT E_X0_openLease (n + 1) 0 [some (.ref a0), some (.int x1), some (.int x2), some (.int x3), some (.int x4), none] [] h = ((if x3 ≤ 0 then bd S call dflT E_X0_openLease n 12 [some (.ref a0), some (.int x1), some (.int x2), some (.int x3), some (.int x4), none] [.int 1, .int x2, .int x1, .ref a0] h else bd S call dflT E_X0_openLease n 12 [some (.ref a0), some (.int x1), some (.int x2), some (.int x3), some (.int x4), none] [.int 0, .int x2, .int x1, .ref a0] h)) := rfl
set_option maxRecDepth 100000 in
theorem g_X0_openLease_12 (S : sT) (call : cT) (n : Nat) (a0 : Nat) (x1 : Int32) (x2 : Int32) (x3 : Int32) (x4 : Int32) (o5 : Option Value) (u0 : Value) (y1 : Int32) (y2 : Int32) (y3 : Int32) (h : pH) : bd S call dflT E_X0_openLease (n + 1) 12 [some (.ref a0), some (.int x1), some (.int x2), some (.int x3), some (.int x4), o5] [.int y3, .int y2, .int y1, u0] h = (rC h u0 3 (cI (call 105 [u0, .int y1, .int y2, .int y3] h) (fun y2 h1 => (if y2 = (-1) then some (.inl (some (.int y2)), h1) else gV h1 (.ref a0) 3 2 (fun w3 => rC h1 w3 4 (cU (call 100 [w3, .int 2, .int y2, .int x4] h1) (fun h4 => gV h4 (.ref a0) 3 2 (fun w5 => (if x3 ≤ 0 then rC h4 w5 4 (cU (call 100 [w5, .int 5, .int y2, .int (-1)] h4) (fun h6 => some (.inl (some (.int y2)), h6))) else gI h4 (.ref a0) 3 7 (fun y7 => dv 4 (rC h4 w5 4 (cU (call 100 [w5, .int 5, .int y2, .int ((4 * ((y7 / 4) + x3)) - 1)] h4) (fun h8 => some (.inl (some (.int y2)), h8)))))))))))))) := rfl
theorem dX0_openKept_0 : decode cX0_openKept 0 = .ok (.aload_n 0, 1) := by decide +kernel
theorem dX0_openKept_1 : decode cX0_openKept 1 = .ok (.iload_n 1, 1) := by decide +kernel
theorem dX0_openKept_2 : decode cX0_openKept 2 = .ok (.iload_n 2, 1) := by decide +kernel
theorem dX0_openKept_3 : decode cX0_openKept 3 = .ok (.iload_n 3, 1) := by decide +kernel
theorem dX0_openKept_4 : decode cX0_openKept 4 = .ok (.invokevirtual 116, 3) := by decide +kernel
theorem dX0_openKept_7 : decode cX0_openKept 7 = .ok (.istore 6, 2) := by decide +kernel
theorem dX0_openKept_9 : decode cX0_openKept 9 = .ok (.iload 6, 2) := by decide +kernel
theorem dX0_openKept_11 : decode cX0_openKept 11 = .ok (.iconst (-1), 1) := by decide +kernel
theorem dX0_openKept_12 : decode cX0_openKept 12 = .ok (.if_icmp .eq 29, 3) := by decide +kernel
theorem dX0_openKept_15 : decode cX0_openKept 15 = .ok (.aload_n 0, 1) := by decide +kernel
theorem dX0_openKept_16 : decode cX0_openKept 16 = .ok (.getfield 28, 3) := by decide +kernel
theorem dX0_openKept_19 : decode cX0_openKept 19 = .ok (.bipush 11, 2) := by decide +kernel
theorem dX0_openKept_21 : decode cX0_openKept 21 = .ok (.iload 6, 2) := by decide +kernel
theorem dX0_openKept_23 : decode cX0_openKept 23 = .ok (.iload 4, 2) := by decide +kernel
theorem dX0_openKept_25 : decode cX0_openKept 25 = .ok (.invokevirtual 120, 3) := by decide +kernel
theorem dX0_openKept_28 : decode cX0_openKept 28 = .ok (.aload_n 0, 1) := by decide +kernel
theorem dX0_openKept_29 : decode cX0_openKept 29 = .ok (.getfield 28, 3) := by decide +kernel
theorem dX0_openKept_32 : decode cX0_openKept 32 = .ok (.bipush 12, 2) := by decide +kernel
theorem dX0_openKept_34 : decode cX0_openKept 34 = .ok (.iload 6, 2) := by decide +kernel
theorem dX0_openKept_36 : decode cX0_openKept 36 = .ok (.iload 5, 2) := by decide +kernel
theorem dX0_openKept_38 : decode cX0_openKept 38 = .ok (.invokevirtual 120, 3) := by decide +kernel
theorem dX0_openKept_41 : decode cX0_openKept 41 = .ok (.iload 6, 2) := by decide +kernel
theorem dX0_openKept_43 : decode cX0_openKept 43 = .ok (.ireturn, 1) := by decide +kernel
noncomputable def E_X0_openKept : mE := (mX0_openKept, [(43, [(0, (.aload_n 0, 1, false, false, 0, 0, 0, 0, 0, 0, [])), (1, (.iload_n 1, 2, false, false, 1, 0, 0, 0, 0, 0, [])), (2, (.iload_n 2, 3, false, false, 2, 0, 0, 0, 0, 0, [])), (3, (.iload_n 3, 4, false, false, 3, 0, 0, 0, 0, 0, [])), (4, (.invokevirtual 116, 7, false, false, 105, 3, 1, 3, 0, 0, [])), (7, (.istore 6, 9, false, false, 6, 0, 0, 0, 0, 0, [])), (9, (.iload 6, 11, false, false, 6, 0, 0, 0, 0, 0, [])), (11, (.iconst (-1), 12, false, false, 0, 0, 0, 0, -1, 0, [])), (12, (.if_icmp .eq 29, 15, false, false, 41, 0, 0, 0, 0, 0, [])), (15, (.aload_n 0, 16, false, false, 0, 0, 0, 0, 0, 0, [])), (16, (.getfield 28, 19, false, false, 3, 2, 1, 0, 0, 0, [])), (19, (.bipush 11, 21, false, false, 0, 0, 0, 0, 11, 0, [])), (21, (.iload 6, 23, false, false, 6, 0, 0, 0, 0, 0, [])), (23, (.iload 4, 25, false, false, 4, 0, 0, 0, 0, 0, [])), (25, (.invokevirtual 120, 28, false, false, 100, 3, 0, 4, 0, 0, [])), (28, (.aload_n 0, 29, false, false, 0, 0, 0, 0, 0, 0, [])), (29, (.getfield 28, 32, false, false, 3, 2, 1, 0, 0, 0, [])), (32, (.bipush 12, 34, false, false, 0, 0, 0, 0, 12, 0, [])), (34, (.iload 6, 36, false, false, 6, 0, 0, 0, 0, 0, [])), (36, (.iload 5, 38, false, false, 5, 0, 0, 0, 0, 0, [])), (38, (.invokevirtual 120, 41, false, false, 100, 3, 0, 4, 0, 0, [])), (41, (.iload 6, 43, false, false, 6, 0, 0, 0, 0, 0, [])), (43, (.ireturn, 44, false, false, 0, 0, 0, 0, 0, 0, []))])], 0, [])
set_option maxRecDepth 100000 in
theorem v_X0_openKept : VE MYT dflT E_X0_openKept := ⟨⟨⟨⟨⟨dX0_openKept_0, rfl⟩, rfl⟩, ⟨⟨dX0_openKept_1, rfl⟩, rfl⟩, ⟨⟨dX0_openKept_2, rfl⟩, rfl⟩, ⟨⟨dX0_openKept_3, rfl⟩, rfl⟩, ⟨⟨dX0_openKept_4, rfl⟩, Or.inr ⟨by decide, ⟨_, my_105, sX0_116⟩, fun q => absurd q (by decide)⟩⟩, ⟨⟨dX0_openKept_7, rfl⟩, rfl⟩, ⟨⟨dX0_openKept_9, rfl⟩, rfl⟩, ⟨⟨dX0_openKept_11, rfl⟩, rfl⟩, ⟨⟨dX0_openKept_12, rfl⟩, rfl⟩, ⟨⟨dX0_openKept_15, rfl⟩, rfl⟩, ⟨⟨dX0_openKept_16, rfl⟩, Or.inl ⟨by decide, _, _, fX0_28⟩⟩, ⟨⟨dX0_openKept_19, rfl⟩, rfl⟩, ⟨⟨dX0_openKept_21, rfl⟩, rfl⟩, ⟨⟨dX0_openKept_23, rfl⟩, rfl⟩, ⟨⟨dX0_openKept_25, rfl⟩, Or.inr ⟨by decide, ⟨_, my_100, sX0_120⟩, fun q => absurd q (by decide)⟩⟩, ⟨⟨dX0_openKept_28, rfl⟩, rfl⟩, ⟨⟨dX0_openKept_29, rfl⟩, Or.inl ⟨by decide, _, _, fX0_28⟩⟩, ⟨⟨dX0_openKept_32, rfl⟩, rfl⟩, ⟨⟨dX0_openKept_34, rfl⟩, rfl⟩, ⟨⟨dX0_openKept_36, rfl⟩, rfl⟩, ⟨⟨dX0_openKept_38, rfl⟩, Or.inr ⟨by decide, ⟨_, my_100, sX0_120⟩, fun q => absurd q (by decide)⟩⟩, ⟨⟨dX0_openKept_41, rfl⟩, rfl⟩, ⟨⟨dX0_openKept_43, rfl⟩, Or.inl ⟨rfl, rfl⟩⟩, trivial⟩, trivial⟩, by decide, Or.inl ⟨rfl, by decide, rfl⟩⟩
set_option maxRecDepth 100000 in
theorem g_X0_openKept_0 (S : sT) (call : cT) (n : Nat) (a0 : Nat) (x1 : Int32) (x2 : Int32) (x3 : Int32) (x4 : Int32) (x5 : Int32) (h : pH) : bd S call dflT E_X0_openKept (n + 1) 0 [some (.ref a0), some (.int x1), some (.int x2), some (.int x3), some (.int x4), some (.int x5), none] [] h = (rC h (.ref a0) 3 (cI (call 105 [.ref a0, .int x1, .int x2, .int x3] h) (fun y2 h1 => (if y2 = (-1) then some (.inl (some (.int y2)), h1) else gV h1 (.ref a0) 3 2 (fun w3 => rC h1 w3 4 (cU (call 100 [w3, .int 11, .int y2, .int x4] h1) (fun h4 => gV h4 (.ref a0) 3 2 (fun w5 => rC h4 w5 4 (cU (call 100 [w5, .int 12, .int y2, .int x5] h4) (fun h6 => some (.inl (some (.int y2)), h6))))))))))) := rfl
theorem dX0_kindAt_0 : decode cX0_kindAt 0 = .ok (.aload_n 0, 1) := by decide +kernel
theorem dX0_kindAt_1 : decode cX0_kindAt 1 = .ok (.getfield 21, 3) := by decide +kernel
theorem dX0_kindAt_4 : decode cX0_kindAt 4 = .ok (.bipush 10, 2) := by decide +kernel
theorem dX0_kindAt_6 : decode cX0_kindAt 6 = .ok (.iload_n 1, 1) := by decide +kernel
theorem dX0_kindAt_7 : decode cX0_kindAt 7 = .ok (.invokevirtual 96, 3) := by decide +kernel
theorem dX0_kindAt_10 : decode cX0_kindAt 10 = .ok (.istore_n 2, 1) := by decide +kernel
theorem dX0_kindAt_11 : decode cX0_kindAt 11 = .ok (.iload_n 2, 1) := by decide +kernel
theorem dX0_kindAt_12 : decode cX0_kindAt 12 = .ok (.iconst (-1), 1) := by decide +kernel
theorem dX0_kindAt_13 : decode cX0_kindAt 13 = .ok (.if_icmp .ne 7, 3) := by decide +kernel
theorem dX0_kindAt_16 : decode cX0_kindAt 16 = .ok (.iconst (-1), 1) := by decide +kernel
theorem dX0_kindAt_17 : decode cX0_kindAt 17 = .ok (.goto 12, 3) := by decide +kernel
theorem dX0_kindAt_20 : decode cX0_kindAt 20 = .ok (.aload_n 0, 1) := by decide +kernel
theorem dX0_kindAt_21 : decode cX0_kindAt 21 = .ok (.getfield 28, 3) := by decide +kernel
theorem dX0_kindAt_24 : decode cX0_kindAt 24 = .ok (.iconst 0, 1) := by decide +kernel
theorem dX0_kindAt_25 : decode cX0_kindAt 25 = .ok (.iload_n 2, 1) := by decide +kernel
theorem dX0_kindAt_26 : decode cX0_kindAt 26 = .ok (.invokevirtual 100, 3) := by decide +kernel
theorem dX0_kindAt_29 : decode cX0_kindAt 29 = .ok (.ireturn, 1) := by decide +kernel
noncomputable def E_X0_kindAt : mE := (mX0_kindAt, [(29, [(0, (.aload_n 0, 1, false, false, 0, 0, 0, 0, 0, 0, [])), (1, (.getfield 21, 4, false, false, 3, 1, 1, 0, 0, 0, [])), (4, (.bipush 10, 6, false, false, 0, 0, 0, 0, 10, 0, [])), (6, (.iload_n 1, 7, false, false, 1, 0, 0, 0, 0, 0, [])), (7, (.invokevirtual 96, 10, false, false, 23, 2, 1, 5, 0, 0, [])), (10, (.istore_n 2, 11, false, false, 2, 0, 0, 0, 0, 0, [])), (11, (.iload_n 2, 12, false, false, 2, 0, 0, 0, 0, 0, [])), (12, (.iconst (-1), 13, false, false, 0, 0, 0, 0, -1, 0, [])), (13, (.if_icmp .ne 7, 16, false, false, 20, 0, 0, 0, 0, 0, [])), (16, (.iconst (-1), 17, false, false, 0, 0, 0, 0, -1, 0, [])), (17, (.goto 12, 20, false, false, 29, 0, 0, 0, 0, 0, [])), (20, (.aload_n 0, 21, false, false, 0, 0, 0, 0, 0, 0, [])), (21, (.getfield 28, 24, false, false, 3, 2, 1, 0, 0, 0, [])), (24, (.iconst 0, 25, false, false, 0, 0, 0, 0, 0, 0, [])), (25, (.iload_n 2, 26, false, false, 2, 0, 0, 0, 0, 0, [])), (26, (.invokevirtual 100, 29, false, false, 102, 2, 1, 4, 0, 0, [])), (29, (.ireturn, 30, false, false, 0, 0, 0, 0, 0, 0, []))])], 0, [])
set_option maxRecDepth 100000 in
theorem v_X0_kindAt : VE MYT dflT E_X0_kindAt := ⟨⟨⟨⟨⟨dX0_kindAt_0, rfl⟩, rfl⟩, ⟨⟨dX0_kindAt_1, rfl⟩, Or.inl ⟨by decide, _, _, fX0_21⟩⟩, ⟨⟨dX0_kindAt_4, rfl⟩, rfl⟩, ⟨⟨dX0_kindAt_6, rfl⟩, rfl⟩, ⟨⟨dX0_kindAt_7, rfl⟩, Or.inr ⟨by decide, ⟨_, my_23, sX0_96⟩, fun q => absurd q (by decide)⟩⟩, ⟨⟨dX0_kindAt_10, rfl⟩, rfl⟩, ⟨⟨dX0_kindAt_11, rfl⟩, rfl⟩, ⟨⟨dX0_kindAt_12, rfl⟩, rfl⟩, ⟨⟨dX0_kindAt_13, rfl⟩, rfl⟩, ⟨⟨dX0_kindAt_16, rfl⟩, rfl⟩, ⟨⟨dX0_kindAt_17, rfl⟩, rfl⟩, ⟨⟨dX0_kindAt_20, rfl⟩, rfl⟩, ⟨⟨dX0_kindAt_21, rfl⟩, Or.inl ⟨by decide, _, _, fX0_28⟩⟩, ⟨⟨dX0_kindAt_24, rfl⟩, rfl⟩, ⟨⟨dX0_kindAt_25, rfl⟩, rfl⟩, ⟨⟨dX0_kindAt_26, rfl⟩, Or.inr ⟨by decide, ⟨_, my_102, sX0_100⟩, fun q => absurd q (by decide)⟩⟩, ⟨⟨dX0_kindAt_29, rfl⟩, Or.inl ⟨rfl, rfl⟩⟩, trivial⟩, trivial⟩, by decide, Or.inl ⟨rfl, by decide, rfl⟩⟩
set_option maxRecDepth 100000 in
theorem g_X0_kindAt_0 (S : sT) (call : cT) (n : Nat) (a0 : Nat) (x1 : Int32) (h : pH) : bd S call dflT E_X0_kindAt (n + 1) 0 [some (.ref a0), some (.int x1), none] [] h = (gV h (.ref a0) 3 1 (fun w1 => rC h w1 5 (cI (call 23 [w1, .int 10, .int x1] h) (fun y3 h2 => (if y3 = (-1) then some (.inl (some (.int (-1))), h2) else gV h2 (.ref a0) 3 2 (fun w4 => rC h2 w4 4 (cI (call 102 [w4, .int 0, .int y3] h2) (fun y6 h5 => some (.inl (some (.int y6)), h5))))))))) := rfl
theorem dX0_close_0 : decode cX0_close 0 = .ok (.iconst 0, 1) := by decide +kernel
theorem dX0_close_1 : decode cX0_close 1 = .ok (.istore_n 2, 1) := by decide +kernel
theorem dX0_close_2 : decode cX0_close 2 = .ok (.iload_n 2, 1) := by decide +kernel
theorem dX0_close_3 : decode cX0_close 3 = .ok (.bipush 48, 2) := by decide +kernel
theorem dX0_close_5 : decode cX0_close 5 = .ok (.if_icmp .ge 44, 3) := by decide +kernel
theorem dX0_close_8 : decode cX0_close 8 = .ok (.aload_n 0, 1) := by decide +kernel
theorem dX0_close_9 : decode cX0_close 9 = .ok (.getfield 21, 3) := by decide +kernel
theorem dX0_close_12 : decode cX0_close 12 = .ok (.bipush 10, 2) := by decide +kernel
theorem dX0_close_14 : decode cX0_close 14 = .ok (.iload_n 2, 1) := by decide +kernel
theorem dX0_close_15 : decode cX0_close 15 = .ok (.invokevirtual 96, 3) := by decide +kernel
theorem dX0_close_18 : decode cX0_close 18 = .ok (.iload_n 1, 1) := by decide +kernel
theorem dX0_close_19 : decode cX0_close 19 = .ok (.if_icmp .ne 24, 3) := by decide +kernel
theorem dX0_close_22 : decode cX0_close 22 = .ok (.aload_n 0, 1) := by decide +kernel
theorem dX0_close_23 : decode cX0_close 23 = .ok (.getfield 21, 3) := by decide +kernel
theorem dX0_close_26 : decode cX0_close 26 = .ok (.bipush 10, 2) := by decide +kernel
theorem dX0_close_28 : decode cX0_close 28 = .ok (.iload_n 2, 1) := by decide +kernel
theorem dX0_close_29 : decode cX0_close 29 = .ok (.iconst (-1), 1) := by decide +kernel
theorem dX0_close_30 : decode cX0_close 30 = .ok (.invokevirtual 127, 3) := by decide +kernel
theorem dX0_close_33 : decode cX0_close 33 = .ok (.aload_n 0, 1) := by decide +kernel
theorem dX0_close_34 : decode cX0_close 34 = .ok (.getfield 21, 3) := by decide +kernel
theorem dX0_close_37 : decode cX0_close 37 = .ok (.iconst 3, 1) := by decide +kernel
theorem dX0_close_38 : decode cX0_close 38 = .ok (.iload_n 2, 1) := by decide +kernel
theorem dX0_close_39 : decode cX0_close 39 = .ok (.iconst 0, 1) := by decide +kernel
theorem dX0_close_40 : decode cX0_close 40 = .ok (.invokevirtual 127, 3) := by decide +kernel
theorem dX0_close_43 : decode cX0_close 43 = .ok (.iinc 2 1, 3) := by decide +kernel
theorem dX0_close_46 : decode cX0_close 46 = .ok (.goto (-44), 3) := by decide +kernel
theorem dX0_close_49 : decode cX0_close 49 = .ok (.aload_n 0, 1) := by decide +kernel
theorem dX0_close_50 : decode cX0_close 50 = .ok (.getfield 28, 3) := by decide +kernel
theorem dX0_close_53 : decode cX0_close 53 = .ok (.iconst 1, 1) := by decide +kernel
theorem dX0_close_54 : decode cX0_close 54 = .ok (.iload_n 1, 1) := by decide +kernel
theorem dX0_close_55 : decode cX0_close 55 = .ok (.iconst 0, 1) := by decide +kernel
theorem dX0_close_56 : decode cX0_close 56 = .ok (.invokevirtual 120, 3) := by decide +kernel
theorem dX0_close_59 : decode cX0_close 59 = .ok (.aload_n 0, 1) := by decide +kernel
theorem dX0_close_60 : decode cX0_close 60 = .ok (.getfield 28, 3) := by decide +kernel
theorem dX0_close_63 : decode cX0_close 63 = .ok (.bipush 6, 2) := by decide +kernel
theorem dX0_close_65 : decode cX0_close 65 = .ok (.iload_n 1, 1) := by decide +kernel
theorem dX0_close_66 : decode cX0_close 66 = .ok (.iconst 1, 1) := by decide +kernel
theorem dX0_close_67 : decode cX0_close 67 = .ok (.invokevirtual 120, 3) := by decide +kernel
theorem dX0_close_70 : decode cX0_close 70 = .ok (.return_, 1) := by decide +kernel
noncomputable def E_X0_close : mE := (mX0_close, [(40, [(0, (.iconst 0, 1, false, false, 0, 0, 0, 0, 0, 0, [])), (1, (.istore_n 2, 2, true, false, 2, 0, 0, 0, 0, 0, [])), (2, (.iload_n 2, 3, false, false, 2, 0, 0, 0, 0, 0, [])), (3, (.bipush 48, 5, false, false, 0, 0, 0, 0, 48, 0, [])), (5, (.if_icmp .ge 44, 8, false, false, 49, 0, 0, 0, 0, 0, [])), (8, (.aload_n 0, 9, false, false, 0, 0, 0, 0, 0, 0, [])), (9, (.getfield 21, 12, false, false, 3, 1, 1, 0, 0, 0, [])), (12, (.bipush 10, 14, false, false, 0, 0, 0, 0, 10, 0, [])), (14, (.iload_n 2, 15, false, false, 2, 0, 0, 0, 0, 0, [])), (15, (.invokevirtual 96, 18, false, false, 23, 2, 1, 5, 0, 0, [])), (18, (.iload_n 1, 19, false, false, 1, 0, 0, 0, 0, 0, [])), (19, (.if_icmp .ne 24, 22, false, false, 43, 0, 0, 0, 0, 0, [])), (22, (.aload_n 0, 23, false, false, 0, 0, 0, 0, 0, 0, [])), (23, (.getfield 21, 26, false, false, 3, 1, 1, 0, 0, 0, [])), (26, (.bipush 10, 28, false, false, 0, 0, 0, 0, 10, 0, [])), (28, (.iload_n 2, 29, false, false, 2, 0, 0, 0, 0, 0, [])), (29, (.iconst (-1), 30, false, false, 0, 0, 0, 0, -1, 0, [])), (30, (.invokevirtual 127, 33, false, false, 25, 3, 0, 5, 0, 0, [])), (33, (.aload_n 0, 34, false, false, 0, 0, 0, 0, 0, 0, [])), (34, (.getfield 21, 37, false, false, 3, 1, 1, 0, 0, 0, [])), (37, (.iconst 3, 38, false, false, 0, 0, 0, 0, 3, 0, [])), (38, (.iload_n 2, 39, false, false, 2, 0, 0, 0, 0, 0, [])), (39, (.iconst 0, 40, false, false, 0, 0, 0, 0, 0, 0, [])), (40, (.invokevirtual 127, 43, false, false, 25, 3, 0, 5, 0, 0, []))]),
  (70, [(43, (.iinc 2 1, 46, false, false, 2, 0, 0, 0, 1, 0, [])), (46, (.goto (-44), 49, false, true, 2, 0, 0, 0, 0, 0, [])), (49, (.aload_n 0, 50, false, false, 0, 0, 0, 0, 0, 0, [])), (50, (.getfield 28, 53, false, false, 3, 2, 1, 0, 0, 0, [])), (53, (.iconst 1, 54, false, false, 0, 0, 0, 0, 1, 0, [])), (54, (.iload_n 1, 55, false, false, 1, 0, 0, 0, 0, 0, [])), (55, (.iconst 0, 56, false, false, 0, 0, 0, 0, 0, 0, [])), (56, (.invokevirtual 120, 59, false, false, 100, 3, 0, 4, 0, 0, [])), (59, (.aload_n 0, 60, false, false, 0, 0, 0, 0, 0, 0, [])), (60, (.getfield 28, 63, false, false, 3, 2, 1, 0, 0, 0, [])), (63, (.bipush 6, 65, false, false, 0, 0, 0, 0, 6, 0, [])), (65, (.iload_n 1, 66, false, false, 1, 0, 0, 0, 0, 0, [])), (66, (.iconst 1, 67, false, false, 0, 0, 0, 0, 1, 0, [])), (67, (.invokevirtual 120, 70, false, false, 100, 3, 0, 4, 0, 0, [])), (70, (.return_, 71, false, false, 0, 0, 0, 0, 0, 0, []))])], 0, [])
set_option maxRecDepth 100000 in
theorem v_X0_close : VE MYT dflT E_X0_close := ⟨⟨⟨⟨⟨dX0_close_0, rfl⟩, rfl⟩, ⟨⟨dX0_close_1, rfl⟩, rfl⟩, ⟨⟨dX0_close_2, rfl⟩, rfl⟩, ⟨⟨dX0_close_3, rfl⟩, rfl⟩, ⟨⟨dX0_close_5, rfl⟩, rfl⟩, ⟨⟨dX0_close_8, rfl⟩, rfl⟩, ⟨⟨dX0_close_9, rfl⟩, Or.inl ⟨by decide, _, _, fX0_21⟩⟩, ⟨⟨dX0_close_12, rfl⟩, rfl⟩, ⟨⟨dX0_close_14, rfl⟩, rfl⟩, ⟨⟨dX0_close_15, rfl⟩, Or.inr ⟨by decide, ⟨_, my_23, sX0_96⟩, fun q => absurd q (by decide)⟩⟩, ⟨⟨dX0_close_18, rfl⟩, rfl⟩, ⟨⟨dX0_close_19, rfl⟩, rfl⟩, ⟨⟨dX0_close_22, rfl⟩, rfl⟩, ⟨⟨dX0_close_23, rfl⟩, Or.inl ⟨by decide, _, _, fX0_21⟩⟩, ⟨⟨dX0_close_26, rfl⟩, rfl⟩, ⟨⟨dX0_close_28, rfl⟩, rfl⟩, ⟨⟨dX0_close_29, rfl⟩, rfl⟩, ⟨⟨dX0_close_30, rfl⟩, Or.inr ⟨by decide, ⟨_, my_25, sX0_127⟩, fun q => absurd q (by decide)⟩⟩, ⟨⟨dX0_close_33, rfl⟩, rfl⟩, ⟨⟨dX0_close_34, rfl⟩, Or.inl ⟨by decide, _, _, fX0_21⟩⟩, ⟨⟨dX0_close_37, rfl⟩, rfl⟩, ⟨⟨dX0_close_38, rfl⟩, rfl⟩, ⟨⟨dX0_close_39, rfl⟩, rfl⟩, ⟨⟨dX0_close_40, rfl⟩, Or.inr ⟨by decide, ⟨_, my_25, sX0_127⟩, fun q => absurd q (by decide)⟩⟩, trivial⟩,
  ⟨⟨⟨dX0_close_43, rfl⟩, ⟨rfl, rfl⟩⟩, ⟨⟨dX0_close_46, rfl⟩, rfl⟩, ⟨⟨dX0_close_49, rfl⟩, rfl⟩, ⟨⟨dX0_close_50, rfl⟩, Or.inl ⟨by decide, _, _, fX0_28⟩⟩, ⟨⟨dX0_close_53, rfl⟩, rfl⟩, ⟨⟨dX0_close_54, rfl⟩, rfl⟩, ⟨⟨dX0_close_55, rfl⟩, rfl⟩, ⟨⟨dX0_close_56, rfl⟩, Or.inr ⟨by decide, ⟨_, my_100, sX0_120⟩, fun q => absurd q (by decide)⟩⟩, ⟨⟨dX0_close_59, rfl⟩, rfl⟩, ⟨⟨dX0_close_60, rfl⟩, Or.inl ⟨by decide, _, _, fX0_28⟩⟩, ⟨⟨dX0_close_63, rfl⟩, rfl⟩, ⟨⟨dX0_close_65, rfl⟩, rfl⟩, ⟨⟨dX0_close_66, rfl⟩, rfl⟩, ⟨⟨dX0_close_67, rfl⟩, Or.inr ⟨by decide, ⟨_, my_100, sX0_120⟩, fun q => absurd q (by decide)⟩⟩, ⟨⟨dX0_close_70, rfl⟩, rfl⟩, trivial⟩, trivial⟩, by decide, Or.inl ⟨rfl, by decide, rfl⟩⟩
set_option maxRecDepth 100000 in
theorem g_X0_close_0 (S : sT) (call : cT) (n : Nat) (a0 : Nat) (x1 : Int32) (h : pH) : bd S call dflT E_X0_close (n + 1) 0 [some (.ref a0), some (.int x1), none] [] h = (bd S call dflT E_X0_close n 2 [some (.ref a0), some (.int x1), some (.int 0)] [] h) := rfl
set_option maxRecDepth 100000 in
theorem g_X0_close_2 (S : sT) (call : cT) (n : Nat) (a0 : Nat) (x1 : Int32) (x2 : Int32) (h : pH) : bd S call dflT E_X0_close (n + 1) 2 [some (.ref a0), some (.int x1), some (.int x2)] [] h = ((if 48 ≤ x2 then gV h (.ref a0) 3 2 (fun w1 => rC h w1 4 (cU (call 100 [w1, .int 1, .int x1, .int 0] h) (fun h2 => gV h2 (.ref a0) 3 2 (fun w3 => rC h2 w3 4 (cU (call 100 [w3, .int 6, .int x1, .int 1] h2) (fun h4 => some (.inl none, h4))))))) else gV h (.ref a0) 3 1 (fun w5 => rC h w5 5 (cI (call 23 [w5, .int 10, .int x2] h) (fun y7 h6 => (if y7 = x1 then gV h6 (.ref a0) 3 1 (fun w8 => rC h6 w8 5 (cU (call 25 [w8, .int 10, .int x2, .int (-1)] h6) (fun h9 => gV h9 (.ref a0) 3 1 (fun w10 => rC h9 w10 5 (cU (call 25 [w10, .int 3, .int x2, .int 0] h9) (fun h11 => bd S call dflT E_X0_close n 2 [some (.ref a0), some (.int x1), some (.int (x2 + 1))] [] h11)))))) else bd S call dflT E_X0_close n 2 [some (.ref a0), some (.int x1), some (.int (x2 + 1))] [] h6)))))) := rfl
theorem dX0_learnPrices_0 : decode cX0_learnPrices 0 = .ok (.aload_n 0, 1) := by decide +kernel
theorem dX0_learnPrices_1 : decode cX0_learnPrices 1 = .ok (.getfield 35, 3) := by decide +kernel
theorem dX0_learnPrices_4 : decode cX0_learnPrices 4 = .ok (.aload_n 0, 1) := by decide +kernel
theorem dX0_learnPrices_5 : decode cX0_learnPrices 5 = .ok (.getfield 92, 3) := by decide +kernel
theorem dX0_learnPrices_8 : decode cX0_learnPrices 8 = .ok (.iconst 4, 1) := by decide +kernel
theorem dX0_learnPrices_9 : decode cX0_learnPrices 9 = .ok (.idiv, 1) := by decide +kernel
theorem dX0_learnPrices_10 : decode cX0_learnPrices 10 = .ok (.aload_n 0, 1) := by decide +kernel
theorem dX0_learnPrices_11 : decode cX0_learnPrices 11 = .ok (.getfield 60, 3) := by decide +kernel
theorem dX0_learnPrices_14 : decode cX0_learnPrices 14 = .ok (.invokevirtual 132, 3) := by decide +kernel
theorem dX0_learnPrices_17 : decode cX0_learnPrices 17 = .ok (.return_, 1) := by decide +kernel
noncomputable def E_X0_learnPrices : mE := (mX0_learnPrices, [(17, [(0, (.aload_n 0, 1, false, false, 0, 0, 0, 0, 0, 0, [])), (1, (.getfield 35, 4, false, false, 3, 3, 1, 0, 0, 0, [])), (4, (.aload_n 0, 5, false, false, 0, 0, 0, 0, 0, 0, [])), (5, (.getfield 92, 8, false, false, 3, 7, 0, 0, 0, 0, [])), (8, (.iconst 4, 9, false, false, 0, 0, 0, 0, 4, 0, [])), (9, (.idiv, 10, false, false, 0, 0, 0, 0, 0, 0, [])), (10, (.aload_n 0, 11, false, false, 0, 0, 0, 0, 0, 0, [])), (11, (.getfield 60, 14, false, false, 3, 8, 1, 0, 0, 0, [])), (14, (.invokevirtual 132, 17, false, false, 181, 2, 0, 7, 0, 0, [])), (17, (.return_, 18, false, false, 0, 0, 0, 0, 0, 0, []))])], 0, [])
set_option maxRecDepth 100000 in
theorem v_X0_learnPrices : VE MYT dflT E_X0_learnPrices := ⟨⟨⟨⟨⟨dX0_learnPrices_0, rfl⟩, rfl⟩, ⟨⟨dX0_learnPrices_1, rfl⟩, Or.inl ⟨by decide, _, _, fX0_35⟩⟩, ⟨⟨dX0_learnPrices_4, rfl⟩, rfl⟩, ⟨⟨dX0_learnPrices_5, rfl⟩, Or.inl ⟨by decide, _, _, fX0_92⟩⟩, ⟨⟨dX0_learnPrices_8, rfl⟩, rfl⟩, ⟨⟨dX0_learnPrices_9, rfl⟩, trivial⟩, ⟨⟨dX0_learnPrices_10, rfl⟩, rfl⟩, ⟨⟨dX0_learnPrices_11, rfl⟩, Or.inl ⟨by decide, _, _, fX0_60⟩⟩, ⟨⟨dX0_learnPrices_14, rfl⟩, Or.inr ⟨by decide, ⟨_, my_181, sX0_132⟩, fun q => absurd q (by decide)⟩⟩, ⟨⟨dX0_learnPrices_17, rfl⟩, rfl⟩, trivial⟩, trivial⟩, by decide, Or.inl ⟨rfl, by decide, rfl⟩⟩
set_option maxRecDepth 100000 in
theorem g_X0_learnPrices_0 (S : sT) (call : cT) (n : Nat) (a0 : Nat) (h : pH) : bd S call dflT E_X0_learnPrices (n + 1) 0 [some (.ref a0)] [] h = (gV h (.ref a0) 3 3 (fun w1 => gI h (.ref a0) 3 7 (fun y2 => dv 4 (gV h (.ref a0) 3 8 (fun w3 => rC h w1 7 (cU (call 181 [w1, .int (y2 / 4), w3] h) (fun h4 => some (.inl none, h4)))))))) := rfl
theorem dX0_priceOf_0 : decode cX0_priceOf 0 = .ok (.iload_n 1, 1) := by decide +kernel
theorem dX0_priceOf_1 : decode cX0_priceOf 1 = .ok (.ifCond .lt 17, 3) := by decide +kernel
theorem dX0_priceOf_4 : decode cX0_priceOf 4 = .ok (.iload_n 1, 1) := by decide +kernel
theorem dX0_priceOf_5 : decode cX0_priceOf 5 = .ok (.iconst 5, 1) := by decide +kernel
theorem dX0_priceOf_6 : decode cX0_priceOf 6 = .ok (.if_icmp .gt 12, 3) := by decide +kernel
theorem dX0_priceOf_9 : decode cX0_priceOf 9 = .ok (.aload_n 0, 1) := by decide +kernel
theorem dX0_priceOf_10 : decode cX0_priceOf 10 = .ok (.getfield 60, 3) := by decide +kernel
theorem dX0_priceOf_13 : decode cX0_priceOf 13 = .ok (.iload_n 1, 1) := by decide +kernel
theorem dX0_priceOf_14 : decode cX0_priceOf 14 = .ok (.iaload, 1) := by decide +kernel
theorem dX0_priceOf_15 : decode cX0_priceOf 15 = .ok (.goto 4, 3) := by decide +kernel
theorem dX0_priceOf_18 : decode cX0_priceOf 18 = .ok (.iconst 0, 1) := by decide +kernel
theorem dX0_priceOf_19 : decode cX0_priceOf 19 = .ok (.ireturn, 1) := by decide +kernel
noncomputable def E_X0_priceOf : mE := (mX0_priceOf, [(19, [(0, (.iload_n 1, 1, false, false, 1, 0, 0, 0, 0, 0, [])), (1, (.ifCond .lt 17, 4, false, false, 18, 0, 0, 0, 0, 0, [])), (4, (.iload_n 1, 5, false, false, 1, 0, 0, 0, 0, 0, [])), (5, (.iconst 5, 6, false, false, 0, 0, 0, 0, 5, 0, [])), (6, (.if_icmp .gt 12, 9, false, false, 18, 0, 0, 0, 0, 0, [])), (9, (.aload_n 0, 10, false, false, 0, 0, 0, 0, 0, 0, [])), (10, (.getfield 60, 13, false, false, 3, 8, 1, 0, 0, 0, [])), (13, (.iload_n 1, 14, false, false, 1, 0, 0, 0, 0, 0, [])), (14, (.iaload, 15, false, false, 0, 0, 0, 0, 0, 0, [])), (15, (.goto 4, 18, false, false, 19, 0, 0, 0, 0, 0, [])), (18, (.iconst 0, 19, false, false, 0, 0, 0, 0, 0, 0, [])), (19, (.ireturn, 20, false, false, 0, 0, 0, 0, 0, 0, []))])], 0, [])
set_option maxRecDepth 100000 in
theorem v_X0_priceOf : VE MYT dflT E_X0_priceOf := ⟨⟨⟨⟨⟨dX0_priceOf_0, rfl⟩, rfl⟩, ⟨⟨dX0_priceOf_1, rfl⟩, rfl⟩, ⟨⟨dX0_priceOf_4, rfl⟩, rfl⟩, ⟨⟨dX0_priceOf_5, rfl⟩, rfl⟩, ⟨⟨dX0_priceOf_6, rfl⟩, rfl⟩, ⟨⟨dX0_priceOf_9, rfl⟩, rfl⟩, ⟨⟨dX0_priceOf_10, rfl⟩, Or.inl ⟨by decide, _, _, fX0_60⟩⟩, ⟨⟨dX0_priceOf_13, rfl⟩, rfl⟩, ⟨⟨dX0_priceOf_14, rfl⟩, trivial⟩, ⟨⟨dX0_priceOf_15, rfl⟩, rfl⟩, ⟨⟨dX0_priceOf_18, rfl⟩, rfl⟩, ⟨⟨dX0_priceOf_19, rfl⟩, Or.inl ⟨rfl, rfl⟩⟩, trivial⟩, trivial⟩, by decide, Or.inl ⟨rfl, by decide, rfl⟩⟩
set_option maxRecDepth 100000 in
theorem g_X0_priceOf_0 (S : sT) (call : cT) (n : Nat) (a0 : Nat) (x1 : Int32) (h : pH) : bd S call dflT E_X0_priceOf (n + 1) 0 [some (.ref a0), some (.int x1)] [] h = ((if x1 < 0 then some (.inl (some (.int 0)), h) else (if 5 < x1 then some (.inl (some (.int 0)), h) else gV h (.ref a0) 3 8 (fun w1 => aI h w1 0 x1 (fun y2 => some (.inl (some (.int y2)), h)))))) := rfl
theorem dX0_learnFacts_0 : decode cX0_learnFacts 0 = .ok (.aload_n 0, 1) := by decide +kernel
theorem dX0_learnFacts_1 : decode cX0_learnFacts 1 = .ok (.getfield 35, 3) := by decide +kernel
theorem dX0_learnFacts_4 : decode cX0_learnFacts 4 = .ok (.aload_n 0, 1) := by decide +kernel
theorem dX0_learnFacts_5 : decode cX0_learnFacts 5 = .ok (.getfield 92, 3) := by decide +kernel
theorem dX0_learnFacts_8 : decode cX0_learnFacts 8 = .ok (.iconst 4, 1) := by decide +kernel
theorem dX0_learnFacts_9 : decode cX0_learnFacts 9 = .ok (.idiv, 1) := by decide +kernel
theorem dX0_learnFacts_10 : decode cX0_learnFacts 10 = .ok (.aload_n 0, 1) := by decide +kernel
theorem dX0_learnFacts_11 : decode cX0_learnFacts 11 = .ok (.getfield 60, 3) := by decide +kernel
theorem dX0_learnFacts_14 : decode cX0_learnFacts 14 = .ok (.invokevirtual 132, 3) := by decide +kernel
theorem dX0_learnFacts_17 : decode cX0_learnFacts 17 = .ok (.aload_n 0, 1) := by decide +kernel
theorem dX0_learnFacts_18 : decode cX0_learnFacts 18 = .ok (.getfield 66, 3) := by decide +kernel
theorem dX0_learnFacts_21 : decode cX0_learnFacts 21 = .ok (.iconst 0, 1) := by decide +kernel
theorem dX0_learnFacts_22 : decode cX0_learnFacts 22 = .ok (.aload_n 0, 1) := by decide +kernel
theorem dX0_learnFacts_23 : decode cX0_learnFacts 23 = .ok (.getfield 92, 3) := by decide +kernel
theorem dX0_learnFacts_26 : decode cX0_learnFacts 26 = .ok (.iconst 4, 1) := by decide +kernel
theorem dX0_learnFacts_27 : decode cX0_learnFacts 27 = .ok (.idiv, 1) := by decide +kernel
theorem dX0_learnFacts_28 : decode cX0_learnFacts 28 = .ok (.i2l, 1) := by decide +kernel
theorem dX0_learnFacts_29 : decode cX0_learnFacts 29 = .ok (.lastore, 1) := by decide +kernel
theorem dX0_learnFacts_30 : decode cX0_learnFacts 30 = .ok (.iconst 1, 1) := by decide +kernel
theorem dX0_learnFacts_31 : decode cX0_learnFacts 31 = .ok (.istore_n 3, 1) := by decide +kernel
theorem dX0_learnFacts_32 : decode cX0_learnFacts 32 = .ok (.iload_n 3, 1) := by decide +kernel
theorem dX0_learnFacts_33 : decode cX0_learnFacts 33 = .ok (.iconst 5, 1) := by decide +kernel
theorem dX0_learnFacts_34 : decode cX0_learnFacts 34 = .ok (.if_icmp .ge 22, 3) := by decide +kernel
theorem dX0_learnFacts_37 : decode cX0_learnFacts 37 = .ok (.aload_n 0, 1) := by decide +kernel
theorem dX0_learnFacts_38 : decode cX0_learnFacts 38 = .ok (.getfield 66, 3) := by decide +kernel
theorem dX0_learnFacts_41 : decode cX0_learnFacts 41 = .ok (.iload_n 3, 1) := by decide +kernel
theorem dX0_learnFacts_42 : decode cX0_learnFacts 42 = .ok (.aload_n 0, 1) := by decide +kernel
theorem dX0_learnFacts_43 : decode cX0_learnFacts 43 = .ok (.getfield 60, 3) := by decide +kernel
theorem dX0_learnFacts_46 : decode cX0_learnFacts 46 = .ok (.iload_n 3, 1) := by decide +kernel
theorem dX0_learnFacts_47 : decode cX0_learnFacts 47 = .ok (.iaload, 1) := by decide +kernel
theorem dX0_learnFacts_48 : decode cX0_learnFacts 48 = .ok (.i2l, 1) := by decide +kernel
theorem dX0_learnFacts_49 : decode cX0_learnFacts 49 = .ok (.lastore, 1) := by decide +kernel
theorem dX0_learnFacts_50 : decode cX0_learnFacts 50 = .ok (.iinc 3 1, 3) := by decide +kernel
theorem dX0_learnFacts_53 : decode cX0_learnFacts 53 = .ok (.goto (-21), 3) := by decide +kernel
theorem dX0_learnFacts_56 : decode cX0_learnFacts 56 = .ok (.iconst 5, 1) := by decide +kernel
theorem dX0_learnFacts_57 : decode cX0_learnFacts 57 = .ok (.istore_n 3, 1) := by decide +kernel
theorem dX0_learnFacts_58 : decode cX0_learnFacts 58 = .ok (.iload_n 3, 1) := by decide +kernel
theorem dX0_learnFacts_59 : decode cX0_learnFacts 59 = .ok (.bipush 8, 2) := by decide +kernel
theorem dX0_learnFacts_61 : decode cX0_learnFacts 61 = .ok (.if_icmp .gt 16, 3) := by decide +kernel
theorem dX0_learnFacts_64 : decode cX0_learnFacts 64 = .ok (.aload_n 0, 1) := by decide +kernel
theorem dX0_learnFacts_65 : decode cX0_learnFacts 65 = .ok (.getfield 66, 3) := by decide +kernel
theorem dX0_learnFacts_68 : decode cX0_learnFacts 68 = .ok (.iload_n 3, 1) := by decide +kernel
theorem dX0_learnFacts_69 : decode cX0_learnFacts 69 = .ok (.lconst 0, 1) := by decide +kernel
theorem dX0_learnFacts_70 : decode cX0_learnFacts 70 = .ok (.lastore, 1) := by decide +kernel
theorem dX0_learnFacts_71 : decode cX0_learnFacts 71 = .ok (.iinc 3 1, 3) := by decide +kernel
theorem dX0_learnFacts_74 : decode cX0_learnFacts 74 = .ok (.goto (-16), 3) := by decide +kernel
theorem dX0_learnFacts_77 : decode cX0_learnFacts 77 = .ok (.aload_n 0, 1) := by decide +kernel
theorem dX0_learnFacts_78 : decode cX0_learnFacts 78 = .ok (.getfield 66, 3) := by decide +kernel
theorem dX0_learnFacts_81 : decode cX0_learnFacts 81 = .ok (.bipush 9, 2) := by decide +kernel
theorem dX0_learnFacts_83 : decode cX0_learnFacts 83 = .ok (.iload_n 1, 1) := by decide +kernel
theorem dX0_learnFacts_84 : decode cX0_learnFacts 84 = .ok (.i2l, 1) := by decide +kernel
theorem dX0_learnFacts_85 : decode cX0_learnFacts 85 = .ok (.lastore, 1) := by decide +kernel
theorem dX0_learnFacts_86 : decode cX0_learnFacts 86 = .ok (.aload_n 0, 1) := by decide +kernel
theorem dX0_learnFacts_87 : decode cX0_learnFacts 87 = .ok (.getfield 66, 3) := by decide +kernel
theorem dX0_learnFacts_90 : decode cX0_learnFacts 90 = .ok (.bipush 10, 2) := by decide +kernel
theorem dX0_learnFacts_92 : decode cX0_learnFacts 92 = .ok (.iload_n 2, 1) := by decide +kernel
theorem dX0_learnFacts_93 : decode cX0_learnFacts 93 = .ok (.i2l, 1) := by decide +kernel
theorem dX0_learnFacts_94 : decode cX0_learnFacts 94 = .ok (.lastore, 1) := by decide +kernel
theorem dX0_learnFacts_95 : decode cX0_learnFacts 95 = .ok (.return_, 1) := by decide +kernel
noncomputable def E_X0_learnFacts : mE := (mX0_learnFacts, [(37, [(0, (.aload_n 0, 1, false, false, 0, 0, 0, 0, 0, 0, [])), (1, (.getfield 35, 4, false, false, 3, 3, 1, 0, 0, 0, [])), (4, (.aload_n 0, 5, false, false, 0, 0, 0, 0, 0, 0, [])), (5, (.getfield 92, 8, false, false, 3, 7, 0, 0, 0, 0, [])), (8, (.iconst 4, 9, false, false, 0, 0, 0, 0, 4, 0, [])), (9, (.idiv, 10, false, false, 0, 0, 0, 0, 0, 0, [])), (10, (.aload_n 0, 11, false, false, 0, 0, 0, 0, 0, 0, [])), (11, (.getfield 60, 14, false, false, 3, 8, 1, 0, 0, 0, [])), (14, (.invokevirtual 132, 17, false, false, 181, 2, 0, 7, 0, 0, [])), (17, (.aload_n 0, 18, false, false, 0, 0, 0, 0, 0, 0, [])), (18, (.getfield 66, 21, false, false, 3, 9, 1, 0, 0, 0, [])), (21, (.iconst 0, 22, false, false, 0, 0, 0, 0, 0, 0, [])), (22, (.aload_n 0, 23, false, false, 0, 0, 0, 0, 0, 0, [])), (23, (.getfield 92, 26, false, false, 3, 7, 0, 0, 0, 0, [])), (26, (.iconst 4, 27, false, false, 0, 0, 0, 0, 4, 0, [])), (27, (.idiv, 28, false, false, 0, 0, 0, 0, 0, 0, [])), (28, (.i2l, 29, false, false, 0, 0, 0, 0, 0, 0, [])), (29, (.lastore, 30, false, false, 0, 0, 0, 0, 0, 0, [])), (30, (.iconst 1, 31, false, false, 0, 0, 0, 0, 1, 0, [])), (31, (.istore_n 3, 32, true, false, 3, 0, 0, 0, 0, 0, [])), (32, (.iload_n 3, 33, false, false, 3, 0, 0, 0, 0, 0, [])), (33, (.iconst 5, 34, false, false, 0, 0, 0, 0, 5, 0, [])), (34, (.if_icmp .ge 22, 37, false, false, 56, 0, 0, 0, 0, 0, [])), (37, (.aload_n 0, 38, false, false, 0, 0, 0, 0, 0, 0, []))]),
  (78, [(38, (.getfield 66, 41, false, false, 3, 9, 1, 0, 0, 0, [])), (41, (.iload_n 3, 42, false, false, 3, 0, 0, 0, 0, 0, [])), (42, (.aload_n 0, 43, false, false, 0, 0, 0, 0, 0, 0, [])), (43, (.getfield 60, 46, false, false, 3, 8, 1, 0, 0, 0, [])), (46, (.iload_n 3, 47, false, false, 3, 0, 0, 0, 0, 0, [])), (47, (.iaload, 48, false, false, 0, 0, 0, 0, 0, 0, [])), (48, (.i2l, 49, false, false, 0, 0, 0, 0, 0, 0, [])), (49, (.lastore, 50, false, false, 0, 0, 0, 0, 0, 0, [])), (50, (.iinc 3 1, 53, false, false, 3, 0, 0, 0, 1, 0, [])), (53, (.goto (-21), 56, false, true, 32, 0, 0, 0, 0, 0, [])), (56, (.iconst 5, 57, false, false, 0, 0, 0, 0, 5, 0, [])), (57, (.istore_n 3, 58, true, false, 3, 0, 0, 0, 0, 0, [])), (58, (.iload_n 3, 59, false, false, 3, 0, 0, 0, 0, 0, [])), (59, (.bipush 8, 61, false, false, 0, 0, 0, 0, 8, 0, [])), (61, (.if_icmp .gt 16, 64, false, false, 77, 0, 0, 0, 0, 0, [])), (64, (.aload_n 0, 65, false, false, 0, 0, 0, 0, 0, 0, [])), (65, (.getfield 66, 68, false, false, 3, 9, 1, 0, 0, 0, [])), (68, (.iload_n 3, 69, false, false, 3, 0, 0, 0, 0, 0, [])), (69, (.lconst 0, 70, false, false, 0, 0, 0, 0, 0, 0, [])), (70, (.lastore, 71, false, false, 0, 0, 0, 0, 0, 0, [])), (71, (.iinc 3 1, 74, false, false, 3, 0, 0, 0, 1, 0, [])), (74, (.goto (-16), 77, false, true, 58, 0, 0, 0, 0, 0, [])), (77, (.aload_n 0, 78, false, false, 0, 0, 0, 0, 0, 0, [])), (78, (.getfield 66, 81, false, false, 3, 9, 1, 0, 0, 0, []))]),
  (95, [(81, (.bipush 9, 83, false, false, 0, 0, 0, 0, 9, 0, [])), (83, (.iload_n 1, 84, false, false, 1, 0, 0, 0, 0, 0, [])), (84, (.i2l, 85, false, false, 0, 0, 0, 0, 0, 0, [])), (85, (.lastore, 86, false, false, 0, 0, 0, 0, 0, 0, [])), (86, (.aload_n 0, 87, false, false, 0, 0, 0, 0, 0, 0, [])), (87, (.getfield 66, 90, false, false, 3, 9, 1, 0, 0, 0, [])), (90, (.bipush 10, 92, false, false, 0, 0, 0, 0, 10, 0, [])), (92, (.iload_n 2, 93, false, false, 2, 0, 0, 0, 0, 0, [])), (93, (.i2l, 94, false, false, 0, 0, 0, 0, 0, 0, [])), (94, (.lastore, 95, false, false, 0, 0, 0, 0, 0, 0, [])), (95, (.return_, 96, false, false, 0, 0, 0, 0, 0, 0, []))])], 0, [])
set_option maxRecDepth 100000 in
theorem v_X0_learnFacts : VE MYT dflT E_X0_learnFacts := ⟨⟨⟨⟨⟨dX0_learnFacts_0, rfl⟩, rfl⟩, ⟨⟨dX0_learnFacts_1, rfl⟩, Or.inl ⟨by decide, _, _, fX0_35⟩⟩, ⟨⟨dX0_learnFacts_4, rfl⟩, rfl⟩, ⟨⟨dX0_learnFacts_5, rfl⟩, Or.inl ⟨by decide, _, _, fX0_92⟩⟩, ⟨⟨dX0_learnFacts_8, rfl⟩, rfl⟩, ⟨⟨dX0_learnFacts_9, rfl⟩, trivial⟩, ⟨⟨dX0_learnFacts_10, rfl⟩, rfl⟩, ⟨⟨dX0_learnFacts_11, rfl⟩, Or.inl ⟨by decide, _, _, fX0_60⟩⟩, ⟨⟨dX0_learnFacts_14, rfl⟩, Or.inr ⟨by decide, ⟨_, my_181, sX0_132⟩, fun q => absurd q (by decide)⟩⟩, ⟨⟨dX0_learnFacts_17, rfl⟩, rfl⟩, ⟨⟨dX0_learnFacts_18, rfl⟩, Or.inl ⟨by decide, _, _, fX0_66⟩⟩, ⟨⟨dX0_learnFacts_21, rfl⟩, rfl⟩, ⟨⟨dX0_learnFacts_22, rfl⟩, rfl⟩, ⟨⟨dX0_learnFacts_23, rfl⟩, Or.inl ⟨by decide, _, _, fX0_92⟩⟩, ⟨⟨dX0_learnFacts_26, rfl⟩, rfl⟩, ⟨⟨dX0_learnFacts_27, rfl⟩, trivial⟩, ⟨⟨dX0_learnFacts_28, rfl⟩, trivial⟩, ⟨⟨dX0_learnFacts_29, rfl⟩, trivial⟩, ⟨⟨dX0_learnFacts_30, rfl⟩, rfl⟩, ⟨⟨dX0_learnFacts_31, rfl⟩, rfl⟩, ⟨⟨dX0_learnFacts_32, rfl⟩, rfl⟩, ⟨⟨dX0_learnFacts_33, rfl⟩, rfl⟩, ⟨⟨dX0_learnFacts_34, rfl⟩, rfl⟩, ⟨⟨dX0_learnFacts_37, rfl⟩, rfl⟩, trivial⟩,
  ⟨⟨⟨dX0_learnFacts_38, rfl⟩, Or.inl ⟨by decide, _, _, fX0_66⟩⟩, ⟨⟨dX0_learnFacts_41, rfl⟩, rfl⟩, ⟨⟨dX0_learnFacts_42, rfl⟩, rfl⟩, ⟨⟨dX0_learnFacts_43, rfl⟩, Or.inl ⟨by decide, _, _, fX0_60⟩⟩, ⟨⟨dX0_learnFacts_46, rfl⟩, rfl⟩, ⟨⟨dX0_learnFacts_47, rfl⟩, trivial⟩, ⟨⟨dX0_learnFacts_48, rfl⟩, trivial⟩, ⟨⟨dX0_learnFacts_49, rfl⟩, trivial⟩, ⟨⟨dX0_learnFacts_50, rfl⟩, ⟨rfl, rfl⟩⟩, ⟨⟨dX0_learnFacts_53, rfl⟩, rfl⟩, ⟨⟨dX0_learnFacts_56, rfl⟩, rfl⟩, ⟨⟨dX0_learnFacts_57, rfl⟩, rfl⟩, ⟨⟨dX0_learnFacts_58, rfl⟩, rfl⟩, ⟨⟨dX0_learnFacts_59, rfl⟩, rfl⟩, ⟨⟨dX0_learnFacts_61, rfl⟩, rfl⟩, ⟨⟨dX0_learnFacts_64, rfl⟩, rfl⟩, ⟨⟨dX0_learnFacts_65, rfl⟩, Or.inl ⟨by decide, _, _, fX0_66⟩⟩, ⟨⟨dX0_learnFacts_68, rfl⟩, rfl⟩, ⟨⟨dX0_learnFacts_69, rfl⟩, rfl⟩, ⟨⟨dX0_learnFacts_70, rfl⟩, trivial⟩, ⟨⟨dX0_learnFacts_71, rfl⟩, ⟨rfl, rfl⟩⟩, ⟨⟨dX0_learnFacts_74, rfl⟩, rfl⟩, ⟨⟨dX0_learnFacts_77, rfl⟩, rfl⟩, ⟨⟨dX0_learnFacts_78, rfl⟩, Or.inl ⟨by decide, _, _, fX0_66⟩⟩, trivial⟩,
  ⟨⟨⟨dX0_learnFacts_81, rfl⟩, rfl⟩, ⟨⟨dX0_learnFacts_83, rfl⟩, rfl⟩, ⟨⟨dX0_learnFacts_84, rfl⟩, trivial⟩, ⟨⟨dX0_learnFacts_85, rfl⟩, trivial⟩, ⟨⟨dX0_learnFacts_86, rfl⟩, rfl⟩, ⟨⟨dX0_learnFacts_87, rfl⟩, Or.inl ⟨by decide, _, _, fX0_66⟩⟩, ⟨⟨dX0_learnFacts_90, rfl⟩, rfl⟩, ⟨⟨dX0_learnFacts_92, rfl⟩, rfl⟩, ⟨⟨dX0_learnFacts_93, rfl⟩, trivial⟩, ⟨⟨dX0_learnFacts_94, rfl⟩, trivial⟩, ⟨⟨dX0_learnFacts_95, rfl⟩, rfl⟩, trivial⟩, trivial⟩, by decide, Or.inl ⟨rfl, by decide, rfl⟩⟩
set_option maxRecDepth 100000 in
theorem g_X0_learnFacts_0 (S : sT) (call : cT) (n : Nat) (a0 : Nat) (x1 : Int32) (x2 : Int32) (h : pH) : bd S call dflT E_X0_learnFacts (n + 1) 0 [some (.ref a0), some (.int x1), some (.int x2), none] [] h = (gV h (.ref a0) 3 3 (fun w1 => gI h (.ref a0) 3 7 (fun y2 => dv 4 (gV h (.ref a0) 3 8 (fun w3 => rC h w1 7 (cU (call 181 [w1, .int (y2 / 4), w3] h) (fun h4 => gV h4 (.ref a0) 3 9 (fun w5 => gI h4 (.ref a0) 3 7 (fun y6 => dv 4 (sJ h4 w5 0 (y6 / 4).toInt64 (fun h7 => bd S call dflT E_X0_learnFacts n 32 [some (.ref a0), some (.int x1), some (.int x2), some (.int 1)] [] h7))))))))))) := rfl
set_option maxRecDepth 100000 in
theorem g_X0_learnFacts_32 (S : sT) (call : cT) (n : Nat) (a0 : Nat) (x1 : Int32) (x2 : Int32) (x3 : Int32) (h : pH) : bd S call dflT E_X0_learnFacts (n + 1) 32 [some (.ref a0), some (.int x1), some (.int x2), some (.int x3)] [] h = ((if 5 ≤ x3 then bd S call dflT E_X0_learnFacts n 58 [some (.ref a0), some (.int x1), some (.int x2), some (.int 5)] [] h else gV h (.ref a0) 3 9 (fun w1 => gV h (.ref a0) 3 8 (fun w2 => aI h w2 0 x3 (fun y3 => sJ h w1 x3 y3.toInt64 (fun h4 => bd S call dflT E_X0_learnFacts n 32 [some (.ref a0), some (.int x1), some (.int x2), some (.int (x3 + 1))] [] h4)))))) := rfl
set_option maxRecDepth 100000 in
theorem g_X0_learnFacts_58 (S : sT) (call : cT) (n : Nat) (a0 : Nat) (x1 : Int32) (x2 : Int32) (x3 : Int32) (h : pH) : bd S call dflT E_X0_learnFacts (n + 1) 58 [some (.ref a0), some (.int x1), some (.int x2), some (.int x3)] [] h = ((if 8 < x3 then gV h (.ref a0) 3 9 (fun w1 => sJ h w1 9 x1.toInt64 (fun h2 => gV h2 (.ref a0) 3 9 (fun w3 => sJ h2 w3 10 x2.toInt64 (fun h4 => some (.inl none, h4))))) else gV h (.ref a0) 3 9 (fun w5 => sJ h w5 x3 0 (fun h6 => bd S call dflT E_X0_learnFacts n 58 [some (.ref a0), some (.int x1), some (.int x2), some (.int (x3 + 1))] [] h6)))) := rfl
theorem dX0_learnFactsOfTenant_0 : decode cX0_learnFactsOfTenant 0 = .ok (.aload_n 0, 1) := by decide +kernel
theorem dX0_learnFactsOfTenant_1 : decode cX0_learnFactsOfTenant 1 = .ok (.aload_n 0, 1) := by decide +kernel
theorem dX0_learnFactsOfTenant_2 : decode cX0_learnFactsOfTenant 2 = .ok (.getfield 28, 3) := by decide +kernel
theorem dX0_learnFactsOfTenant_5 : decode cX0_learnFactsOfTenant 5 = .ok (.iconst 2, 1) := by decide +kernel
theorem dX0_learnFactsOfTenant_6 : decode cX0_learnFactsOfTenant 6 = .ok (.iload_n 1, 1) := by decide +kernel
theorem dX0_learnFactsOfTenant_7 : decode cX0_learnFactsOfTenant 7 = .ok (.invokevirtual 100, 3) := by decide +kernel
theorem dX0_learnFactsOfTenant_10 : decode cX0_learnFactsOfTenant 10 = .ok (.aload_n 0, 1) := by decide +kernel
theorem dX0_learnFactsOfTenant_11 : decode cX0_learnFactsOfTenant 11 = .ok (.getfield 28, 3) := by decide +kernel
theorem dX0_learnFactsOfTenant_14 : decode cX0_learnFactsOfTenant 14 = .ok (.iconst 3, 1) := by decide +kernel
theorem dX0_learnFactsOfTenant_15 : decode cX0_learnFactsOfTenant 15 = .ok (.iload_n 1, 1) := by decide +kernel
theorem dX0_learnFactsOfTenant_16 : decode cX0_learnFactsOfTenant 16 = .ok (.invokevirtual 100, 3) := by decide +kernel
theorem dX0_learnFactsOfTenant_19 : decode cX0_learnFactsOfTenant 19 = .ok (.invokevirtual 139, 3) := by decide +kernel
theorem dX0_learnFactsOfTenant_22 : decode cX0_learnFactsOfTenant 22 = .ok (.return_, 1) := by decide +kernel
noncomputable def E_X0_learnFactsOfTenant : mE := (mX0_learnFactsOfTenant, [(22, [(0, (.aload_n 0, 1, false, false, 0, 0, 0, 0, 0, 0, [])), (1, (.aload_n 0, 2, false, false, 0, 0, 0, 0, 0, 0, [])), (2, (.getfield 28, 5, false, false, 3, 2, 1, 0, 0, 0, [])), (5, (.iconst 2, 6, false, false, 0, 0, 0, 0, 2, 0, [])), (6, (.iload_n 1, 7, false, false, 1, 0, 0, 0, 0, 0, [])), (7, (.invokevirtual 100, 10, false, false, 102, 2, 1, 4, 0, 0, [])), (10, (.aload_n 0, 11, false, false, 0, 0, 0, 0, 0, 0, [])), (11, (.getfield 28, 14, false, false, 3, 2, 1, 0, 0, 0, [])), (14, (.iconst 3, 15, false, false, 0, 0, 0, 0, 3, 0, [])), (15, (.iload_n 1, 16, false, false, 1, 0, 0, 0, 0, 0, [])), (16, (.invokevirtual 100, 19, false, false, 102, 2, 1, 4, 0, 0, [])), (19, (.invokevirtual 139, 22, false, false, 196, 2, 0, 3, 0, 0, [])), (22, (.return_, 23, false, false, 0, 0, 0, 0, 0, 0, []))])], 0, [])
set_option maxRecDepth 100000 in
theorem v_X0_learnFactsOfTenant : VE MYT dflT E_X0_learnFactsOfTenant := ⟨⟨⟨⟨⟨dX0_learnFactsOfTenant_0, rfl⟩, rfl⟩, ⟨⟨dX0_learnFactsOfTenant_1, rfl⟩, rfl⟩, ⟨⟨dX0_learnFactsOfTenant_2, rfl⟩, Or.inl ⟨by decide, _, _, fX0_28⟩⟩, ⟨⟨dX0_learnFactsOfTenant_5, rfl⟩, rfl⟩, ⟨⟨dX0_learnFactsOfTenant_6, rfl⟩, rfl⟩, ⟨⟨dX0_learnFactsOfTenant_7, rfl⟩, Or.inr ⟨by decide, ⟨_, my_102, sX0_100⟩, fun q => absurd q (by decide)⟩⟩, ⟨⟨dX0_learnFactsOfTenant_10, rfl⟩, rfl⟩, ⟨⟨dX0_learnFactsOfTenant_11, rfl⟩, Or.inl ⟨by decide, _, _, fX0_28⟩⟩, ⟨⟨dX0_learnFactsOfTenant_14, rfl⟩, rfl⟩, ⟨⟨dX0_learnFactsOfTenant_15, rfl⟩, rfl⟩, ⟨⟨dX0_learnFactsOfTenant_16, rfl⟩, Or.inr ⟨by decide, ⟨_, my_102, sX0_100⟩, fun q => absurd q (by decide)⟩⟩, ⟨⟨dX0_learnFactsOfTenant_19, rfl⟩, Or.inr ⟨by decide, ⟨_, my_196, sX0_139⟩, fun q => absurd q (by decide)⟩⟩, ⟨⟨dX0_learnFactsOfTenant_22, rfl⟩, rfl⟩, trivial⟩, trivial⟩, by decide, Or.inl ⟨rfl, by decide, rfl⟩⟩
set_option maxRecDepth 100000 in
theorem g_X0_learnFactsOfTenant_0 (S : sT) (call : cT) (n : Nat) (a0 : Nat) (x1 : Int32) (h : pH) : bd S call dflT E_X0_learnFactsOfTenant (n + 1) 0 [some (.ref a0), some (.int x1)] [] h = (gV h (.ref a0) 3 2 (fun w1 => rC h w1 4 (cI (call 102 [w1, .int 2, .int x1] h) (fun y3 h2 => gV h2 (.ref a0) 3 2 (fun w4 => rC h2 w4 4 (cI (call 102 [w4, .int 3, .int x1] h2) (fun y6 h5 => rC h5 (.ref a0) 3 (cU (call 196 [.ref a0, .int y3, .int y6] h5) (fun h7 => some (.inl none, h7)))))))))) := rfl
theorem dX0_rentOf_0 : decode cX0_rentOf 0 = .ok (.aload_n 0, 1) := by decide +kernel
theorem dX0_rentOf_1 : decode cX0_rentOf 1 = .ok (.iload_n 1, 1) := by decide +kernel
theorem dX0_rentOf_2 : decode cX0_rentOf 2 = .ok (.invokevirtual 180, 3) := by decide +kernel
theorem dX0_rentOf_5 : decode cX0_rentOf 5 = .ok (.aload_n 0, 1) := by decide +kernel
theorem dX0_rentOf_6 : decode cX0_rentOf 6 = .ok (.getfield 28, 3) := by decide +kernel
theorem dX0_rentOf_9 : decode cX0_rentOf 9 = .ok (.iload_n 1, 1) := by decide +kernel
theorem dX0_rentOf_10 : decode cX0_rentOf 10 = .ok (.invokevirtual 183, 3) := by decide +kernel
theorem dX0_rentOf_13 : decode cX0_rentOf 13 = .ok (.astore_n 2, 1) := by decide +kernel
theorem dX0_rentOf_14 : decode cX0_rentOf 14 = .ok (.aload_n 2, 1) := by decide +kernel
theorem dX0_rentOf_15 : decode cX0_rentOf 15 = .ok (.bipush 24, 2) := by decide +kernel
theorem dX0_rentOf_17 : decode cX0_rentOf 17 = .ok (.aload_n 0, 1) := by decide +kernel
theorem dX0_rentOf_18 : decode cX0_rentOf 18 = .ok (.getfield 66, 3) := by decide +kernel
theorem dX0_rentOf_21 : decode cX0_rentOf 21 = .ok (.invokevirtual 187, 3) := by decide +kernel
theorem dX0_rentOf_24 : decode cX0_rentOf 24 = .ok (.i2l, 1) := by decide +kernel
theorem dX0_rentOf_25 : decode cX0_rentOf 25 = .ok (.lstore_n 3, 1) := by decide +kernel
theorem dX0_rentOf_26 : decode cX0_rentOf 26 = .ok (.iconst 0, 1) := by decide +kernel
theorem dX0_rentOf_27 : decode cX0_rentOf 27 = .ok (.istore 5, 2) := by decide +kernel
theorem dX0_rentOf_29 : decode cX0_rentOf 29 = .ok (.iload 5, 2) := by decide +kernel
theorem dX0_rentOf_31 : decode cX0_rentOf 31 = .ok (.aload_n 2, 1) := by decide +kernel
theorem dX0_rentOf_32 : decode cX0_rentOf 32 = .ok (.getfield 190, 3) := by decide +kernel
theorem dX0_rentOf_35 : decode cX0_rentOf 35 = .ok (.if_icmp .ge 45, 3) := by decide +kernel
theorem dX0_rentOf_38 : decode cX0_rentOf 38 = .ok (.aload_n 2, 1) := by decide +kernel
theorem dX0_rentOf_39 : decode cX0_rentOf 39 = .ok (.iconst 0, 1) := by decide +kernel
theorem dX0_rentOf_40 : decode cX0_rentOf 40 = .ok (.iload 5, 2) := by decide +kernel
theorem dX0_rentOf_42 : decode cX0_rentOf 42 = .ok (.invokevirtual 193, 3) := by decide +kernel
theorem dX0_rentOf_45 : decode cX0_rentOf 45 = .ok (.bipush 25, 2) := by decide +kernel
theorem dX0_rentOf_47 : decode cX0_rentOf 47 = .ok (.if_icmp .ne 27, 3) := by decide +kernel
theorem dX0_rentOf_50 : decode cX0_rentOf 50 = .ok (.lload_n 3, 1) := by decide +kernel
theorem dX0_rentOf_51 : decode cX0_rentOf 51 = .ok (.aload_n 2, 1) := by decide +kernel
theorem dX0_rentOf_52 : decode cX0_rentOf 52 = .ok (.iconst 1, 1) := by decide +kernel
theorem dX0_rentOf_53 : decode cX0_rentOf 53 = .ok (.iload 5, 2) := by decide +kernel
theorem dX0_rentOf_55 : decode cX0_rentOf 55 = .ok (.invokevirtual 193, 3) := by decide +kernel
theorem dX0_rentOf_58 : decode cX0_rentOf 58 = .ok (.i2l, 1) := by decide +kernel
theorem dX0_rentOf_59 : decode cX0_rentOf 59 = .ok (.aload_n 0, 1) := by decide +kernel
theorem dX0_rentOf_60 : decode cX0_rentOf 60 = .ok (.aload_n 2, 1) := by decide +kernel
theorem dX0_rentOf_61 : decode cX0_rentOf 61 = .ok (.iconst 2, 1) := by decide +kernel
theorem dX0_rentOf_62 : decode cX0_rentOf 62 = .ok (.iload 5, 2) := by decide +kernel
theorem dX0_rentOf_64 : decode cX0_rentOf 64 = .ok (.invokevirtual 193, 3) := by decide +kernel
theorem dX0_rentOf_67 : decode cX0_rentOf 67 = .ok (.invokevirtual 194, 3) := by decide +kernel
theorem dX0_rentOf_70 : decode cX0_rentOf 70 = .ok (.i2l, 1) := by decide +kernel
theorem dX0_rentOf_71 : decode cX0_rentOf 71 = .ok (.lmul, 1) := by decide +kernel
theorem dX0_rentOf_72 : decode cX0_rentOf 72 = .ok (.ladd, 1) := by decide +kernel
theorem dX0_rentOf_73 : decode cX0_rentOf 73 = .ok (.lstore_n 3, 1) := by decide +kernel
theorem dX0_rentOf_74 : decode cX0_rentOf 74 = .ok (.iinc 5 1, 3) := by decide +kernel
theorem dX0_rentOf_77 : decode cX0_rentOf 77 = .ok (.goto (-48), 3) := by decide +kernel
theorem dX0_rentOf_80 : decode cX0_rentOf 80 = .ok (.lload_n 3, 1) := by decide +kernel
theorem dX0_rentOf_81 : decode cX0_rentOf 81 = .ok (.invokestatic 197, 3) := by decide +kernel
theorem dX0_rentOf_84 : decode cX0_rentOf 84 = .ok (.ireturn, 1) := by decide +kernel
noncomputable def E_X0_rentOf : mE := (mX0_rentOf, [(40, [(0, (.aload_n 0, 1, false, false, 0, 0, 0, 0, 0, 0, [])), (1, (.iload_n 1, 2, false, false, 1, 0, 0, 0, 0, 0, [])), (2, (.invokevirtual 180, 5, false, false, 197, 1, 0, 3, 0, 0, [])), (5, (.aload_n 0, 6, false, false, 0, 0, 0, 0, 0, 0, [])), (6, (.getfield 28, 9, false, false, 3, 2, 1, 0, 0, 0, [])), (9, (.iload_n 1, 10, false, false, 1, 0, 0, 0, 0, 0, [])), (10, (.invokevirtual 183, 13, false, false, 183, 1, 3, 4, 0, 0, [])), (13, (.astore_n 2, 14, false, false, 2, 0, 0, 0, 0, 0, [])), (14, (.aload_n 2, 15, false, false, 2, 0, 0, 0, 0, 0, [])), (15, (.bipush 24, 17, false, false, 0, 0, 0, 0, 24, 0, [])), (17, (.aload_n 0, 18, false, false, 0, 0, 0, 0, 0, 0, [])), (18, (.getfield 66, 21, false, false, 3, 9, 1, 0, 0, 0, [])), (21, (.invokevirtual 187, 24, false, false, 200, 2, 1, 11, 0, 0, [])), (24, (.i2l, 25, false, false, 0, 0, 0, 0, 0, 0, [])), (25, (.lstore_n 3, 26, false, false, 3, 4, 0, 0, 0, 0, [])), (26, (.iconst 0, 27, false, false, 0, 0, 0, 0, 0, 0, [])), (27, (.istore 5, 29, true, false, 5, 0, 0, 0, 0, 0, [])), (29, (.iload 5, 31, false, false, 5, 0, 0, 0, 0, 0, [])), (31, (.aload_n 2, 32, false, false, 2, 0, 0, 0, 0, 0, [])), (32, (.getfield 190, 35, false, false, 11, 0, 0, 0, 0, 0, [])), (35, (.if_icmp .ge 45, 38, false, false, 80, 0, 0, 0, 0, 0, [])), (38, (.aload_n 2, 39, false, false, 2, 0, 0, 0, 0, 0, [])), (39, (.iconst 0, 40, false, false, 0, 0, 0, 0, 0, 0, [])), (40, (.iload 5, 42, false, false, 5, 0, 0, 0, 0, 0, []))]),
  (84, [(42, (.invokevirtual 193, 45, false, false, 88, 2, 1, 11, 0, 0, [])), (45, (.bipush 25, 47, false, false, 0, 0, 0, 0, 25, 0, [])), (47, (.if_icmp .ne 27, 50, false, false, 74, 0, 0, 0, 0, 0, [])), (50, (.lload_n 3, 51, false, false, 3, 0, 0, 0, 0, 0, [])), (51, (.aload_n 2, 52, false, false, 2, 0, 0, 0, 0, 0, [])), (52, (.iconst 1, 53, false, false, 0, 0, 0, 0, 1, 0, [])), (53, (.iload 5, 55, false, false, 5, 0, 0, 0, 0, 0, [])), (55, (.invokevirtual 193, 58, false, false, 88, 2, 1, 11, 0, 0, [])), (58, (.i2l, 59, false, false, 0, 0, 0, 0, 0, 0, [])), (59, (.aload_n 0, 60, false, false, 0, 0, 0, 0, 0, 0, [])), (60, (.aload_n 2, 61, false, false, 2, 0, 0, 0, 0, 0, [])), (61, (.iconst 2, 62, false, false, 0, 0, 0, 0, 2, 0, [])), (62, (.iload 5, 64, false, false, 5, 0, 0, 0, 0, 0, [])), (64, (.invokevirtual 193, 67, false, false, 88, 2, 1, 11, 0, 0, [])), (67, (.invokevirtual 194, 70, false, false, 184, 1, 1, 3, 0, 0, [])), (70, (.i2l, 71, false, false, 0, 0, 0, 0, 0, 0, [])), (71, (.lmul, 72, false, false, 0, 0, 0, 0, 0, 0, [])), (72, (.ladd, 73, false, false, 0, 0, 0, 0, 0, 0, [])), (73, (.lstore_n 3, 74, false, false, 3, 4, 0, 0, 0, 0, [])), (74, (.iinc 5 1, 77, false, false, 5, 0, 0, 0, 1, 0, [])), (77, (.goto (-48), 80, false, true, 29, 0, 0, 0, 0, 0, [])), (80, (.lload_n 3, 81, false, false, 3, 0, 0, 0, 0, 0, [])), (81, (.invokestatic 197, 84, false, false, 103, 1, 1, 1, 0, 0, [])), (84, (.ireturn, 85, false, false, 0, 0, 0, 0, 0, 0, []))])], 0, [])
set_option maxRecDepth 100000 in
theorem v_X0_rentOf : VE MYT dflT E_X0_rentOf := ⟨⟨⟨⟨⟨dX0_rentOf_0, rfl⟩, rfl⟩, ⟨⟨dX0_rentOf_1, rfl⟩, rfl⟩, ⟨⟨dX0_rentOf_2, rfl⟩, Or.inr ⟨by decide, ⟨_, my_197, sX0_180⟩, fun q => absurd q (by decide)⟩⟩, ⟨⟨dX0_rentOf_5, rfl⟩, rfl⟩, ⟨⟨dX0_rentOf_6, rfl⟩, Or.inl ⟨by decide, _, _, fX0_28⟩⟩, ⟨⟨dX0_rentOf_9, rfl⟩, rfl⟩, ⟨⟨dX0_rentOf_10, rfl⟩, Or.inr ⟨by decide, ⟨_, my_183, sX0_183⟩, fun q => absurd q (by decide)⟩⟩, ⟨⟨dX0_rentOf_13, rfl⟩, rfl⟩, ⟨⟨dX0_rentOf_14, rfl⟩, rfl⟩, ⟨⟨dX0_rentOf_15, rfl⟩, rfl⟩, ⟨⟨dX0_rentOf_17, rfl⟩, rfl⟩, ⟨⟨dX0_rentOf_18, rfl⟩, Or.inl ⟨by decide, _, _, fX0_66⟩⟩, ⟨⟨dX0_rentOf_21, rfl⟩, Or.inr ⟨by decide, ⟨_, my_200, sX0_187⟩, fun q => absurd q (by decide)⟩⟩, ⟨⟨dX0_rentOf_24, rfl⟩, trivial⟩, ⟨⟨dX0_rentOf_25, rfl⟩, ⟨rfl, rfl⟩⟩, ⟨⟨dX0_rentOf_26, rfl⟩, rfl⟩, ⟨⟨dX0_rentOf_27, rfl⟩, rfl⟩, ⟨⟨dX0_rentOf_29, rfl⟩, rfl⟩, ⟨⟨dX0_rentOf_31, rfl⟩, rfl⟩, ⟨⟨dX0_rentOf_32, rfl⟩, Or.inl ⟨by decide, _, _, fX0_190⟩⟩, ⟨⟨dX0_rentOf_35, rfl⟩, rfl⟩, ⟨⟨dX0_rentOf_38, rfl⟩, rfl⟩, ⟨⟨dX0_rentOf_39, rfl⟩, rfl⟩, ⟨⟨dX0_rentOf_40, rfl⟩, rfl⟩, trivial⟩,
  ⟨⟨⟨dX0_rentOf_42, rfl⟩, Or.inr ⟨by decide, ⟨_, my_88, sX0_193⟩, fun q => absurd q (by decide)⟩⟩, ⟨⟨dX0_rentOf_45, rfl⟩, rfl⟩, ⟨⟨dX0_rentOf_47, rfl⟩, rfl⟩, ⟨⟨dX0_rentOf_50, rfl⟩, rfl⟩, ⟨⟨dX0_rentOf_51, rfl⟩, rfl⟩, ⟨⟨dX0_rentOf_52, rfl⟩, rfl⟩, ⟨⟨dX0_rentOf_53, rfl⟩, rfl⟩, ⟨⟨dX0_rentOf_55, rfl⟩, Or.inr ⟨by decide, ⟨_, my_88, sX0_193⟩, fun q => absurd q (by decide)⟩⟩, ⟨⟨dX0_rentOf_58, rfl⟩, trivial⟩, ⟨⟨dX0_rentOf_59, rfl⟩, rfl⟩, ⟨⟨dX0_rentOf_60, rfl⟩, rfl⟩, ⟨⟨dX0_rentOf_61, rfl⟩, rfl⟩, ⟨⟨dX0_rentOf_62, rfl⟩, rfl⟩, ⟨⟨dX0_rentOf_64, rfl⟩, Or.inr ⟨by decide, ⟨_, my_88, sX0_193⟩, fun q => absurd q (by decide)⟩⟩, ⟨⟨dX0_rentOf_67, rfl⟩, Or.inr ⟨by decide, ⟨_, my_184, sX0_194⟩, fun q => absurd q (by decide)⟩⟩, ⟨⟨dX0_rentOf_70, rfl⟩, trivial⟩, ⟨⟨dX0_rentOf_71, rfl⟩, trivial⟩, ⟨⟨dX0_rentOf_72, rfl⟩, trivial⟩, ⟨⟨dX0_rentOf_73, rfl⟩, ⟨rfl, rfl⟩⟩, ⟨⟨dX0_rentOf_74, rfl⟩, ⟨rfl, rfl⟩⟩, ⟨⟨dX0_rentOf_77, rfl⟩, rfl⟩, ⟨⟨dX0_rentOf_80, rfl⟩, rfl⟩, ⟨⟨dX0_rentOf_81, rfl⟩, Or.inr (Or.inl ⟨rfl, 2, _, my_103, sX0_197⟩)⟩, ⟨⟨dX0_rentOf_84, rfl⟩, Or.inl ⟨rfl, rfl⟩⟩, trivial⟩, trivial⟩, by decide, Or.inl ⟨rfl, by decide, rfl⟩⟩
set_option maxRecDepth 100000 in
theorem g_X0_rentOf_0 (S : sT) (call : cT) (n : Nat) (a0 : Nat) (x1 : Int32) (h : pH) : bd S call dflT E_X0_rentOf (n + 1) 0 [some (.ref a0), some (.int x1), none, none, none, none] [] h = (rC h (.ref a0) 3 (cU (call 197 [.ref a0, .int x1] h) (fun h1 => gV h1 (.ref a0) 3 2 (fun w2 => rC h1 w2 4 (cA (call 183 [w2, .int x1] h1) (fun w4 h3 => iA w4 (iA w4 (gV h3 (.ref a0) 3 9 (fun w5 => rC h3 w4 11 (cI (call 200 [w4, .int 24, w5] h3) (fun y7 h6 => nl w4 (bd S call dflT E_X0_rentOf n 29 [some (.ref a0), some (.int x1), some (w4), some (.long y7.toInt64), none, some (.int 0)] [] h6)))))))))))) := rfl
set_option maxRecDepth 100000 in
theorem g_X0_rentOf_29 (S : sT) (call : cT) (n : Nat) (a0 : Nat) (x1 : Int32) (v2 : Value) (j3 : Int64) (x5 : Int32) (h : pH) : bd S call dflT E_X0_rentOf (n + 1) 29 [some (.ref a0), some (.int x1), some (v2), some (.long j3), none, some (.int x5)] [] h = (iA v2 (gI h v2 11 0 (fun y1 => (if y1 ≤ x5 then cIx tN (call 103 [.long j3] h) (fun y3 h2 => some (.inl (some (.int y3)), h2)) else iA v2 (rC h v2 11 (cI (call 88 [v2, .int 0, .int x5] h) (fun y5 h4 => (if y5 = 25 then iA v2 (rC h4 v2 11 (cI (call 88 [v2, .int 1, .int x5] h4) (fun y7 h6 => iA v2 (rC h6 v2 11 (cI (call 88 [v2, .int 2, .int x5] h6) (fun y9 h8 => rC h8 (.ref a0) 3 (cI (call 184 [.ref a0, .int y9] h8) (fun y11 h10 => nl v2 (bd S call dflT E_X0_rentOf n 29 [some (.ref a0), some (.int x1), some (v2), some (.long (j3 + (y7.toInt64 * y11.toInt64))), none, some (.int (x5 + 1))] [] h10))))))))) else bd S call dflT E_X0_rentOf n 29 [some (.ref a0), some (.int x1), some (v2), some (.long j3), none, some (.int (x5 + 1))] [] h4)))))))) := rfl
theorem dX0_takeIn_0 : decode cX0_takeIn 0 = .ok (.iload_n 2, 1) := by decide +kernel
theorem dX0_takeIn_1 : decode cX0_takeIn 1 = .ok (.i2l, 1) := by decide +kernel
theorem dX0_takeIn_2 : decode cX0_takeIn 2 = .ok (.aload_n 0, 1) := by decide +kernel
theorem dX0_takeIn_3 : decode cX0_takeIn 3 = .ok (.getfield 12, 3) := by decide +kernel
theorem dX0_takeIn_6 : decode cX0_takeIn 6 = .ok (.aload_n 0, 1) := by decide +kernel
theorem dX0_takeIn_7 : decode cX0_takeIn 7 = .ok (.getfield 12, 3) := by decide +kernel
theorem dX0_takeIn_10 : decode cX0_takeIn 10 = .ok (.aload_n 0, 1) := by decide +kernel
theorem dX0_takeIn_11 : decode cX0_takeIn 11 = .ok (.getfield 92, 3) := by decide +kernel
theorem dX0_takeIn_14 : decode cX0_takeIn 14 = .ok (.bipush 21, 2) := by decide +kernel
theorem dX0_takeIn_16 : decode cX0_takeIn 16 = .ok (.iload_n 1, 1) := by decide +kernel
theorem dX0_takeIn_17 : decode cX0_takeIn 17 = .ok (.invokevirtual 143, 3) := by decide +kernel
theorem dX0_takeIn_20 : decode cX0_takeIn 20 = .ok (.invokevirtual 148, 3) := by decide +kernel
theorem dX0_takeIn_23 : decode cX0_takeIn 23 = .ok (.i2l, 1) := by decide +kernel
theorem dX0_takeIn_24 : decode cX0_takeIn 24 = .ok (.lmul, 1) := by decide +kernel
theorem dX0_takeIn_25 : decode cX0_takeIn 25 = .ok (.ldc2_w 165, 3) := by decide +kernel
theorem dX0_takeIn_28 : decode cX0_takeIn 28 = .ok (.ldiv, 1) := by decide +kernel
theorem dX0_takeIn_29 : decode cX0_takeIn 29 = .ok (.lstore_n 3, 1) := by decide +kernel
theorem dX0_takeIn_30 : decode cX0_takeIn 30 = .ok (.aload_n 0, 1) := by decide +kernel
theorem dX0_takeIn_31 : decode cX0_takeIn 31 = .ok (.getfield 42, 3) := by decide +kernel
theorem dX0_takeIn_34 : decode cX0_takeIn 34 = .ok (.lload_n 3, 1) := by decide +kernel
theorem dX0_takeIn_35 : decode cX0_takeIn 35 = .ok (.invokevirtual 167, 3) := by decide +kernel
theorem dX0_takeIn_38 : decode cX0_takeIn 38 = .ok (.aload_n 0, 1) := by decide +kernel
theorem dX0_takeIn_39 : decode cX0_takeIn 39 = .ok (.getfield 42, 3) := by decide +kernel
theorem dX0_takeIn_42 : decode cX0_takeIn 42 = .ok (.iload_n 2, 1) := by decide +kernel
theorem dX0_takeIn_43 : decode cX0_takeIn 43 = .ok (.i2l, 1) := by decide +kernel
theorem dX0_takeIn_44 : decode cX0_takeIn 44 = .ok (.lload_n 3, 1) := by decide +kernel
theorem dX0_takeIn_45 : decode cX0_takeIn 45 = .ok (.lsub, 1) := by decide +kernel
theorem dX0_takeIn_46 : decode cX0_takeIn 46 = .ok (.invokevirtual 171, 3) := by decide +kernel
theorem dX0_takeIn_49 : decode cX0_takeIn 49 = .ok (.return_, 1) := by decide +kernel
noncomputable def E_X0_takeIn : mE := (mX0_takeIn, [(42, [(0, (.iload_n 2, 1, false, false, 2, 0, 0, 0, 0, 0, [])), (1, (.i2l, 2, false, false, 0, 0, 0, 0, 0, 0, [])), (2, (.aload_n 0, 3, false, false, 0, 0, 0, 0, 0, 0, [])), (3, (.getfield 12, 6, false, false, 3, 0, 1, 0, 0, 0, [])), (6, (.aload_n 0, 7, false, false, 0, 0, 0, 0, 0, 0, [])), (7, (.getfield 12, 10, false, false, 3, 0, 1, 0, 0, 0, [])), (10, (.aload_n 0, 11, false, false, 0, 0, 0, 0, 0, 0, [])), (11, (.getfield 92, 14, false, false, 3, 7, 0, 0, 0, 0, [])), (14, (.bipush 21, 16, false, false, 0, 0, 0, 0, 21, 0, [])), (16, (.iload_n 1, 17, false, false, 1, 0, 0, 0, 0, 0, [])), (17, (.invokevirtual 143, 20, false, false, 90, 3, 1, 12, 0, 0, [])), (20, (.invokevirtual 148, 23, false, false, 92, 1, 1, 12, 0, 0, [])), (23, (.i2l, 24, false, false, 0, 0, 0, 0, 0, 0, [])), (24, (.lmul, 25, false, false, 0, 0, 0, 0, 0, 0, [])), (25, (.ldc2_w 165, 28, false, false, 0, 0, 0, 0, 0, 100, [])), (28, (.ldiv, 29, false, false, 0, 0, 0, 0, 0, 0, [])), (29, (.lstore_n 3, 30, false, false, 3, 4, 0, 0, 0, 0, [])), (30, (.aload_n 0, 31, false, false, 0, 0, 0, 0, 0, 0, [])), (31, (.getfield 42, 34, false, false, 3, 4, 1, 0, 0, 0, [])), (34, (.lload_n 3, 35, false, false, 3, 0, 0, 0, 0, 0, [])), (35, (.invokevirtual 167, 38, false, false, 211, 1, 0, 6, 0, 0, [])), (38, (.aload_n 0, 39, false, false, 0, 0, 0, 0, 0, 0, [])), (39, (.getfield 42, 42, false, false, 3, 4, 1, 0, 0, 0, [])), (42, (.iload_n 2, 43, false, false, 2, 0, 0, 0, 0, 0, []))]),
  (49, [(43, (.i2l, 44, false, false, 0, 0, 0, 0, 0, 0, [])), (44, (.lload_n 3, 45, false, false, 3, 0, 0, 0, 0, 0, [])), (45, (.lsub, 46, false, false, 0, 0, 0, 0, 0, 0, [])), (46, (.invokevirtual 171, 49, false, false, 191, 1, 0, 6, 0, 0, [])), (49, (.return_, 50, false, false, 0, 0, 0, 0, 0, 0, []))])], 0, [])
set_option maxRecDepth 100000 in
theorem v_X0_takeIn : VE MYT dflT E_X0_takeIn := ⟨⟨⟨⟨⟨dX0_takeIn_0, rfl⟩, rfl⟩, ⟨⟨dX0_takeIn_1, rfl⟩, trivial⟩, ⟨⟨dX0_takeIn_2, rfl⟩, rfl⟩, ⟨⟨dX0_takeIn_3, rfl⟩, Or.inl ⟨by decide, _, _, fX0_12⟩⟩, ⟨⟨dX0_takeIn_6, rfl⟩, rfl⟩, ⟨⟨dX0_takeIn_7, rfl⟩, Or.inl ⟨by decide, _, _, fX0_12⟩⟩, ⟨⟨dX0_takeIn_10, rfl⟩, rfl⟩, ⟨⟨dX0_takeIn_11, rfl⟩, Or.inl ⟨by decide, _, _, fX0_92⟩⟩, ⟨⟨dX0_takeIn_14, rfl⟩, rfl⟩, ⟨⟨dX0_takeIn_16, rfl⟩, rfl⟩, ⟨⟨dX0_takeIn_17, rfl⟩, Or.inr ⟨by decide, ⟨_, my_90, sX0_143⟩, fun q => absurd q (by decide)⟩⟩, ⟨⟨dX0_takeIn_20, rfl⟩, Or.inr ⟨by decide, ⟨_, my_92, sX0_148⟩, fun q => absurd q (by decide)⟩⟩, ⟨⟨dX0_takeIn_23, rfl⟩, trivial⟩, ⟨⟨dX0_takeIn_24, rfl⟩, trivial⟩, ⟨⟨dX0_takeIn_25, rfl⟩, kX0_165⟩, ⟨⟨dX0_takeIn_28, rfl⟩, trivial⟩, ⟨⟨dX0_takeIn_29, rfl⟩, ⟨rfl, rfl⟩⟩, ⟨⟨dX0_takeIn_30, rfl⟩, rfl⟩, ⟨⟨dX0_takeIn_31, rfl⟩, Or.inl ⟨by decide, _, _, fX0_42⟩⟩, ⟨⟨dX0_takeIn_34, rfl⟩, rfl⟩, ⟨⟨dX0_takeIn_35, rfl⟩, Or.inr ⟨by decide, ⟨_, my_211, sX0_167⟩, fun q => absurd q (by decide)⟩⟩, ⟨⟨dX0_takeIn_38, rfl⟩, rfl⟩, ⟨⟨dX0_takeIn_39, rfl⟩, Or.inl ⟨by decide, _, _, fX0_42⟩⟩, ⟨⟨dX0_takeIn_42, rfl⟩, rfl⟩, trivial⟩,
  ⟨⟨⟨dX0_takeIn_43, rfl⟩, trivial⟩, ⟨⟨dX0_takeIn_44, rfl⟩, rfl⟩, ⟨⟨dX0_takeIn_45, rfl⟩, trivial⟩, ⟨⟨dX0_takeIn_46, rfl⟩, Or.inr ⟨by decide, ⟨_, my_191, sX0_171⟩, fun q => absurd q (by decide)⟩⟩, ⟨⟨dX0_takeIn_49, rfl⟩, rfl⟩, trivial⟩, trivial⟩, by decide, Or.inl ⟨rfl, by decide, rfl⟩⟩
set_option maxRecDepth 100000 in
theorem g_X0_takeIn_0 (S : sT) (call : cT) (n : Nat) (a0 : Nat) (x1 : Int32) (x2 : Int32) (h : pH) : bd S call dflT E_X0_takeIn (n + 1) 0 [some (.ref a0), some (.int x1), some (.int x2), none, none] [] h = (gV h (.ref a0) 3 0 (fun w1 => gV h (.ref a0) 3 0 (fun w2 => gI h (.ref a0) 3 7 (fun y3 => rC h w2 12 (cI (call 90 [w2, .int y3, .int 21, .int x1] h) (fun y5 h4 => rC h4 w1 12 (cI (call 92 [w1, .int y5] h4) (fun y7 h6 => dvJ 100 (gV h6 (.ref a0) 3 4 (fun w8 => rC h6 w8 6 (cU (call 211 [w8, .long ((x2.toInt64 * y7.toInt64) / 100)] h6) (fun h9 => gV h9 (.ref a0) 3 4 (fun w10 => rC h9 w10 6 (cU (call 191 [w10, .long (x2.toInt64 - ((x2.toInt64 * y7.toInt64) / 100))] h9) (fun h11 => some (.inl none, h11)))))))))))))))) := rfl
theorem dX0_learnFactsOfEstate_0 : decode cX0_learnFactsOfEstate 0 = .ok (.aload_n 0, 1) := by decide +kernel
theorem dX0_learnFactsOfEstate_1 : decode cX0_learnFactsOfEstate 1 = .ok (.aload_n 0, 1) := by decide +kernel
theorem dX0_learnFactsOfEstate_2 : decode cX0_learnFactsOfEstate 2 = .ok (.getfield 42, 3) := by decide +kernel
theorem dX0_learnFactsOfEstate_5 : decode cX0_learnFactsOfEstate 5 = .ok (.getfield 136, 3) := by decide +kernel
theorem dX0_learnFactsOfEstate_8 : decode cX0_learnFactsOfEstate 8 = .ok (.iconst 0, 1) := by decide +kernel
theorem dX0_learnFactsOfEstate_9 : decode cX0_learnFactsOfEstate 9 = .ok (.invokevirtual 139, 3) := by decide +kernel
theorem dX0_learnFactsOfEstate_12 : decode cX0_learnFactsOfEstate 12 = .ok (.return_, 1) := by decide +kernel
noncomputable def E_X0_learnFactsOfEstate : mE := (mX0_learnFactsOfEstate, [(12, [(0, (.aload_n 0, 1, false, false, 0, 0, 0, 0, 0, 0, [])), (1, (.aload_n 0, 2, false, false, 0, 0, 0, 0, 0, 0, [])), (2, (.getfield 42, 5, false, false, 3, 4, 1, 0, 0, 0, [])), (5, (.getfield 136, 8, false, false, 6, 0, 0, 0, 0, 0, [])), (8, (.iconst 0, 9, false, false, 0, 0, 0, 0, 0, 0, [])), (9, (.invokevirtual 139, 12, false, false, 196, 2, 0, 3, 0, 0, [])), (12, (.return_, 13, false, false, 0, 0, 0, 0, 0, 0, []))])], 0, [])
set_option maxRecDepth 100000 in
theorem v_X0_learnFactsOfEstate : VE MYT dflT E_X0_learnFactsOfEstate := ⟨⟨⟨⟨⟨dX0_learnFactsOfEstate_0, rfl⟩, rfl⟩, ⟨⟨dX0_learnFactsOfEstate_1, rfl⟩, rfl⟩, ⟨⟨dX0_learnFactsOfEstate_2, rfl⟩, Or.inl ⟨by decide, _, _, fX0_42⟩⟩, ⟨⟨dX0_learnFactsOfEstate_5, rfl⟩, Or.inl ⟨by decide, _, _, fX0_136⟩⟩, ⟨⟨dX0_learnFactsOfEstate_8, rfl⟩, rfl⟩, ⟨⟨dX0_learnFactsOfEstate_9, rfl⟩, Or.inr ⟨by decide, ⟨_, my_196, sX0_139⟩, fun q => absurd q (by decide)⟩⟩, ⟨⟨dX0_learnFactsOfEstate_12, rfl⟩, rfl⟩, trivial⟩, trivial⟩, by decide, Or.inl ⟨rfl, by decide, rfl⟩⟩
set_option maxRecDepth 100000 in
theorem g_X0_learnFactsOfEstate_0 (S : sT) (call : cT) (n : Nat) (a0 : Nat) (h : pH) : bd S call dflT E_X0_learnFactsOfEstate (n + 1) 0 [some (.ref a0)] [] h = (gV h (.ref a0) 3 4 (fun w1 => gI h w1 6 0 (fun y2 => rC h (.ref a0) 3 (cU (call 196 [.ref a0, .int y2, .int 0] h) (fun h3 => some (.inl none, h3)))))) := rfl
theorem dX0_chargesNow_0 : decode cX0_chargesNow 0 = .ok (.aload_n 0, 1) := by decide +kernel
theorem dX0_chargesNow_1 : decode cX0_chargesNow 1 = .ok (.invokevirtual 151, 3) := by decide +kernel
theorem dX0_chargesNow_4 : decode cX0_chargesNow 4 = .ok (.aload_n 0, 1) := by decide +kernel
theorem dX0_chargesNow_5 : decode cX0_chargesNow 5 = .ok (.getfield 12, 3) := by decide +kernel
theorem dX0_chargesNow_8 : decode cX0_chargesNow 8 = .ok (.aload_n 0, 1) := by decide +kernel
theorem dX0_chargesNow_9 : decode cX0_chargesNow 9 = .ok (.getfield 92, 3) := by decide +kernel
theorem dX0_chargesNow_12 : decode cX0_chargesNow 12 = .ok (.bipush 22, 2) := by decide +kernel
theorem dX0_chargesNow_14 : decode cX0_chargesNow 14 = .ok (.aload_n 0, 1) := by decide +kernel
theorem dX0_chargesNow_15 : decode cX0_chargesNow 15 = .ok (.getfield 66, 3) := by decide +kernel
theorem dX0_chargesNow_18 : decode cX0_chargesNow 18 = .ok (.invokevirtual 162, 3) := by decide +kernel
theorem dX0_chargesNow_21 : decode cX0_chargesNow 21 = .ok (.ireturn, 1) := by decide +kernel
noncomputable def E_X0_chargesNow : mE := (mX0_chargesNow, [(21, [(0, (.aload_n 0, 1, false, false, 0, 0, 0, 0, 0, 0, [])), (1, (.invokevirtual 151, 4, false, false, 217, 0, 0, 3, 0, 0, [])), (4, (.aload_n 0, 5, false, false, 0, 0, 0, 0, 0, 0, [])), (5, (.getfield 12, 8, false, false, 3, 0, 1, 0, 0, 0, [])), (8, (.aload_n 0, 9, false, false, 0, 0, 0, 0, 0, 0, [])), (9, (.getfield 92, 12, false, false, 3, 7, 0, 0, 0, 0, [])), (12, (.bipush 22, 14, false, false, 0, 0, 0, 0, 22, 0, [])), (14, (.aload_n 0, 15, false, false, 0, 0, 0, 0, 0, 0, [])), (15, (.getfield 66, 18, false, false, 3, 9, 1, 0, 0, 0, [])), (18, (.invokevirtual 162, 21, false, false, 219, 3, 1, 12, 0, 0, [])), (21, (.ireturn, 22, false, false, 0, 0, 0, 0, 0, 0, []))])], 0, [])
set_option maxRecDepth 100000 in
theorem v_X0_chargesNow : VE MYT dflT E_X0_chargesNow := ⟨⟨⟨⟨⟨dX0_chargesNow_0, rfl⟩, rfl⟩, ⟨⟨dX0_chargesNow_1, rfl⟩, Or.inr ⟨by decide, ⟨_, my_217, sX0_151⟩, fun q => absurd q (by decide)⟩⟩, ⟨⟨dX0_chargesNow_4, rfl⟩, rfl⟩, ⟨⟨dX0_chargesNow_5, rfl⟩, Or.inl ⟨by decide, _, _, fX0_12⟩⟩, ⟨⟨dX0_chargesNow_8, rfl⟩, rfl⟩, ⟨⟨dX0_chargesNow_9, rfl⟩, Or.inl ⟨by decide, _, _, fX0_92⟩⟩, ⟨⟨dX0_chargesNow_12, rfl⟩, rfl⟩, ⟨⟨dX0_chargesNow_14, rfl⟩, rfl⟩, ⟨⟨dX0_chargesNow_15, rfl⟩, Or.inl ⟨by decide, _, _, fX0_66⟩⟩, ⟨⟨dX0_chargesNow_18, rfl⟩, Or.inr ⟨by decide, ⟨_, my_219, sX0_162⟩, fun q => absurd q (by decide)⟩⟩, ⟨⟨dX0_chargesNow_21, rfl⟩, Or.inl ⟨rfl, rfl⟩⟩, trivial⟩, trivial⟩, by decide, Or.inl ⟨rfl, by decide, rfl⟩⟩
set_option maxRecDepth 100000 in
theorem g_X0_chargesNow_0 (S : sT) (call : cT) (n : Nat) (a0 : Nat) (h : pH) : bd S call dflT E_X0_chargesNow (n + 1) 0 [some (.ref a0)] [] h = (rC h (.ref a0) 3 (cU (call 217 [.ref a0] h) (fun h1 => gV h1 (.ref a0) 3 0 (fun w2 => gI h1 (.ref a0) 3 7 (fun y3 => gV h1 (.ref a0) 3 9 (fun w4 => rC h1 w2 12 (cI (call 219 [w2, .int y3, .int 22, w4] h1) (fun y6 h5 => some (.inl (some (.int y6)), h5))))))))) := rfl
theorem dX0_learnFactsOfField_0 : decode cX0_learnFactsOfField 0 = .ok (.aload_n 0, 1) := by decide +kernel
theorem dX0_learnFactsOfField_1 : decode cX0_learnFactsOfField 1 = .ok (.getfield 66, 3) := by decide +kernel
theorem dX0_learnFactsOfField_4 : decode cX0_learnFactsOfField 4 = .ok (.iconst 5, 1) := by decide +kernel
theorem dX0_learnFactsOfField_5 : decode cX0_learnFactsOfField 5 = .ok (.aload_n 0, 1) := by decide +kernel
theorem dX0_learnFactsOfField_6 : decode cX0_learnFactsOfField 6 = .ok (.getfield 21, 3) := by decide +kernel
theorem dX0_learnFactsOfField_9 : decode cX0_learnFactsOfField 9 = .ok (.bipush 7, 2) := by decide +kernel
theorem dX0_learnFactsOfField_11 : decode cX0_learnFactsOfField 11 = .ok (.iload_n 1, 1) := by decide +kernel
theorem dX0_learnFactsOfField_12 : decode cX0_learnFactsOfField 12 = .ok (.invokevirtual 96, 3) := by decide +kernel
theorem dX0_learnFactsOfField_15 : decode cX0_learnFactsOfField 15 = .ok (.i2l, 1) := by decide +kernel
theorem dX0_learnFactsOfField_16 : decode cX0_learnFactsOfField 16 = .ok (.lastore, 1) := by decide +kernel
theorem dX0_learnFactsOfField_17 : decode cX0_learnFactsOfField 17 = .ok (.aload_n 0, 1) := by decide +kernel
theorem dX0_learnFactsOfField_18 : decode cX0_learnFactsOfField 18 = .ok (.getfield 66, 3) := by decide +kernel
theorem dX0_learnFactsOfField_21 : decode cX0_learnFactsOfField 21 = .ok (.bipush 6, 2) := by decide +kernel
theorem dX0_learnFactsOfField_23 : decode cX0_learnFactsOfField 23 = .ok (.aload_n 0, 1) := by decide +kernel
theorem dX0_learnFactsOfField_24 : decode cX0_learnFactsOfField 24 = .ok (.getfield 21, 3) := by decide +kernel
theorem dX0_learnFactsOfField_27 : decode cX0_learnFactsOfField 27 = .ok (.iconst 2, 1) := by decide +kernel
theorem dX0_learnFactsOfField_28 : decode cX0_learnFactsOfField 28 = .ok (.iload_n 1, 1) := by decide +kernel
theorem dX0_learnFactsOfField_29 : decode cX0_learnFactsOfField 29 = .ok (.invokevirtual 96, 3) := by decide +kernel
theorem dX0_learnFactsOfField_32 : decode cX0_learnFactsOfField 32 = .ok (.i2l, 1) := by decide +kernel
theorem dX0_learnFactsOfField_33 : decode cX0_learnFactsOfField 33 = .ok (.lastore, 1) := by decide +kernel
theorem dX0_learnFactsOfField_34 : decode cX0_learnFactsOfField 34 = .ok (.aload_n 0, 1) := by decide +kernel
theorem dX0_learnFactsOfField_35 : decode cX0_learnFactsOfField 35 = .ok (.getfield 66, 3) := by decide +kernel
theorem dX0_learnFactsOfField_38 : decode cX0_learnFactsOfField 38 = .ok (.bipush 7, 2) := by decide +kernel
theorem dX0_learnFactsOfField_40 : decode cX0_learnFactsOfField 40 = .ok (.aload_n 0, 1) := by decide +kernel
theorem dX0_learnFactsOfField_41 : decode cX0_learnFactsOfField 41 = .ok (.getfield 21, 3) := by decide +kernel
theorem dX0_learnFactsOfField_44 : decode cX0_learnFactsOfField 44 = .ok (.iconst 1, 1) := by decide +kernel
theorem dX0_learnFactsOfField_45 : decode cX0_learnFactsOfField 45 = .ok (.iload_n 1, 1) := by decide +kernel
theorem dX0_learnFactsOfField_46 : decode cX0_learnFactsOfField 46 = .ok (.invokevirtual 96, 3) := by decide +kernel
theorem dX0_learnFactsOfField_49 : decode cX0_learnFactsOfField 49 = .ok (.i2l, 1) := by decide +kernel
theorem dX0_learnFactsOfField_50 : decode cX0_learnFactsOfField 50 = .ok (.lastore, 1) := by decide +kernel
theorem dX0_learnFactsOfField_51 : decode cX0_learnFactsOfField 51 = .ok (.aload_n 0, 1) := by decide +kernel
theorem dX0_learnFactsOfField_52 : decode cX0_learnFactsOfField 52 = .ok (.getfield 66, 3) := by decide +kernel
theorem dX0_learnFactsOfField_55 : decode cX0_learnFactsOfField 55 = .ok (.bipush 8, 2) := by decide +kernel
theorem dX0_learnFactsOfField_57 : decode cX0_learnFactsOfField 57 = .ok (.aload_n 0, 1) := by decide +kernel
theorem dX0_learnFactsOfField_58 : decode cX0_learnFactsOfField 58 = .ok (.getfield 21, 3) := by decide +kernel
theorem dX0_learnFactsOfField_61 : decode cX0_learnFactsOfField 61 = .ok (.iconst 0, 1) := by decide +kernel
theorem dX0_learnFactsOfField_62 : decode cX0_learnFactsOfField 62 = .ok (.iload_n 1, 1) := by decide +kernel
theorem dX0_learnFactsOfField_63 : decode cX0_learnFactsOfField 63 = .ok (.invokevirtual 96, 3) := by decide +kernel
theorem dX0_learnFactsOfField_66 : decode cX0_learnFactsOfField 66 = .ok (.i2l, 1) := by decide +kernel
theorem dX0_learnFactsOfField_67 : decode cX0_learnFactsOfField 67 = .ok (.lastore, 1) := by decide +kernel
theorem dX0_learnFactsOfField_68 : decode cX0_learnFactsOfField 68 = .ok (.return_, 1) := by decide +kernel
noncomputable def E_X0_learnFactsOfField : mE := (mX0_learnFactsOfField, [(40, [(0, (.aload_n 0, 1, false, false, 0, 0, 0, 0, 0, 0, [])), (1, (.getfield 66, 4, false, false, 3, 9, 1, 0, 0, 0, [])), (4, (.iconst 5, 5, false, false, 0, 0, 0, 0, 5, 0, [])), (5, (.aload_n 0, 6, false, false, 0, 0, 0, 0, 0, 0, [])), (6, (.getfield 21, 9, false, false, 3, 1, 1, 0, 0, 0, [])), (9, (.bipush 7, 11, false, false, 0, 0, 0, 0, 7, 0, [])), (11, (.iload_n 1, 12, false, false, 1, 0, 0, 0, 0, 0, [])), (12, (.invokevirtual 96, 15, false, false, 23, 2, 1, 5, 0, 0, [])), (15, (.i2l, 16, false, false, 0, 0, 0, 0, 0, 0, [])), (16, (.lastore, 17, false, false, 0, 0, 0, 0, 0, 0, [])), (17, (.aload_n 0, 18, false, false, 0, 0, 0, 0, 0, 0, [])), (18, (.getfield 66, 21, false, false, 3, 9, 1, 0, 0, 0, [])), (21, (.bipush 6, 23, false, false, 0, 0, 0, 0, 6, 0, [])), (23, (.aload_n 0, 24, false, false, 0, 0, 0, 0, 0, 0, [])), (24, (.getfield 21, 27, false, false, 3, 1, 1, 0, 0, 0, [])), (27, (.iconst 2, 28, false, false, 0, 0, 0, 0, 2, 0, [])), (28, (.iload_n 1, 29, false, false, 1, 0, 0, 0, 0, 0, [])), (29, (.invokevirtual 96, 32, false, false, 23, 2, 1, 5, 0, 0, [])), (32, (.i2l, 33, false, false, 0, 0, 0, 0, 0, 0, [])), (33, (.lastore, 34, false, false, 0, 0, 0, 0, 0, 0, [])), (34, (.aload_n 0, 35, false, false, 0, 0, 0, 0, 0, 0, [])), (35, (.getfield 66, 38, false, false, 3, 9, 1, 0, 0, 0, [])), (38, (.bipush 7, 40, false, false, 0, 0, 0, 0, 7, 0, [])), (40, (.aload_n 0, 41, false, false, 0, 0, 0, 0, 0, 0, []))]),
  (68, [(41, (.getfield 21, 44, false, false, 3, 1, 1, 0, 0, 0, [])), (44, (.iconst 1, 45, false, false, 0, 0, 0, 0, 1, 0, [])), (45, (.iload_n 1, 46, false, false, 1, 0, 0, 0, 0, 0, [])), (46, (.invokevirtual 96, 49, false, false, 23, 2, 1, 5, 0, 0, [])), (49, (.i2l, 50, false, false, 0, 0, 0, 0, 0, 0, [])), (50, (.lastore, 51, false, false, 0, 0, 0, 0, 0, 0, [])), (51, (.aload_n 0, 52, false, false, 0, 0, 0, 0, 0, 0, [])), (52, (.getfield 66, 55, false, false, 3, 9, 1, 0, 0, 0, [])), (55, (.bipush 8, 57, false, false, 0, 0, 0, 0, 8, 0, [])), (57, (.aload_n 0, 58, false, false, 0, 0, 0, 0, 0, 0, [])), (58, (.getfield 21, 61, false, false, 3, 1, 1, 0, 0, 0, [])), (61, (.iconst 0, 62, false, false, 0, 0, 0, 0, 0, 0, [])), (62, (.iload_n 1, 63, false, false, 1, 0, 0, 0, 0, 0, [])), (63, (.invokevirtual 96, 66, false, false, 23, 2, 1, 5, 0, 0, [])), (66, (.i2l, 67, false, false, 0, 0, 0, 0, 0, 0, [])), (67, (.lastore, 68, false, false, 0, 0, 0, 0, 0, 0, [])), (68, (.return_, 69, false, false, 0, 0, 0, 0, 0, 0, []))])], 0, [])
set_option maxRecDepth 100000 in
theorem v_X0_learnFactsOfField : VE MYT dflT E_X0_learnFactsOfField := ⟨⟨⟨⟨⟨dX0_learnFactsOfField_0, rfl⟩, rfl⟩, ⟨⟨dX0_learnFactsOfField_1, rfl⟩, Or.inl ⟨by decide, _, _, fX0_66⟩⟩, ⟨⟨dX0_learnFactsOfField_4, rfl⟩, rfl⟩, ⟨⟨dX0_learnFactsOfField_5, rfl⟩, rfl⟩, ⟨⟨dX0_learnFactsOfField_6, rfl⟩, Or.inl ⟨by decide, _, _, fX0_21⟩⟩, ⟨⟨dX0_learnFactsOfField_9, rfl⟩, rfl⟩, ⟨⟨dX0_learnFactsOfField_11, rfl⟩, rfl⟩, ⟨⟨dX0_learnFactsOfField_12, rfl⟩, Or.inr ⟨by decide, ⟨_, my_23, sX0_96⟩, fun q => absurd q (by decide)⟩⟩, ⟨⟨dX0_learnFactsOfField_15, rfl⟩, trivial⟩, ⟨⟨dX0_learnFactsOfField_16, rfl⟩, trivial⟩, ⟨⟨dX0_learnFactsOfField_17, rfl⟩, rfl⟩, ⟨⟨dX0_learnFactsOfField_18, rfl⟩, Or.inl ⟨by decide, _, _, fX0_66⟩⟩, ⟨⟨dX0_learnFactsOfField_21, rfl⟩, rfl⟩, ⟨⟨dX0_learnFactsOfField_23, rfl⟩, rfl⟩, ⟨⟨dX0_learnFactsOfField_24, rfl⟩, Or.inl ⟨by decide, _, _, fX0_21⟩⟩, ⟨⟨dX0_learnFactsOfField_27, rfl⟩, rfl⟩, ⟨⟨dX0_learnFactsOfField_28, rfl⟩, rfl⟩, ⟨⟨dX0_learnFactsOfField_29, rfl⟩, Or.inr ⟨by decide, ⟨_, my_23, sX0_96⟩, fun q => absurd q (by decide)⟩⟩, ⟨⟨dX0_learnFactsOfField_32, rfl⟩, trivial⟩, ⟨⟨dX0_learnFactsOfField_33, rfl⟩, trivial⟩, ⟨⟨dX0_learnFactsOfField_34, rfl⟩, rfl⟩, ⟨⟨dX0_learnFactsOfField_35, rfl⟩, Or.inl ⟨by decide, _, _, fX0_66⟩⟩, ⟨⟨dX0_learnFactsOfField_38, rfl⟩, rfl⟩, ⟨⟨dX0_learnFactsOfField_40, rfl⟩, rfl⟩, trivial⟩,
  ⟨⟨⟨dX0_learnFactsOfField_41, rfl⟩, Or.inl ⟨by decide, _, _, fX0_21⟩⟩, ⟨⟨dX0_learnFactsOfField_44, rfl⟩, rfl⟩, ⟨⟨dX0_learnFactsOfField_45, rfl⟩, rfl⟩, ⟨⟨dX0_learnFactsOfField_46, rfl⟩, Or.inr ⟨by decide, ⟨_, my_23, sX0_96⟩, fun q => absurd q (by decide)⟩⟩, ⟨⟨dX0_learnFactsOfField_49, rfl⟩, trivial⟩, ⟨⟨dX0_learnFactsOfField_50, rfl⟩, trivial⟩, ⟨⟨dX0_learnFactsOfField_51, rfl⟩, rfl⟩, ⟨⟨dX0_learnFactsOfField_52, rfl⟩, Or.inl ⟨by decide, _, _, fX0_66⟩⟩, ⟨⟨dX0_learnFactsOfField_55, rfl⟩, rfl⟩, ⟨⟨dX0_learnFactsOfField_57, rfl⟩, rfl⟩, ⟨⟨dX0_learnFactsOfField_58, rfl⟩, Or.inl ⟨by decide, _, _, fX0_21⟩⟩, ⟨⟨dX0_learnFactsOfField_61, rfl⟩, rfl⟩, ⟨⟨dX0_learnFactsOfField_62, rfl⟩, rfl⟩, ⟨⟨dX0_learnFactsOfField_63, rfl⟩, Or.inr ⟨by decide, ⟨_, my_23, sX0_96⟩, fun q => absurd q (by decide)⟩⟩, ⟨⟨dX0_learnFactsOfField_66, rfl⟩, trivial⟩, ⟨⟨dX0_learnFactsOfField_67, rfl⟩, trivial⟩, ⟨⟨dX0_learnFactsOfField_68, rfl⟩, rfl⟩, trivial⟩, trivial⟩, by decide, Or.inl ⟨rfl, by decide, rfl⟩⟩
set_option maxRecDepth 100000 in
theorem g_X0_learnFactsOfField_0 (S : sT) (call : cT) (n : Nat) (a0 : Nat) (x1 : Int32) (h : pH) : bd S call dflT E_X0_learnFactsOfField (n + 1) 0 [some (.ref a0), some (.int x1)] [] h = (gV h (.ref a0) 3 9 (fun w1 => gV h (.ref a0) 3 1 (fun w2 => rC h w2 5 (cI (call 23 [w2, .int 7, .int x1] h) (fun y4 h3 => sJ h3 w1 5 y4.toInt64 (fun h5 => gV h5 (.ref a0) 3 9 (fun w6 => gV h5 (.ref a0) 3 1 (fun w7 => rC h5 w7 5 (cI (call 23 [w7, .int 2, .int x1] h5) (fun y9 h8 => sJ h8 w6 6 y9.toInt64 (fun h10 => gV h10 (.ref a0) 3 9 (fun w11 => gV h10 (.ref a0) 3 1 (fun w12 => rC h10 w12 5 (cI (call 23 [w12, .int 1, .int x1] h10) (fun y14 h13 => sJ h13 w11 7 y14.toInt64 (fun h15 => gV h15 (.ref a0) 3 9 (fun w16 => gV h15 (.ref a0) 3 1 (fun w17 => rC h15 w17 5 (cI (call 23 [w17, .int 0, .int x1] h15) (fun y19 h18 => sJ h18 w16 8 y19.toInt64 (fun h20 => some (.inl none, h20)))))))))))))))))))))) := rfl
theorem dX0_leftOn_0 : decode cX0_leftOn 0 = .ok (.lconst 0, 1) := by decide +kernel
theorem dX0_leftOn_1 : decode cX0_leftOn 1 = .ok (.lstore_n 3, 1) := by decide +kernel
theorem dX0_leftOn_2 : decode cX0_leftOn 2 = .ok (.iconst 0, 1) := by decide +kernel
theorem dX0_leftOn_3 : decode cX0_leftOn 3 = .ok (.istore 5, 2) := by decide +kernel
theorem dX0_leftOn_5 : decode cX0_leftOn 5 = .ok (.iload 5, 2) := by decide +kernel
theorem dX0_leftOn_7 : decode cX0_leftOn 7 = .ok (.aload_n 2, 1) := by decide +kernel
theorem dX0_leftOn_8 : decode cX0_leftOn 8 = .ok (.getfield 190, 3) := by decide +kernel
theorem dX0_leftOn_11 : decode cX0_leftOn 11 = .ok (.if_icmp .ge 63, 3) := by decide +kernel
theorem dX0_leftOn_14 : decode cX0_leftOn 14 = .ok (.aload_n 2, 1) := by decide +kernel
theorem dX0_leftOn_15 : decode cX0_leftOn 15 = .ok (.iconst 0, 1) := by decide +kernel
theorem dX0_leftOn_16 : decode cX0_leftOn 16 = .ok (.iload 5, 2) := by decide +kernel
theorem dX0_leftOn_18 : decode cX0_leftOn 18 = .ok (.invokevirtual 193, 3) := by decide +kernel
theorem dX0_leftOn_21 : decode cX0_leftOn 21 = .ok (.bipush 27, 2) := by decide +kernel
theorem dX0_leftOn_23 : decode cX0_leftOn 23 = .ok (.if_icmp .ne 45, 3) := by decide +kernel
theorem dX0_leftOn_26 : decode cX0_leftOn 26 = .ok (.aload_n 2, 1) := by decide +kernel
theorem dX0_leftOn_27 : decode cX0_leftOn 27 = .ok (.iconst 2, 1) := by decide +kernel
theorem dX0_leftOn_28 : decode cX0_leftOn 28 = .ok (.iload 5, 2) := by decide +kernel
theorem dX0_leftOn_30 : decode cX0_leftOn 30 = .ok (.invokevirtual 193, 3) := by decide +kernel
theorem dX0_leftOn_33 : decode cX0_leftOn 33 = .ok (.bipush 12, 2) := by decide +kernel
theorem dX0_leftOn_35 : decode cX0_leftOn 35 = .ok (.if_icmp .ne 7, 3) := by decide +kernel
theorem dX0_leftOn_38 : decode cX0_leftOn 38 = .ok (.iconst 5, 1) := by decide +kernel
theorem dX0_leftOn_39 : decode cX0_leftOn 39 = .ok (.goto 4, 3) := by decide +kernel
theorem dX0_leftOn_42 : decode cX0_leftOn 42 = .ok (.iconst 4, 1) := by decide +kernel
theorem dX0_leftOn_43 : decode cX0_leftOn 43 = .ok (.istore 6, 2) := by decide +kernel
theorem dX0_leftOn_45 : decode cX0_leftOn 45 = .ok (.lload_n 3, 1) := by decide +kernel
theorem dX0_leftOn_46 : decode cX0_leftOn 46 = .ok (.aload_n 2, 1) := by decide +kernel
theorem dX0_leftOn_47 : decode cX0_leftOn 47 = .ok (.iconst 1, 1) := by decide +kernel
theorem dX0_leftOn_48 : decode cX0_leftOn 48 = .ok (.iload 5, 2) := by decide +kernel
theorem dX0_leftOn_50 : decode cX0_leftOn 50 = .ok (.invokevirtual 193, 3) := by decide +kernel
theorem dX0_leftOn_53 : decode cX0_leftOn 53 = .ok (.i2l, 1) := by decide +kernel
theorem dX0_leftOn_54 : decode cX0_leftOn 54 = .ok (.aload_n 0, 1) := by decide +kernel
theorem dX0_leftOn_55 : decode cX0_leftOn 55 = .ok (.getfield 21, 3) := by decide +kernel
theorem dX0_leftOn_58 : decode cX0_leftOn 58 = .ok (.iload 6, 2) := by decide +kernel
theorem dX0_leftOn_60 : decode cX0_leftOn 60 = .ok (.iload_n 1, 1) := by decide +kernel
theorem dX0_leftOn_61 : decode cX0_leftOn 61 = .ok (.invokevirtual 96, 3) := by decide +kernel
theorem dX0_leftOn_64 : decode cX0_leftOn 64 = .ok (.i2l, 1) := by decide +kernel
theorem dX0_leftOn_65 : decode cX0_leftOn 65 = .ok (.lmul, 1) := by decide +kernel
theorem dX0_leftOn_66 : decode cX0_leftOn 66 = .ok (.ladd, 1) := by decide +kernel
theorem dX0_leftOn_67 : decode cX0_leftOn 67 = .ok (.lstore_n 3, 1) := by decide +kernel
theorem dX0_leftOn_68 : decode cX0_leftOn 68 = .ok (.iinc 5 1, 3) := by decide +kernel
theorem dX0_leftOn_71 : decode cX0_leftOn 71 = .ok (.goto (-66), 3) := by decide +kernel
theorem dX0_leftOn_74 : decode cX0_leftOn 74 = .ok (.lload_n 3, 1) := by decide +kernel
theorem dX0_leftOn_75 : decode cX0_leftOn 75 = .ok (.lreturn, 1) := by decide +kernel
noncomputable def E_X0_leftOn : mE := (mX0_leftOn, [(43, [(0, (.lconst 0, 1, false, false, 0, 0, 0, 0, 0, 0, [])), (1, (.lstore_n 3, 2, false, false, 3, 4, 0, 0, 0, 0, [])), (2, (.iconst 0, 3, false, false, 0, 0, 0, 0, 0, 0, [])), (3, (.istore 5, 5, true, false, 5, 0, 0, 0, 0, 0, [])), (5, (.iload 5, 7, false, false, 5, 0, 0, 0, 0, 0, [])), (7, (.aload_n 2, 8, false, false, 2, 0, 0, 0, 0, 0, [])), (8, (.getfield 190, 11, false, false, 11, 0, 0, 0, 0, 0, [])), (11, (.if_icmp .ge 63, 14, false, false, 74, 0, 0, 0, 0, 0, [])), (14, (.aload_n 2, 15, false, false, 2, 0, 0, 0, 0, 0, [])), (15, (.iconst 0, 16, false, false, 0, 0, 0, 0, 0, 0, [])), (16, (.iload 5, 18, false, false, 5, 0, 0, 0, 0, 0, [])), (18, (.invokevirtual 193, 21, false, false, 88, 2, 1, 11, 0, 0, [])), (21, (.bipush 27, 23, false, false, 0, 0, 0, 0, 27, 0, [])), (23, (.if_icmp .ne 45, 26, false, false, 68, 0, 0, 0, 0, 0, [])), (26, (.aload_n 2, 27, false, false, 2, 0, 0, 0, 0, 0, [])), (27, (.iconst 2, 28, false, false, 0, 0, 0, 0, 2, 0, [])), (28, (.iload 5, 30, false, false, 5, 0, 0, 0, 0, 0, [])), (30, (.invokevirtual 193, 33, false, false, 88, 2, 1, 11, 0, 0, [])), (33, (.bipush 12, 35, false, false, 0, 0, 0, 0, 12, 0, [])), (35, (.if_icmp .ne 7, 38, false, false, 42, 0, 0, 0, 0, 0, [])), (38, (.iconst 5, 39, false, false, 0, 0, 0, 0, 5, 0, [])), (39, (.goto 4, 42, false, true, 43, 0, 0, 0, 0, 0, [])), (42, (.iconst 4, 43, true, false, 0, 0, 0, 0, 4, 0, [])), (43, (.istore 6, 45, false, false, 6, 0, 0, 0, 0, 0, []))]),
  (75, [(45, (.lload_n 3, 46, false, false, 3, 0, 0, 0, 0, 0, [])), (46, (.aload_n 2, 47, false, false, 2, 0, 0, 0, 0, 0, [])), (47, (.iconst 1, 48, false, false, 0, 0, 0, 0, 1, 0, [])), (48, (.iload 5, 50, false, false, 5, 0, 0, 0, 0, 0, [])), (50, (.invokevirtual 193, 53, false, false, 88, 2, 1, 11, 0, 0, [])), (53, (.i2l, 54, false, false, 0, 0, 0, 0, 0, 0, [])), (54, (.aload_n 0, 55, false, false, 0, 0, 0, 0, 0, 0, [])), (55, (.getfield 21, 58, false, false, 3, 1, 1, 0, 0, 0, [])), (58, (.iload 6, 60, false, false, 6, 0, 0, 0, 0, 0, [])), (60, (.iload_n 1, 61, false, false, 1, 0, 0, 0, 0, 0, [])), (61, (.invokevirtual 96, 64, false, false, 23, 2, 1, 5, 0, 0, [])), (64, (.i2l, 65, false, false, 0, 0, 0, 0, 0, 0, [])), (65, (.lmul, 66, false, false, 0, 0, 0, 0, 0, 0, [])), (66, (.ladd, 67, false, false, 0, 0, 0, 0, 0, 0, [])), (67, (.lstore_n 3, 68, false, false, 3, 4, 0, 0, 0, 0, [])), (68, (.iinc 5 1, 71, false, false, 5, 0, 0, 0, 1, 0, [])), (71, (.goto (-66), 74, false, true, 5, 0, 0, 0, 0, 0, [])), (74, (.lload_n 3, 75, false, false, 3, 0, 0, 0, 0, 0, [])), (75, (.lreturn, 76, false, false, 0, 0, 0, 0, 0, 0, []))])], 0, [])
set_option maxRecDepth 100000 in
theorem v_X0_leftOn : VE MYT dflT E_X0_leftOn := ⟨⟨⟨⟨⟨dX0_leftOn_0, rfl⟩, rfl⟩, ⟨⟨dX0_leftOn_1, rfl⟩, ⟨rfl, rfl⟩⟩, ⟨⟨dX0_leftOn_2, rfl⟩, rfl⟩, ⟨⟨dX0_leftOn_3, rfl⟩, rfl⟩, ⟨⟨dX0_leftOn_5, rfl⟩, rfl⟩, ⟨⟨dX0_leftOn_7, rfl⟩, rfl⟩, ⟨⟨dX0_leftOn_8, rfl⟩, Or.inl ⟨by decide, _, _, fX0_190⟩⟩, ⟨⟨dX0_leftOn_11, rfl⟩, rfl⟩, ⟨⟨dX0_leftOn_14, rfl⟩, rfl⟩, ⟨⟨dX0_leftOn_15, rfl⟩, rfl⟩, ⟨⟨dX0_leftOn_16, rfl⟩, rfl⟩, ⟨⟨dX0_leftOn_18, rfl⟩, Or.inr ⟨by decide, ⟨_, my_88, sX0_193⟩, fun q => absurd q (by decide)⟩⟩, ⟨⟨dX0_leftOn_21, rfl⟩, rfl⟩, ⟨⟨dX0_leftOn_23, rfl⟩, rfl⟩, ⟨⟨dX0_leftOn_26, rfl⟩, rfl⟩, ⟨⟨dX0_leftOn_27, rfl⟩, rfl⟩, ⟨⟨dX0_leftOn_28, rfl⟩, rfl⟩, ⟨⟨dX0_leftOn_30, rfl⟩, Or.inr ⟨by decide, ⟨_, my_88, sX0_193⟩, fun q => absurd q (by decide)⟩⟩, ⟨⟨dX0_leftOn_33, rfl⟩, rfl⟩, ⟨⟨dX0_leftOn_35, rfl⟩, rfl⟩, ⟨⟨dX0_leftOn_38, rfl⟩, rfl⟩, ⟨⟨dX0_leftOn_39, rfl⟩, rfl⟩, ⟨⟨dX0_leftOn_42, rfl⟩, rfl⟩, ⟨⟨dX0_leftOn_43, rfl⟩, rfl⟩, trivial⟩,
  ⟨⟨⟨dX0_leftOn_45, rfl⟩, rfl⟩, ⟨⟨dX0_leftOn_46, rfl⟩, rfl⟩, ⟨⟨dX0_leftOn_47, rfl⟩, rfl⟩, ⟨⟨dX0_leftOn_48, rfl⟩, rfl⟩, ⟨⟨dX0_leftOn_50, rfl⟩, Or.inr ⟨by decide, ⟨_, my_88, sX0_193⟩, fun q => absurd q (by decide)⟩⟩, ⟨⟨dX0_leftOn_53, rfl⟩, trivial⟩, ⟨⟨dX0_leftOn_54, rfl⟩, rfl⟩, ⟨⟨dX0_leftOn_55, rfl⟩, Or.inl ⟨by decide, _, _, fX0_21⟩⟩, ⟨⟨dX0_leftOn_58, rfl⟩, rfl⟩, ⟨⟨dX0_leftOn_60, rfl⟩, rfl⟩, ⟨⟨dX0_leftOn_61, rfl⟩, Or.inr ⟨by decide, ⟨_, my_23, sX0_96⟩, fun q => absurd q (by decide)⟩⟩, ⟨⟨dX0_leftOn_64, rfl⟩, trivial⟩, ⟨⟨dX0_leftOn_65, rfl⟩, trivial⟩, ⟨⟨dX0_leftOn_66, rfl⟩, trivial⟩, ⟨⟨dX0_leftOn_67, rfl⟩, ⟨rfl, rfl⟩⟩, ⟨⟨dX0_leftOn_68, rfl⟩, ⟨rfl, rfl⟩⟩, ⟨⟨dX0_leftOn_71, rfl⟩, rfl⟩, ⟨⟨dX0_leftOn_74, rfl⟩, rfl⟩, ⟨⟨dX0_leftOn_75, rfl⟩, rfl⟩, trivial⟩, trivial⟩, by decide, Or.inl ⟨rfl, by decide, rfl⟩⟩
set_option maxRecDepth 100000 in
theorem g_X0_leftOn_0 (S : sT) (call : cT) (n : Nat) (a0 : Nat) (x1 : Int32) (v2 : Value) (h : pH) : bd S call dflT E_X0_leftOn (n + 1) 0 [some (.ref a0), some (.int x1), some (v2), none, none, none, none] [] h = (nl v2 (bd S call dflT E_X0_leftOn n 5 [some (.ref a0), some (.int x1), some (v2), some (.long 0), none, some (.int 0), none] [] h)) := rfl
set_option maxRecDepth 100000 in
theorem g_X0_leftOn_5 (S : sT) (call : cT) (n : Nat) (a0 : Nat) (x1 : Int32) (v2 : Value) (j3 : Int64) (x5 : Int32) (o6 : Option Value) (h : pH) : bd S call dflT E_X0_leftOn (n + 1) 5 [some (.ref a0), some (.int x1), some (v2), some (.long j3), none, some (.int x5), o6] [] h = (iA v2 (gI h v2 11 0 (fun y1 => (if y1 ≤ x5 then some (.inl (some (.long j3)), h) else iA v2 (rC h v2 11 (cI (call 88 [v2, .int 0, .int x5] h) (fun y3 h2 => (if y3 = 27 then iA v2 (rC h2 v2 11 (cI (call 88 [v2, .int 2, .int x5] h2) (fun y5 h4 => (if y5 = 12 then bd S call dflT E_X0_leftOn n 43 [some (.ref a0), some (.int x1), some (v2), some (.long j3), none, some (.int x5), o6] [.int 5] h4 else bd S call dflT E_X0_leftOn n 43 [some (.ref a0), some (.int x1), some (v2), some (.long j3), none, some (.int x5), o6] [.int 4] h4)))) else bd S call dflT E_X0_leftOn n 5 [some (.ref a0), some (.int x1), some (v2), some (.long j3), none, some (.int (x5 + 1)), o6] [] h2)))))))) := rfl
set_option maxRecDepth 100000 in
theorem g_X0_leftOn_43 (S : sT) (call : cT) (n : Nat) (a0 : Nat) (x1 : Int32) (v2 : Value) (j3 : Int64) (x5 : Int32) (o6 : Option Value) (y0 : Int32) (h : pH) : bd S call dflT E_X0_leftOn (n + 1) 43 [some (.ref a0), some (.int x1), some (v2), some (.long j3), none, some (.int x5), o6] [.int y0] h = (iA v2 (rC h v2 11 (cI (call 88 [v2, .int 1, .int x5] h) (fun y2 h1 => gV h1 (.ref a0) 3 1 (fun w3 => rC h1 w3 5 (cI (call 23 [w3, .int y0, .int x1] h1) (fun y5 h4 => nl v2 (bd S call dflT E_X0_leftOn n 5 [some (.ref a0), some (.int x1), some (v2), some (.long (j3 + (y2.toInt64 * y5.toInt64))), none, some (.int (x5 + 1)), some (.int y0)] [] h4)))))))) := rfl
theorem dX0_owedTo_0 : decode cX0_owedTo 0 = .ok (.aload_n 0, 1) := by decide +kernel
theorem dX0_owedTo_1 : decode cX0_owedTo 1 = .ok (.iload_n 1, 1) := by decide +kernel
theorem dX0_owedTo_2 : decode cX0_owedTo 2 = .ok (.invokevirtual 180, 3) := by decide +kernel
theorem dX0_owedTo_5 : decode cX0_owedTo 5 = .ok (.aload_n 0, 1) := by decide +kernel
theorem dX0_owedTo_6 : decode cX0_owedTo 6 = .ok (.getfield 28, 3) := by decide +kernel
theorem dX0_owedTo_9 : decode cX0_owedTo 9 = .ok (.iload_n 1, 1) := by decide +kernel
theorem dX0_owedTo_10 : decode cX0_owedTo 10 = .ok (.invokevirtual 183, 3) := by decide +kernel
theorem dX0_owedTo_13 : decode cX0_owedTo 13 = .ok (.astore_n 2, 1) := by decide +kernel
theorem dX0_owedTo_14 : decode cX0_owedTo 14 = .ok (.lconst 0, 1) := by decide +kernel
theorem dX0_owedTo_15 : decode cX0_owedTo 15 = .ok (.lstore_n 3, 1) := by decide +kernel
theorem dX0_owedTo_16 : decode cX0_owedTo 16 = .ok (.iconst 0, 1) := by decide +kernel
theorem dX0_owedTo_17 : decode cX0_owedTo 17 = .ok (.istore 5, 2) := by decide +kernel
theorem dX0_owedTo_19 : decode cX0_owedTo 19 = .ok (.iload 5, 2) := by decide +kernel
theorem dX0_owedTo_21 : decode cX0_owedTo 21 = .ok (.bipush 48, 2) := by decide +kernel
theorem dX0_owedTo_23 : decode cX0_owedTo 23 = .ok (.if_icmp .ge 52, 3) := by decide +kernel
theorem dX0_owedTo_26 : decode cX0_owedTo 26 = .ok (.aload_n 0, 1) := by decide +kernel
theorem dX0_owedTo_27 : decode cX0_owedTo 27 = .ok (.getfield 21, 3) := by decide +kernel
theorem dX0_owedTo_30 : decode cX0_owedTo 30 = .ok (.bipush 10, 2) := by decide +kernel
theorem dX0_owedTo_32 : decode cX0_owedTo 32 = .ok (.iload 5, 2) := by decide +kernel
theorem dX0_owedTo_34 : decode cX0_owedTo 34 = .ok (.invokevirtual 96, 3) := by decide +kernel
theorem dX0_owedTo_37 : decode cX0_owedTo 37 = .ok (.iload_n 1, 1) := by decide +kernel
theorem dX0_owedTo_38 : decode cX0_owedTo 38 = .ok (.if_icmp .ne 31, 3) := by decide +kernel
theorem dX0_owedTo_41 : decode cX0_owedTo 41 = .ok (.aload_n 0, 1) := by decide +kernel
theorem dX0_owedTo_42 : decode cX0_owedTo 42 = .ok (.iload 5, 2) := by decide +kernel
theorem dX0_owedTo_44 : decode cX0_owedTo 44 = .ok (.invokevirtual 154, 3) := by decide +kernel
theorem dX0_owedTo_47 : decode cX0_owedTo 47 = .ok (.lload_n 3, 1) := by decide +kernel
theorem dX0_owedTo_48 : decode cX0_owedTo 48 = .ok (.aload_n 0, 1) := by decide +kernel
theorem dX0_owedTo_49 : decode cX0_owedTo 49 = .ok (.iload 5, 2) := by decide +kernel
theorem dX0_owedTo_51 : decode cX0_owedTo 51 = .ok (.aload_n 2, 1) := by decide +kernel
theorem dX0_owedTo_52 : decode cX0_owedTo 52 = .ok (.invokevirtual 201, 3) := by decide +kernel
theorem dX0_owedTo_55 : decode cX0_owedTo 55 = .ok (.aload_n 2, 1) := by decide +kernel
theorem dX0_owedTo_56 : decode cX0_owedTo 56 = .ok (.bipush 28, 2) := by decide +kernel
theorem dX0_owedTo_58 : decode cX0_owedTo 58 = .ok (.aload_n 0, 1) := by decide +kernel
theorem dX0_owedTo_59 : decode cX0_owedTo 59 = .ok (.getfield 66, 3) := by decide +kernel
theorem dX0_owedTo_62 : decode cX0_owedTo 62 = .ok (.invokevirtual 187, 3) := by decide +kernel
theorem dX0_owedTo_65 : decode cX0_owedTo 65 = .ok (.i2l, 1) := by decide +kernel
theorem dX0_owedTo_66 : decode cX0_owedTo 66 = .ok (.lsub, 1) := by decide +kernel
theorem dX0_owedTo_67 : decode cX0_owedTo 67 = .ok (.ladd, 1) := by decide +kernel
theorem dX0_owedTo_68 : decode cX0_owedTo 68 = .ok (.lstore_n 3, 1) := by decide +kernel
theorem dX0_owedTo_69 : decode cX0_owedTo 69 = .ok (.iinc 5 1, 3) := by decide +kernel
theorem dX0_owedTo_72 : decode cX0_owedTo 72 = .ok (.goto (-53), 3) := by decide +kernel
theorem dX0_owedTo_75 : decode cX0_owedTo 75 = .ok (.iconst 0, 1) := by decide +kernel
theorem dX0_owedTo_76 : decode cX0_owedTo 76 = .ok (.lload_n 3, 1) := by decide +kernel
theorem dX0_owedTo_77 : decode cX0_owedTo 77 = .ok (.invokestatic 197, 3) := by decide +kernel
theorem dX0_owedTo_80 : decode cX0_owedTo 80 = .ok (.invokestatic 205, 3) := by decide +kernel
theorem dX0_owedTo_83 : decode cX0_owedTo 83 = .ok (.ireturn, 1) := by decide +kernel
noncomputable def E_X0_owedTo : mE := (mX0_owedTo, [(42, [(0, (.aload_n 0, 1, false, false, 0, 0, 0, 0, 0, 0, [])), (1, (.iload_n 1, 2, false, false, 1, 0, 0, 0, 0, 0, [])), (2, (.invokevirtual 180, 5, false, false, 197, 1, 0, 3, 0, 0, [])), (5, (.aload_n 0, 6, false, false, 0, 0, 0, 0, 0, 0, [])), (6, (.getfield 28, 9, false, false, 3, 2, 1, 0, 0, 0, [])), (9, (.iload_n 1, 10, false, false, 1, 0, 0, 0, 0, 0, [])), (10, (.invokevirtual 183, 13, false, false, 183, 1, 3, 4, 0, 0, [])), (13, (.astore_n 2, 14, false, false, 2, 0, 0, 0, 0, 0, [])), (14, (.lconst 0, 15, false, false, 0, 0, 0, 0, 0, 0, [])), (15, (.lstore_n 3, 16, false, false, 3, 4, 0, 0, 0, 0, [])), (16, (.iconst 0, 17, false, false, 0, 0, 0, 0, 0, 0, [])), (17, (.istore 5, 19, true, false, 5, 0, 0, 0, 0, 0, [])), (19, (.iload 5, 21, false, false, 5, 0, 0, 0, 0, 0, [])), (21, (.bipush 48, 23, false, false, 0, 0, 0, 0, 48, 0, [])), (23, (.if_icmp .ge 52, 26, false, false, 75, 0, 0, 0, 0, 0, [])), (26, (.aload_n 0, 27, false, false, 0, 0, 0, 0, 0, 0, [])), (27, (.getfield 21, 30, false, false, 3, 1, 1, 0, 0, 0, [])), (30, (.bipush 10, 32, false, false, 0, 0, 0, 0, 10, 0, [])), (32, (.iload 5, 34, false, false, 5, 0, 0, 0, 0, 0, [])), (34, (.invokevirtual 96, 37, false, false, 23, 2, 1, 5, 0, 0, [])), (37, (.iload_n 1, 38, false, false, 1, 0, 0, 0, 0, 0, [])), (38, (.if_icmp .ne 31, 41, false, false, 69, 0, 0, 0, 0, 0, [])), (41, (.aload_n 0, 42, false, false, 0, 0, 0, 0, 0, 0, [])), (42, (.iload 5, 44, false, false, 5, 0, 0, 0, 0, 0, []))]),
  (83, [(44, (.invokevirtual 154, 47, false, false, 223, 1, 0, 3, 0, 0, [])), (47, (.lload_n 3, 48, false, false, 3, 0, 0, 0, 0, 0, [])), (48, (.aload_n 0, 49, false, false, 0, 0, 0, 0, 0, 0, [])), (49, (.iload 5, 51, false, false, 5, 0, 0, 0, 0, 0, [])), (51, (.aload_n 2, 52, false, false, 2, 0, 0, 0, 0, 0, [])), (52, (.invokevirtual 201, 55, false, false, 224, 2, 2, 3, 0, 0, [])), (55, (.aload_n 2, 56, false, false, 2, 0, 0, 0, 0, 0, [])), (56, (.bipush 28, 58, false, false, 0, 0, 0, 0, 28, 0, [])), (58, (.aload_n 0, 59, false, false, 0, 0, 0, 0, 0, 0, [])), (59, (.getfield 66, 62, false, false, 3, 9, 1, 0, 0, 0, [])), (62, (.invokevirtual 187, 65, false, false, 200, 2, 1, 11, 0, 0, [])), (65, (.i2l, 66, false, false, 0, 0, 0, 0, 0, 0, [])), (66, (.lsub, 67, false, false, 0, 0, 0, 0, 0, 0, [])), (67, (.ladd, 68, false, false, 0, 0, 0, 0, 0, 0, [])), (68, (.lstore_n 3, 69, false, false, 3, 4, 0, 0, 0, 0, [])), (69, (.iinc 5 1, 72, false, false, 5, 0, 0, 0, 1, 0, [])), (72, (.goto (-53), 75, false, true, 19, 0, 0, 0, 0, 0, [])), (75, (.iconst 0, 76, false, false, 0, 0, 0, 0, 0, 0, [])), (76, (.lload_n 3, 77, false, false, 3, 0, 0, 0, 0, 0, [])), (77, (.invokestatic 197, 80, false, false, 103, 1, 1, 1, 0, 0, [])), (80, (.invokestatic 205, 83, false, false, 0, 2, 1, 5, 0, 0, [])), (83, (.ireturn, 84, false, false, 0, 0, 0, 0, 0, 0, []))])], 0, [])
set_option maxRecDepth 100000 in
theorem v_X0_owedTo : VE MYT dflT E_X0_owedTo := ⟨⟨⟨⟨⟨dX0_owedTo_0, rfl⟩, rfl⟩, ⟨⟨dX0_owedTo_1, rfl⟩, rfl⟩, ⟨⟨dX0_owedTo_2, rfl⟩, Or.inr ⟨by decide, ⟨_, my_197, sX0_180⟩, fun q => absurd q (by decide)⟩⟩, ⟨⟨dX0_owedTo_5, rfl⟩, rfl⟩, ⟨⟨dX0_owedTo_6, rfl⟩, Or.inl ⟨by decide, _, _, fX0_28⟩⟩, ⟨⟨dX0_owedTo_9, rfl⟩, rfl⟩, ⟨⟨dX0_owedTo_10, rfl⟩, Or.inr ⟨by decide, ⟨_, my_183, sX0_183⟩, fun q => absurd q (by decide)⟩⟩, ⟨⟨dX0_owedTo_13, rfl⟩, rfl⟩, ⟨⟨dX0_owedTo_14, rfl⟩, rfl⟩, ⟨⟨dX0_owedTo_15, rfl⟩, ⟨rfl, rfl⟩⟩, ⟨⟨dX0_owedTo_16, rfl⟩, rfl⟩, ⟨⟨dX0_owedTo_17, rfl⟩, rfl⟩, ⟨⟨dX0_owedTo_19, rfl⟩, rfl⟩, ⟨⟨dX0_owedTo_21, rfl⟩, rfl⟩, ⟨⟨dX0_owedTo_23, rfl⟩, rfl⟩, ⟨⟨dX0_owedTo_26, rfl⟩, rfl⟩, ⟨⟨dX0_owedTo_27, rfl⟩, Or.inl ⟨by decide, _, _, fX0_21⟩⟩, ⟨⟨dX0_owedTo_30, rfl⟩, rfl⟩, ⟨⟨dX0_owedTo_32, rfl⟩, rfl⟩, ⟨⟨dX0_owedTo_34, rfl⟩, Or.inr ⟨by decide, ⟨_, my_23, sX0_96⟩, fun q => absurd q (by decide)⟩⟩, ⟨⟨dX0_owedTo_37, rfl⟩, rfl⟩, ⟨⟨dX0_owedTo_38, rfl⟩, rfl⟩, ⟨⟨dX0_owedTo_41, rfl⟩, rfl⟩, ⟨⟨dX0_owedTo_42, rfl⟩, rfl⟩, trivial⟩,
  ⟨⟨⟨dX0_owedTo_44, rfl⟩, Or.inr ⟨by decide, ⟨_, my_223, sX0_154⟩, fun q => absurd q (by decide)⟩⟩, ⟨⟨dX0_owedTo_47, rfl⟩, rfl⟩, ⟨⟨dX0_owedTo_48, rfl⟩, rfl⟩, ⟨⟨dX0_owedTo_49, rfl⟩, rfl⟩, ⟨⟨dX0_owedTo_51, rfl⟩, rfl⟩, ⟨⟨dX0_owedTo_52, rfl⟩, Or.inr ⟨by decide, ⟨_, my_224, sX0_201⟩, fun q => absurd q (by decide)⟩⟩, ⟨⟨dX0_owedTo_55, rfl⟩, rfl⟩, ⟨⟨dX0_owedTo_56, rfl⟩, rfl⟩, ⟨⟨dX0_owedTo_58, rfl⟩, rfl⟩, ⟨⟨dX0_owedTo_59, rfl⟩, Or.inl ⟨by decide, _, _, fX0_66⟩⟩, ⟨⟨dX0_owedTo_62, rfl⟩, Or.inr ⟨by decide, ⟨_, my_200, sX0_187⟩, fun q => absurd q (by decide)⟩⟩, ⟨⟨dX0_owedTo_65, rfl⟩, trivial⟩, ⟨⟨dX0_owedTo_66, rfl⟩, trivial⟩, ⟨⟨dX0_owedTo_67, rfl⟩, trivial⟩, ⟨⟨dX0_owedTo_68, rfl⟩, ⟨rfl, rfl⟩⟩, ⟨⟨dX0_owedTo_69, rfl⟩, ⟨rfl, rfl⟩⟩, ⟨⟨dX0_owedTo_72, rfl⟩, rfl⟩, ⟨⟨dX0_owedTo_75, rfl⟩, rfl⟩, ⟨⟨dX0_owedTo_76, rfl⟩, rfl⟩, ⟨⟨dX0_owedTo_77, rfl⟩, Or.inr (Or.inl ⟨rfl, 2, _, my_103, sX0_197⟩)⟩, ⟨⟨dX0_owedTo_80, rfl⟩, Or.inr (Or.inr (Or.inr (Or.inr (Or.inl ⟨rfl, sX0_205⟩))))⟩, ⟨⟨dX0_owedTo_83, rfl⟩, Or.inl ⟨rfl, rfl⟩⟩, trivial⟩, trivial⟩, by decide, Or.inl ⟨rfl, by decide, rfl⟩⟩
set_option maxRecDepth 100000 in
theorem g_X0_owedTo_0 (S : sT) (call : cT) (n : Nat) (a0 : Nat) (x1 : Int32) (h : pH) : bd S call dflT E_X0_owedTo (n + 1) 0 [some (.ref a0), some (.int x1), none, none, none, none] [] h = (rC h (.ref a0) 3 (cU (call 197 [.ref a0, .int x1] h) (fun h1 => gV h1 (.ref a0) 3 2 (fun w2 => rC h1 w2 4 (cA (call 183 [w2, .int x1] h1) (fun w4 h3 => iA w4 (nl w4 (bd S call dflT E_X0_owedTo n 19 [some (.ref a0), some (.int x1), some (w4), some (.long 0), none, some (.int 0)] [] h3)))))))) := rfl
set_option maxRecDepth 100000 in
theorem g_X0_owedTo_19 (S : sT) (call : cT) (n : Nat) (a0 : Nat) (x1 : Int32) (v2 : Value) (j3 : Int64) (x5 : Int32) (h : pH) : bd S call dflT E_X0_owedTo (n + 1) 19 [some (.ref a0), some (.int x1), some (v2), some (.long j3), none, some (.int x5)] [] h = ((if 48 ≤ x5 then cIx tN (call 103 [.long j3] h) (fun y2 h1 => some (.inl (some (.int (if (0 : Int32) < y2 then y2 else (0 : Int32)))), h1)) else gV h (.ref a0) 3 1 (fun w3 => rC h w3 5 (cI (call 23 [w3, .int 10, .int x5] h) (fun y5 h4 => (if y5 = x1 then rC h4 (.ref a0) 3 (cU (call 223 [.ref a0, .int x5] h4) (fun h6 => iA v2 (rC h6 (.ref a0) 3 (cJ (call 224 [.ref a0, .int x5, v2] h6) (fun y8 h7 => iA v2 (gV h7 (.ref a0) 3 9 (fun w9 => rC h7 v2 11 (cI (call 200 [v2, .int 28, w9] h7) (fun y11 h10 => nl v2 (bd S call dflT E_X0_owedTo n 19 [some (.ref a0), some (.int x1), some (v2), some (.long (j3 + (y8 - y11.toInt64))), none, some (.int (x5 + 1))] [] h10)))))))))) else bd S call dflT E_X0_owedTo n 19 [some (.ref a0), some (.int x1), some (v2), some (.long j3), none, some (.int (x5 + 1))] [] h4)))))) := rfl
theorem dX0_lineThatLets_0 : decode cX0_lineThatLets 0 = .ok (.aload_n 0, 1) := by decide +kernel
theorem dX0_lineThatLets_1 : decode cX0_lineThatLets 1 = .ok (.invokevirtual 151, 3) := by decide +kernel
theorem dX0_lineThatLets_4 : decode cX0_lineThatLets 4 = .ok (.aload_n 0, 1) := by decide +kernel
theorem dX0_lineThatLets_5 : decode cX0_lineThatLets 5 = .ok (.iload_n 2, 1) := by decide +kernel
theorem dX0_lineThatLets_6 : decode cX0_lineThatLets 6 = .ok (.invokevirtual 154, 3) := by decide +kernel
theorem dX0_lineThatLets_9 : decode cX0_lineThatLets 9 = .ok (.aload_n 0, 1) := by decide +kernel
theorem dX0_lineThatLets_10 : decode cX0_lineThatLets 10 = .ok (.getfield 12, 3) := by decide +kernel
theorem dX0_lineThatLets_13 : decode cX0_lineThatLets 13 = .ok (.aload_n 0, 1) := by decide +kernel
theorem dX0_lineThatLets_14 : decode cX0_lineThatLets 14 = .ok (.getfield 92, 3) := by decide +kernel
theorem dX0_lineThatLets_17 : decode cX0_lineThatLets 17 = .ok (.iload_n 1, 1) := by decide +kernel
theorem dX0_lineThatLets_18 : decode cX0_lineThatLets 18 = .ok (.aload_n 0, 1) := by decide +kernel
theorem dX0_lineThatLets_19 : decode cX0_lineThatLets 19 = .ok (.getfield 66, 3) := by decide +kernel
theorem dX0_lineThatLets_22 : decode cX0_lineThatLets 22 = .ok (.invokevirtual 158, 3) := by decide +kernel
theorem dX0_lineThatLets_25 : decode cX0_lineThatLets 25 = .ok (.ireturn, 1) := by decide +kernel
noncomputable def E_X0_lineThatLets : mE := (mX0_lineThatLets, [(25, [(0, (.aload_n 0, 1, false, false, 0, 0, 0, 0, 0, 0, [])), (1, (.invokevirtual 151, 4, false, false, 217, 0, 0, 3, 0, 0, [])), (4, (.aload_n 0, 5, false, false, 0, 0, 0, 0, 0, 0, [])), (5, (.iload_n 2, 6, false, false, 2, 0, 0, 0, 0, 0, [])), (6, (.invokevirtual 154, 9, false, false, 223, 1, 0, 3, 0, 0, [])), (9, (.aload_n 0, 10, false, false, 0, 0, 0, 0, 0, 0, [])), (10, (.getfield 12, 13, false, false, 3, 0, 1, 0, 0, 0, [])), (13, (.aload_n 0, 14, false, false, 0, 0, 0, 0, 0, 0, [])), (14, (.getfield 92, 17, false, false, 3, 7, 0, 0, 0, 0, [])), (17, (.iload_n 1, 18, false, false, 1, 0, 0, 0, 0, 0, [])), (18, (.aload_n 0, 19, false, false, 0, 0, 0, 0, 0, 0, [])), (19, (.getfield 66, 22, false, false, 3, 9, 1, 0, 0, 0, [])), (22, (.invokevirtual 158, 25, false, false, 285, 3, 1, 12, 0, 0, [])), (25, (.ireturn, 26, false, false, 0, 0, 0, 0, 0, 0, []))])], 0, [])
set_option maxRecDepth 100000 in
theorem v_X0_lineThatLets : VE MYT dflT E_X0_lineThatLets := ⟨⟨⟨⟨⟨dX0_lineThatLets_0, rfl⟩, rfl⟩, ⟨⟨dX0_lineThatLets_1, rfl⟩, Or.inr ⟨by decide, ⟨_, my_217, sX0_151⟩, fun q => absurd q (by decide)⟩⟩, ⟨⟨dX0_lineThatLets_4, rfl⟩, rfl⟩, ⟨⟨dX0_lineThatLets_5, rfl⟩, rfl⟩, ⟨⟨dX0_lineThatLets_6, rfl⟩, Or.inr ⟨by decide, ⟨_, my_223, sX0_154⟩, fun q => absurd q (by decide)⟩⟩, ⟨⟨dX0_lineThatLets_9, rfl⟩, rfl⟩, ⟨⟨dX0_lineThatLets_10, rfl⟩, Or.inl ⟨by decide, _, _, fX0_12⟩⟩, ⟨⟨dX0_lineThatLets_13, rfl⟩, rfl⟩, ⟨⟨dX0_lineThatLets_14, rfl⟩, Or.inl ⟨by decide, _, _, fX0_92⟩⟩, ⟨⟨dX0_lineThatLets_17, rfl⟩, rfl⟩, ⟨⟨dX0_lineThatLets_18, rfl⟩, rfl⟩, ⟨⟨dX0_lineThatLets_19, rfl⟩, Or.inl ⟨by decide, _, _, fX0_66⟩⟩, ⟨⟨dX0_lineThatLets_22, rfl⟩, Or.inr ⟨by decide, ⟨_, my_285, sX0_158⟩, fun q => absurd q (by decide)⟩⟩, ⟨⟨dX0_lineThatLets_25, rfl⟩, Or.inl ⟨rfl, rfl⟩⟩, trivial⟩, trivial⟩, by decide, Or.inl ⟨rfl, by decide, rfl⟩⟩
set_option maxRecDepth 100000 in
theorem g_X0_lineThatLets_0 (S : sT) (call : cT) (n : Nat) (a0 : Nat) (x1 : Int32) (x2 : Int32) (h : pH) : bd S call dflT E_X0_lineThatLets (n + 1) 0 [some (.ref a0), some (.int x1), some (.int x2)] [] h = (rC h (.ref a0) 3 (cU (call 217 [.ref a0] h) (fun h1 => rC h1 (.ref a0) 3 (cU (call 223 [.ref a0, .int x2] h1) (fun h2 => gV h2 (.ref a0) 3 0 (fun w3 => gI h2 (.ref a0) 3 7 (fun y4 => gV h2 (.ref a0) 3 9 (fun w5 => rC h2 w3 12 (cI (call 285 [w3, .int y4, .int x1, w5] h2) (fun y7 h6 => some (.inl (some (.int y7)), h6))))))))))) := rfl
theorem dX0_mostBorrowed_0 : decode cX0_mostBorrowed 0 = .ok (.aload_n 0, 1) := by decide +kernel
theorem dX0_mostBorrowed_1 : decode cX0_mostBorrowed 1 = .ok (.getfield 12, 3) := by decide +kernel
theorem dX0_mostBorrowed_4 : decode cX0_mostBorrowed 4 = .ok (.aload_n 0, 1) := by decide +kernel
theorem dX0_mostBorrowed_5 : decode cX0_mostBorrowed 5 = .ok (.bipush 19, 2) := by decide +kernel
theorem dX0_mostBorrowed_7 : decode cX0_mostBorrowed 7 = .ok (.iconst 0, 1) := by decide +kernel
theorem dX0_mostBorrowed_8 : decode cX0_mostBorrowed 8 = .ok (.invokevirtual 146, 3) := by decide +kernel
theorem dX0_mostBorrowed_11 : decode cX0_mostBorrowed 11 = .ok (.invokevirtual 148, 3) := by decide +kernel
theorem dX0_mostBorrowed_14 : decode cX0_mostBorrowed 14 = .ok (.ireturn, 1) := by decide +kernel
noncomputable def E_X0_mostBorrowed : mE := (mX0_mostBorrowed, [(14, [(0, (.aload_n 0, 1, false, false, 0, 0, 0, 0, 0, 0, [])), (1, (.getfield 12, 4, false, false, 3, 0, 1, 0, 0, 0, [])), (4, (.aload_n 0, 5, false, false, 0, 0, 0, 0, 0, 0, [])), (5, (.bipush 19, 7, false, false, 0, 0, 0, 0, 19, 0, [])), (7, (.iconst 0, 8, false, false, 0, 0, 0, 0, 0, 0, [])), (8, (.invokevirtual 146, 11, false, false, 91, 2, 1, 3, 0, 0, [])), (11, (.invokevirtual 148, 14, false, false, 92, 1, 1, 12, 0, 0, [])), (14, (.ireturn, 15, false, false, 0, 0, 0, 0, 0, 0, []))])], 0, [])
set_option maxRecDepth 100000 in
theorem v_X0_mostBorrowed : VE MYT dflT E_X0_mostBorrowed := ⟨⟨⟨⟨⟨dX0_mostBorrowed_0, rfl⟩, rfl⟩, ⟨⟨dX0_mostBorrowed_1, rfl⟩, Or.inl ⟨by decide, _, _, fX0_12⟩⟩, ⟨⟨dX0_mostBorrowed_4, rfl⟩, rfl⟩, ⟨⟨dX0_mostBorrowed_5, rfl⟩, rfl⟩, ⟨⟨dX0_mostBorrowed_7, rfl⟩, rfl⟩, ⟨⟨dX0_mostBorrowed_8, rfl⟩, Or.inr ⟨by decide, ⟨_, my_91, sX0_146⟩, fun q => absurd q (by decide)⟩⟩, ⟨⟨dX0_mostBorrowed_11, rfl⟩, Or.inr ⟨by decide, ⟨_, my_92, sX0_148⟩, fun q => absurd q (by decide)⟩⟩, ⟨⟨dX0_mostBorrowed_14, rfl⟩, Or.inl ⟨rfl, rfl⟩⟩, trivial⟩, trivial⟩, by decide, Or.inl ⟨rfl, by decide, rfl⟩⟩
set_option maxRecDepth 100000 in
theorem g_X0_mostBorrowed_0 (S : sT) (call : cT) (n : Nat) (a0 : Nat) (h : pH) : bd S call dflT E_X0_mostBorrowed (n + 1) 0 [some (.ref a0)] [] h = (gV h (.ref a0) 3 0 (fun w1 => rC h (.ref a0) 3 (cI (call 91 [.ref a0, .int 19, .int 0] h) (fun y3 h2 => rC h2 w1 12 (cI (call 92 [w1, .int y3] h2) (fun y5 h4 => some (.inl (some (.int y5)), h4))))))) := rfl
theorem dX0_partOf_0 : decode cX0_partOf 0 = .ok (.aload_n 0, 1) := by decide +kernel
theorem dX0_partOf_1 : decode cX0_partOf 1 = .ok (.getfield 12, 3) := by decide +kernel
theorem dX0_partOf_4 : decode cX0_partOf 4 = .ok (.aload_n 0, 1) := by decide +kernel
theorem dX0_partOf_5 : decode cX0_partOf 5 = .ok (.getfield 12, 3) := by decide +kernel
theorem dX0_partOf_8 : decode cX0_partOf 8 = .ok (.aload_n 0, 1) := by decide +kernel
theorem dX0_partOf_9 : decode cX0_partOf 9 = .ok (.getfield 92, 3) := by decide +kernel
theorem dX0_partOf_12 : decode cX0_partOf 12 = .ok (.bipush 21, 2) := by decide +kernel
theorem dX0_partOf_14 : decode cX0_partOf 14 = .ok (.iload_n 1, 1) := by decide +kernel
theorem dX0_partOf_15 : decode cX0_partOf 15 = .ok (.invokevirtual 143, 3) := by decide +kernel
theorem dX0_partOf_18 : decode cX0_partOf 18 = .ok (.invokevirtual 148, 3) := by decide +kernel
theorem dX0_partOf_21 : decode cX0_partOf 21 = .ok (.ireturn, 1) := by decide +kernel
noncomputable def E_X0_partOf : mE := (mX0_partOf, [(21, [(0, (.aload_n 0, 1, false, false, 0, 0, 0, 0, 0, 0, [])), (1, (.getfield 12, 4, false, false, 3, 0, 1, 0, 0, 0, [])), (4, (.aload_n 0, 5, false, false, 0, 0, 0, 0, 0, 0, [])), (5, (.getfield 12, 8, false, false, 3, 0, 1, 0, 0, 0, [])), (8, (.aload_n 0, 9, false, false, 0, 0, 0, 0, 0, 0, [])), (9, (.getfield 92, 12, false, false, 3, 7, 0, 0, 0, 0, [])), (12, (.bipush 21, 14, false, false, 0, 0, 0, 0, 21, 0, [])), (14, (.iload_n 1, 15, false, false, 1, 0, 0, 0, 0, 0, [])), (15, (.invokevirtual 143, 18, false, false, 90, 3, 1, 12, 0, 0, [])), (18, (.invokevirtual 148, 21, false, false, 92, 1, 1, 12, 0, 0, [])), (21, (.ireturn, 22, false, false, 0, 0, 0, 0, 0, 0, []))])], 0, [])
set_option maxRecDepth 100000 in
theorem v_X0_partOf : VE MYT dflT E_X0_partOf := ⟨⟨⟨⟨⟨dX0_partOf_0, rfl⟩, rfl⟩, ⟨⟨dX0_partOf_1, rfl⟩, Or.inl ⟨by decide, _, _, fX0_12⟩⟩, ⟨⟨dX0_partOf_4, rfl⟩, rfl⟩, ⟨⟨dX0_partOf_5, rfl⟩, Or.inl ⟨by decide, _, _, fX0_12⟩⟩, ⟨⟨dX0_partOf_8, rfl⟩, rfl⟩, ⟨⟨dX0_partOf_9, rfl⟩, Or.inl ⟨by decide, _, _, fX0_92⟩⟩, ⟨⟨dX0_partOf_12, rfl⟩, rfl⟩, ⟨⟨dX0_partOf_14, rfl⟩, rfl⟩, ⟨⟨dX0_partOf_15, rfl⟩, Or.inr ⟨by decide, ⟨_, my_90, sX0_143⟩, fun q => absurd q (by decide)⟩⟩, ⟨⟨dX0_partOf_18, rfl⟩, Or.inr ⟨by decide, ⟨_, my_92, sX0_148⟩, fun q => absurd q (by decide)⟩⟩, ⟨⟨dX0_partOf_21, rfl⟩, Or.inl ⟨rfl, rfl⟩⟩, trivial⟩, trivial⟩, by decide, Or.inl ⟨rfl, by decide, rfl⟩⟩
set_option maxRecDepth 100000 in
theorem g_X0_partOf_0 (S : sT) (call : cT) (n : Nat) (a0 : Nat) (x1 : Int32) (h : pH) : bd S call dflT E_X0_partOf (n + 1) 0 [some (.ref a0), some (.int x1)] [] h = (gV h (.ref a0) 3 0 (fun w1 => gV h (.ref a0) 3 0 (fun w2 => gI h (.ref a0) 3 7 (fun y3 => rC h w2 12 (cI (call 90 [w2, .int y3, .int 21, .int x1] h) (fun y5 h4 => rC h4 w1 12 (cI (call 92 [w1, .int y5] h4) (fun y7 h6 => some (.inl (some (.int y7)), h6))))))))) := rfl
theorem dX0_firstCharge_0 : decode cX0_firstCharge 0 = .ok (.aload_n 0, 1) := by decide +kernel
theorem dX0_firstCharge_1 : decode cX0_firstCharge 1 = .ok (.invokevirtual 151, 3) := by decide +kernel
theorem dX0_firstCharge_4 : decode cX0_firstCharge 4 = .ok (.aload_n 0, 1) := by decide +kernel
theorem dX0_firstCharge_5 : decode cX0_firstCharge 5 = .ok (.getfield 12, 3) := by decide +kernel
theorem dX0_firstCharge_8 : decode cX0_firstCharge 8 = .ok (.aload_n 0, 1) := by decide +kernel
theorem dX0_firstCharge_9 : decode cX0_firstCharge 9 = .ok (.getfield 92, 3) := by decide +kernel
theorem dX0_firstCharge_12 : decode cX0_firstCharge 12 = .ok (.bipush 22, 2) := by decide +kernel
theorem dX0_firstCharge_14 : decode cX0_firstCharge 14 = .ok (.aload_n 0, 1) := by decide +kernel
theorem dX0_firstCharge_15 : decode cX0_firstCharge 15 = .ok (.getfield 66, 3) := by decide +kernel
theorem dX0_firstCharge_18 : decode cX0_firstCharge 18 = .ok (.invokevirtual 158, 3) := by decide +kernel
theorem dX0_firstCharge_21 : decode cX0_firstCharge 21 = .ok (.ireturn, 1) := by decide +kernel
noncomputable def E_X0_firstCharge : mE := (mX0_firstCharge, [(21, [(0, (.aload_n 0, 1, false, false, 0, 0, 0, 0, 0, 0, [])), (1, (.invokevirtual 151, 4, false, false, 217, 0, 0, 3, 0, 0, [])), (4, (.aload_n 0, 5, false, false, 0, 0, 0, 0, 0, 0, [])), (5, (.getfield 12, 8, false, false, 3, 0, 1, 0, 0, 0, [])), (8, (.aload_n 0, 9, false, false, 0, 0, 0, 0, 0, 0, [])), (9, (.getfield 92, 12, false, false, 3, 7, 0, 0, 0, 0, [])), (12, (.bipush 22, 14, false, false, 0, 0, 0, 0, 22, 0, [])), (14, (.aload_n 0, 15, false, false, 0, 0, 0, 0, 0, 0, [])), (15, (.getfield 66, 18, false, false, 3, 9, 1, 0, 0, 0, [])), (18, (.invokevirtual 158, 21, false, false, 285, 3, 1, 12, 0, 0, [])), (21, (.ireturn, 22, false, false, 0, 0, 0, 0, 0, 0, []))])], 0, [])
set_option maxRecDepth 100000 in
theorem v_X0_firstCharge : VE MYT dflT E_X0_firstCharge := ⟨⟨⟨⟨⟨dX0_firstCharge_0, rfl⟩, rfl⟩, ⟨⟨dX0_firstCharge_1, rfl⟩, Or.inr ⟨by decide, ⟨_, my_217, sX0_151⟩, fun q => absurd q (by decide)⟩⟩, ⟨⟨dX0_firstCharge_4, rfl⟩, rfl⟩, ⟨⟨dX0_firstCharge_5, rfl⟩, Or.inl ⟨by decide, _, _, fX0_12⟩⟩, ⟨⟨dX0_firstCharge_8, rfl⟩, rfl⟩, ⟨⟨dX0_firstCharge_9, rfl⟩, Or.inl ⟨by decide, _, _, fX0_92⟩⟩, ⟨⟨dX0_firstCharge_12, rfl⟩, rfl⟩, ⟨⟨dX0_firstCharge_14, rfl⟩, rfl⟩, ⟨⟨dX0_firstCharge_15, rfl⟩, Or.inl ⟨by decide, _, _, fX0_66⟩⟩, ⟨⟨dX0_firstCharge_18, rfl⟩, Or.inr ⟨by decide, ⟨_, my_285, sX0_158⟩, fun q => absurd q (by decide)⟩⟩, ⟨⟨dX0_firstCharge_21, rfl⟩, Or.inl ⟨rfl, rfl⟩⟩, trivial⟩, trivial⟩, by decide, Or.inl ⟨rfl, by decide, rfl⟩⟩
set_option maxRecDepth 100000 in
theorem g_X0_firstCharge_0 (S : sT) (call : cT) (n : Nat) (a0 : Nat) (h : pH) : bd S call dflT E_X0_firstCharge (n + 1) 0 [some (.ref a0)] [] h = (rC h (.ref a0) 3 (cU (call 217 [.ref a0] h) (fun h1 => gV h1 (.ref a0) 3 0 (fun w2 => gI h1 (.ref a0) 3 7 (fun y3 => gV h1 (.ref a0) 3 9 (fun w4 => rC h1 w2 12 (cI (call 285 [w2, .int y3, .int 22, w4] h1) (fun y6 h5 => some (.inl (some (.int y6)), h5))))))))) := rfl
theorem dX0_payWork_0 : decode cX0_payWork 0 = .ok (.iload_n 2, 1) := by decide +kernel
theorem dX0_payWork_1 : decode cX0_payWork 1 = .ok (.aload_n 0, 1) := by decide +kernel
theorem dX0_payWork_2 : decode cX0_payWork 2 = .ok (.iload_n 1, 1) := by decide +kernel
theorem dX0_payWork_3 : decode cX0_payWork 3 = .ok (.invokevirtual 174, 3) := by decide +kernel
theorem dX0_payWork_6 : decode cX0_payWork 6 = .ok (.imul, 1) := by decide +kernel
theorem dX0_payWork_7 : decode cX0_payWork 7 = .ok (.bipush 100, 2) := by decide +kernel
theorem dX0_payWork_9 : decode cX0_payWork 9 = .ok (.idiv, 1) := by decide +kernel
theorem dX0_payWork_10 : decode cX0_payWork 10 = .ok (.istore_n 3, 1) := by decide +kernel
theorem dX0_payWork_11 : decode cX0_payWork 11 = .ok (.iload_n 2, 1) := by decide +kernel
theorem dX0_payWork_12 : decode cX0_payWork 12 = .ok (.iload_n 3, 1) := by decide +kernel
theorem dX0_payWork_13 : decode cX0_payWork 13 = .ok (.isub, 1) := by decide +kernel
theorem dX0_payWork_14 : decode cX0_payWork 14 = .ok (.istore 4, 2) := by decide +kernel
theorem dX0_payWork_16 : decode cX0_payWork 16 = .ok (.iload_n 3, 1) := by decide +kernel
theorem dX0_payWork_17 : decode cX0_payWork 17 = .ok (.ifCond .le 14, 3) := by decide +kernel
theorem dX0_payWork_20 : decode cX0_payWork 20 = .ok (.aload_n 0, 1) := by decide +kernel
theorem dX0_payWork_21 : decode cX0_payWork 21 = .ok (.getfield 42, 3) := by decide +kernel
theorem dX0_payWork_24 : decode cX0_payWork 24 = .ok (.getfield 177, 3) := by decide +kernel
theorem dX0_payWork_27 : decode cX0_payWork 27 = .ok (.iload_n 3, 1) := by decide +kernel
theorem dX0_payWork_28 : decode cX0_payWork 28 = .ok (.if_icmp .lt 20, 3) := by decide +kernel
theorem dX0_payWork_31 : decode cX0_payWork 31 = .ok (.iload 4, 2) := by decide +kernel
theorem dX0_payWork_33 : decode cX0_payWork 33 = .ok (.ifCond .le 17, 3) := by decide +kernel
theorem dX0_payWork_36 : decode cX0_payWork 36 = .ok (.aload_n 0, 1) := by decide +kernel
theorem dX0_payWork_37 : decode cX0_payWork 37 = .ok (.getfield 42, 3) := by decide +kernel
theorem dX0_payWork_40 : decode cX0_payWork 40 = .ok (.getfield 136, 3) := by decide +kernel
theorem dX0_payWork_43 : decode cX0_payWork 43 = .ok (.iload 4, 2) := by decide +kernel
theorem dX0_payWork_45 : decode cX0_payWork 45 = .ok (.if_icmp .ge 5, 3) := by decide +kernel
theorem dX0_payWork_48 : decode cX0_payWork 48 = .ok (.iconst 0, 1) := by decide +kernel
theorem dX0_payWork_49 : decode cX0_payWork 49 = .ok (.ireturn, 1) := by decide +kernel
theorem dX0_payWork_50 : decode cX0_payWork 50 = .ok (.aload_n 0, 1) := by decide +kernel
theorem dX0_payWork_51 : decode cX0_payWork 51 = .ok (.getfield 42, 3) := by decide +kernel
theorem dX0_payWork_54 : decode cX0_payWork 54 = .ok (.iload_n 3, 1) := by decide +kernel
theorem dX0_payWork_55 : decode cX0_payWork 55 = .ok (.ineg, 1) := by decide +kernel
theorem dX0_payWork_56 : decode cX0_payWork 56 = .ok (.i2l, 1) := by decide +kernel
theorem dX0_payWork_57 : decode cX0_payWork 57 = .ok (.invokevirtual 167, 3) := by decide +kernel
theorem dX0_payWork_60 : decode cX0_payWork 60 = .ok (.aload_n 0, 1) := by decide +kernel
theorem dX0_payWork_61 : decode cX0_payWork 61 = .ok (.getfield 42, 3) := by decide +kernel
theorem dX0_payWork_64 : decode cX0_payWork 64 = .ok (.iload 4, 2) := by decide +kernel
theorem dX0_payWork_66 : decode cX0_payWork 66 = .ok (.ineg, 1) := by decide +kernel
theorem dX0_payWork_67 : decode cX0_payWork 67 = .ok (.i2l, 1) := by decide +kernel
theorem dX0_payWork_68 : decode cX0_payWork 68 = .ok (.invokevirtual 171, 3) := by decide +kernel
theorem dX0_payWork_71 : decode cX0_payWork 71 = .ok (.iconst 1, 1) := by decide +kernel
theorem dX0_payWork_72 : decode cX0_payWork 72 = .ok (.ireturn, 1) := by decide +kernel
noncomputable def E_X0_payWork : mE := (mX0_payWork, [(40, [(0, (.iload_n 2, 1, false, false, 2, 0, 0, 0, 0, 0, [])), (1, (.aload_n 0, 2, false, false, 0, 0, 0, 0, 0, 0, [])), (2, (.iload_n 1, 3, false, false, 1, 0, 0, 0, 0, 0, [])), (3, (.invokevirtual 174, 6, false, false, 288, 1, 1, 3, 0, 0, [])), (6, (.imul, 7, false, false, 0, 0, 0, 0, 0, 0, [])), (7, (.bipush 100, 9, false, false, 0, 0, 0, 0, 100, 0, [])), (9, (.idiv, 10, false, false, 0, 0, 0, 0, 0, 0, [])), (10, (.istore_n 3, 11, false, false, 3, 0, 0, 0, 0, 0, [])), (11, (.iload_n 2, 12, false, false, 2, 0, 0, 0, 0, 0, [])), (12, (.iload_n 3, 13, false, false, 3, 0, 0, 0, 0, 0, [])), (13, (.isub, 14, false, false, 0, 0, 0, 0, 0, 0, [])), (14, (.istore 4, 16, false, false, 4, 0, 0, 0, 0, 0, [])), (16, (.iload_n 3, 17, false, false, 3, 0, 0, 0, 0, 0, [])), (17, (.ifCond .le 14, 20, false, true, 31, 0, 0, 0, 0, 0, [])), (20, (.aload_n 0, 21, false, false, 0, 0, 0, 0, 0, 0, [])), (21, (.getfield 42, 24, false, false, 3, 4, 1, 0, 0, 0, [])), (24, (.getfield 177, 27, false, false, 6, 1, 0, 0, 0, 0, [])), (27, (.iload_n 3, 28, false, false, 3, 0, 0, 0, 0, 0, [])), (28, (.if_icmp .lt 20, 31, true, false, 48, 0, 0, 0, 0, 0, [])), (31, (.iload 4, 33, false, false, 4, 0, 0, 0, 0, 0, [])), (33, (.ifCond .le 17, 36, false, false, 50, 0, 0, 0, 0, 0, [])), (36, (.aload_n 0, 37, false, false, 0, 0, 0, 0, 0, 0, [])), (37, (.getfield 42, 40, false, false, 3, 4, 1, 0, 0, 0, [])), (40, (.getfield 136, 43, false, false, 6, 0, 0, 0, 0, 0, []))]),
  (72, [(43, (.iload 4, 45, false, false, 4, 0, 0, 0, 0, 0, [])), (45, (.if_icmp .ge 5, 48, false, false, 50, 0, 0, 0, 0, 0, [])), (48, (.iconst 0, 49, false, false, 0, 0, 0, 0, 0, 0, [])), (49, (.ireturn, 50, false, false, 0, 0, 1, 0, 0, 0, [])), (50, (.aload_n 0, 51, false, false, 0, 0, 0, 0, 0, 0, [])), (51, (.getfield 42, 54, false, false, 3, 4, 1, 0, 0, 0, [])), (54, (.iload_n 3, 55, false, false, 3, 0, 0, 0, 0, 0, [])), (55, (.ineg, 56, false, false, 0, 0, 0, 0, 0, 0, [])), (56, (.i2l, 57, false, false, 0, 0, 0, 0, 0, 0, [])), (57, (.invokevirtual 167, 60, false, false, 211, 1, 0, 6, 0, 0, [])), (60, (.aload_n 0, 61, false, false, 0, 0, 0, 0, 0, 0, [])), (61, (.getfield 42, 64, false, false, 3, 4, 1, 0, 0, 0, [])), (64, (.iload 4, 66, false, false, 4, 0, 0, 0, 0, 0, [])), (66, (.ineg, 67, false, false, 0, 0, 0, 0, 0, 0, [])), (67, (.i2l, 68, false, false, 0, 0, 0, 0, 0, 0, [])), (68, (.invokevirtual 171, 71, false, false, 191, 1, 0, 6, 0, 0, [])), (71, (.iconst 1, 72, false, false, 0, 0, 0, 0, 1, 0, [])), (72, (.ireturn, 73, false, false, 0, 0, 1, 0, 0, 0, []))])], 0, [])
set_option maxRecDepth 100000 in
theorem v_X0_payWork : VE MYT dflT E_X0_payWork := ⟨⟨⟨⟨⟨dX0_payWork_0, rfl⟩, rfl⟩, ⟨⟨dX0_payWork_1, rfl⟩, rfl⟩, ⟨⟨dX0_payWork_2, rfl⟩, rfl⟩, ⟨⟨dX0_payWork_3, rfl⟩, Or.inr ⟨by decide, ⟨_, my_288, sX0_174⟩, fun q => absurd q (by decide)⟩⟩, ⟨⟨dX0_payWork_6, rfl⟩, trivial⟩, ⟨⟨dX0_payWork_7, rfl⟩, rfl⟩, ⟨⟨dX0_payWork_9, rfl⟩, trivial⟩, ⟨⟨dX0_payWork_10, rfl⟩, rfl⟩, ⟨⟨dX0_payWork_11, rfl⟩, rfl⟩, ⟨⟨dX0_payWork_12, rfl⟩, rfl⟩, ⟨⟨dX0_payWork_13, rfl⟩, trivial⟩, ⟨⟨dX0_payWork_14, rfl⟩, rfl⟩, ⟨⟨dX0_payWork_16, rfl⟩, rfl⟩, ⟨⟨dX0_payWork_17, rfl⟩, rfl⟩, ⟨⟨dX0_payWork_20, rfl⟩, rfl⟩, ⟨⟨dX0_payWork_21, rfl⟩, Or.inl ⟨by decide, _, _, fX0_42⟩⟩, ⟨⟨dX0_payWork_24, rfl⟩, Or.inl ⟨by decide, _, _, fX0_177⟩⟩, ⟨⟨dX0_payWork_27, rfl⟩, rfl⟩, ⟨⟨dX0_payWork_28, rfl⟩, rfl⟩, ⟨⟨dX0_payWork_31, rfl⟩, rfl⟩, ⟨⟨dX0_payWork_33, rfl⟩, rfl⟩, ⟨⟨dX0_payWork_36, rfl⟩, rfl⟩, ⟨⟨dX0_payWork_37, rfl⟩, Or.inl ⟨by decide, _, _, fX0_42⟩⟩, ⟨⟨dX0_payWork_40, rfl⟩, Or.inl ⟨by decide, _, _, fX0_136⟩⟩, trivial⟩,
  ⟨⟨⟨dX0_payWork_43, rfl⟩, rfl⟩, ⟨⟨dX0_payWork_45, rfl⟩, rfl⟩, ⟨⟨dX0_payWork_48, rfl⟩, rfl⟩, ⟨⟨dX0_payWork_49, rfl⟩, Or.inr (Or.inl ⟨rfl, rfl⟩)⟩, ⟨⟨dX0_payWork_50, rfl⟩, rfl⟩, ⟨⟨dX0_payWork_51, rfl⟩, Or.inl ⟨by decide, _, _, fX0_42⟩⟩, ⟨⟨dX0_payWork_54, rfl⟩, rfl⟩, ⟨⟨dX0_payWork_55, rfl⟩, trivial⟩, ⟨⟨dX0_payWork_56, rfl⟩, trivial⟩, ⟨⟨dX0_payWork_57, rfl⟩, Or.inr ⟨by decide, ⟨_, my_211, sX0_167⟩, fun q => absurd q (by decide)⟩⟩, ⟨⟨dX0_payWork_60, rfl⟩, rfl⟩, ⟨⟨dX0_payWork_61, rfl⟩, Or.inl ⟨by decide, _, _, fX0_42⟩⟩, ⟨⟨dX0_payWork_64, rfl⟩, rfl⟩, ⟨⟨dX0_payWork_66, rfl⟩, trivial⟩, ⟨⟨dX0_payWork_67, rfl⟩, trivial⟩, ⟨⟨dX0_payWork_68, rfl⟩, Or.inr ⟨by decide, ⟨_, my_191, sX0_171⟩, fun q => absurd q (by decide)⟩⟩, ⟨⟨dX0_payWork_71, rfl⟩, rfl⟩, ⟨⟨dX0_payWork_72, rfl⟩, Or.inr (Or.inl ⟨rfl, rfl⟩)⟩, trivial⟩, trivial⟩, by decide, Or.inl ⟨rfl, by decide, rfl⟩⟩
set_option maxRecDepth 100000 in
theorem g_X0_payWork_0 (S : sT) (call : cT) (n : Nat) (a0 : Nat) (x1 : Int32) (x2 : Int32) (h : pH) : bd S call dflT E_X0_payWork (n + 1) 0 [some (.ref a0), some (.int x1), some (.int x2), none, none] [] h = (rC h (.ref a0) 3 (cI (call 288 [.ref a0, .int x1] h) (fun y2 h1 => dv 100 ((if ((x2 * y2) / 100) ≤ 0 then bd S call dflT E_X0_payWork n 31 [some (.ref a0), some (.int x1), some (.int x2), some (.int ((x2 * y2) / 100)), some (.int (x2 - ((x2 * y2) / 100)))] [] h1 else gV h1 (.ref a0) 3 4 (fun w3 => gI h1 w3 6 1 (fun y4 => (if y4 < ((x2 * y2) / 100) then zR 0 (some (.inl (some (.int 0)), h1)) else bd S call dflT E_X0_payWork n 31 [some (.ref a0), some (.int x1), some (.int x2), some (.int ((x2 * y2) / 100)), some (.int (x2 - ((x2 * y2) / 100)))] [] h1)))))))) := rfl
set_option maxRecDepth 100000 in
theorem g_X0_payWork_31 (S : sT) (call : cT) (n : Nat) (a0 : Nat) (x1 : Int32) (x2 : Int32) (x3 : Int32) (x4 : Int32) (h : pH) : bd S call dflT E_X0_payWork (n + 1) 31 [some (.ref a0), some (.int x1), some (.int x2), some (.int x3), some (.int x4)] [] h = ((if x4 ≤ 0 then gV h (.ref a0) 3 4 (fun w1 => rC h w1 6 (cU (call 211 [w1, .long (-x3).toInt64] h) (fun h2 => gV h2 (.ref a0) 3 4 (fun w3 => rC h2 w3 6 (cU (call 191 [w3, .long (-x4).toInt64] h2) (fun h4 => zR 1 (some (.inl (some (.int 1)), h4)))))))) else gV h (.ref a0) 3 4 (fun w5 => gI h w5 6 0 (fun y6 => (if x4 ≤ y6 then gV h (.ref a0) 3 4 (fun w7 => rC h w7 6 (cU (call 211 [w7, .long (-x3).toInt64] h) (fun h8 => gV h8 (.ref a0) 3 4 (fun w9 => rC h8 w9 6 (cU (call 191 [w9, .long (-x4).toInt64] h8) (fun h10 => zR 1 (some (.inl (some (.int 1)), h10)))))))) else zR 0 (some (.inl (some (.int 0)), h))))))) := rfl
theorem dX0_isIn_0 : decode cX0_isIn 0 = .ok (.iload_n 0, 1) := by decide +kernel
theorem dX0_isIn_1 : decode cX0_isIn 1 = .ok (.iload_n 1, 1) := by decide +kernel
theorem dX0_isIn_2 : decode cX0_isIn 2 = .ok (.isub, 1) := by decide +kernel
theorem dX0_isIn_3 : decode cX0_isIn 3 = .ok (.istore_n 3, 1) := by decide +kernel
theorem dX0_isIn_4 : decode cX0_isIn 4 = .ok (.iload_n 3, 1) := by decide +kernel
theorem dX0_isIn_5 : decode cX0_isIn 5 = .ok (.ifCond .lt 21, 3) := by decide +kernel
theorem dX0_isIn_8 : decode cX0_isIn 8 = .ok (.iload_n 3, 1) := by decide +kernel
theorem dX0_isIn_9 : decode cX0_isIn 9 = .ok (.bipush 8, 2) := by decide +kernel
theorem dX0_isIn_11 : decode cX0_isIn 11 = .ok (.if_icmp .ge 15, 3) := by decide +kernel
theorem dX0_isIn_14 : decode cX0_isIn 14 = .ok (.iload_n 2, 1) := by decide +kernel
theorem dX0_isIn_15 : decode cX0_isIn 15 = .ok (.iload_n 3, 1) := by decide +kernel
theorem dX0_isIn_16 : decode cX0_isIn 16 = .ok (.ishr, 1) := by decide +kernel
theorem dX0_isIn_17 : decode cX0_isIn 17 = .ok (.iconst 1, 1) := by decide +kernel
theorem dX0_isIn_18 : decode cX0_isIn 18 = .ok (.iand, 1) := by decide +kernel
theorem dX0_isIn_19 : decode cX0_isIn 19 = .ok (.ifCond .eq 7, 3) := by decide +kernel
theorem dX0_isIn_22 : decode cX0_isIn 22 = .ok (.iconst 1, 1) := by decide +kernel
theorem dX0_isIn_23 : decode cX0_isIn 23 = .ok (.goto 4, 3) := by decide +kernel
theorem dX0_isIn_26 : decode cX0_isIn 26 = .ok (.iconst 0, 1) := by decide +kernel
theorem dX0_isIn_27 : decode cX0_isIn 27 = .ok (.ireturn, 1) := by decide +kernel
noncomputable def E_X0_isIn : mE := (mX0_isIn, [(27, [(0, (.iload_n 0, 1, false, false, 0, 0, 0, 0, 0, 0, [])), (1, (.iload_n 1, 2, false, false, 1, 0, 0, 0, 0, 0, [])), (2, (.isub, 3, false, false, 0, 0, 0, 0, 0, 0, [])), (3, (.istore_n 3, 4, false, false, 3, 0, 0, 0, 0, 0, [])), (4, (.iload_n 3, 5, false, false, 3, 0, 0, 0, 0, 0, [])), (5, (.ifCond .lt 21, 8, false, false, 26, 0, 0, 0, 0, 0, [])), (8, (.iload_n 3, 9, false, false, 3, 0, 0, 0, 0, 0, [])), (9, (.bipush 8, 11, false, false, 0, 0, 0, 0, 8, 0, [])), (11, (.if_icmp .ge 15, 14, false, false, 26, 0, 0, 0, 0, 0, [])), (14, (.iload_n 2, 15, false, false, 2, 0, 0, 0, 0, 0, [])), (15, (.iload_n 3, 16, false, false, 3, 0, 0, 0, 0, 0, [])), (16, (.ishr, 17, false, false, 0, 0, 0, 0, 0, 0, [])), (17, (.iconst 1, 18, false, false, 0, 0, 0, 0, 1, 0, [])), (18, (.iand, 19, false, false, 0, 0, 0, 0, 0, 0, [])), (19, (.ifCond .eq 7, 22, false, false, 26, 0, 0, 0, 0, 0, [])), (22, (.iconst 1, 23, false, false, 0, 0, 0, 0, 1, 0, [])), (23, (.goto 4, 26, false, false, 27, 0, 0, 0, 0, 0, [])), (26, (.iconst 0, 27, false, false, 0, 0, 0, 0, 0, 0, [])), (27, (.ireturn, 28, false, false, 0, 0, 1, 0, 0, 0, []))])], 0, [])
set_option maxRecDepth 100000 in
theorem v_X0_isIn : VE MYT dflT E_X0_isIn := ⟨⟨⟨⟨⟨dX0_isIn_0, rfl⟩, rfl⟩, ⟨⟨dX0_isIn_1, rfl⟩, rfl⟩, ⟨⟨dX0_isIn_2, rfl⟩, trivial⟩, ⟨⟨dX0_isIn_3, rfl⟩, rfl⟩, ⟨⟨dX0_isIn_4, rfl⟩, rfl⟩, ⟨⟨dX0_isIn_5, rfl⟩, rfl⟩, ⟨⟨dX0_isIn_8, rfl⟩, rfl⟩, ⟨⟨dX0_isIn_9, rfl⟩, rfl⟩, ⟨⟨dX0_isIn_11, rfl⟩, rfl⟩, ⟨⟨dX0_isIn_14, rfl⟩, rfl⟩, ⟨⟨dX0_isIn_15, rfl⟩, rfl⟩, ⟨⟨dX0_isIn_16, rfl⟩, trivial⟩, ⟨⟨dX0_isIn_17, rfl⟩, rfl⟩, ⟨⟨dX0_isIn_18, rfl⟩, trivial⟩, ⟨⟨dX0_isIn_19, rfl⟩, rfl⟩, ⟨⟨dX0_isIn_22, rfl⟩, rfl⟩, ⟨⟨dX0_isIn_23, rfl⟩, rfl⟩, ⟨⟨dX0_isIn_26, rfl⟩, rfl⟩, ⟨⟨dX0_isIn_27, rfl⟩, Or.inr (Or.inl ⟨rfl, rfl⟩)⟩, trivial⟩, trivial⟩, by decide, Or.inl ⟨rfl, by decide, rfl⟩⟩
set_option maxRecDepth 100000 in
theorem g_X0_isIn_0 (S : sT) (call : cT) (n : Nat) (x0 : Int32) (x1 : Int32) (x2 : Int32) (h : pH) : bd S call dflT E_X0_isIn (n + 1) 0 [some (.int x0), some (.int x1), some (.int x2), none] [] h = ((if (x0 - x1) < 0 then zR 0 (some (.inl (some (.int 0)), h)) else (if 8 ≤ (x0 - x1) then zR 0 (some (.inl (some (.int 0)), h)) else (if ((x2 >>> ((x0 - x1) &&& 31)) &&& 1) = 0 then zR 0 (some (.inl (some (.int 0)), h)) else zR 1 (some (.inl (some (.int 1)), h)))))) := rfl
theorem dX0_worthTogether_0 : decode cX0_worthTogether 0 = .ok (.iconst 0, 1) := by decide +kernel
theorem dX0_worthTogether_1 : decode cX0_worthTogether 1 = .ok (.istore_n 3, 1) := by decide +kernel
theorem dX0_worthTogether_2 : decode cX0_worthTogether 2 = .ok (.iload_n 1, 1) := by decide +kernel
theorem dX0_worthTogether_3 : decode cX0_worthTogether 3 = .ok (.istore 4, 2) := by decide +kernel
theorem dX0_worthTogether_5 : decode cX0_worthTogether 5 = .ok (.iload 4, 2) := by decide +kernel
theorem dX0_worthTogether_7 : decode cX0_worthTogether 7 = .ok (.iload_n 1, 1) := by decide +kernel
theorem dX0_worthTogether_8 : decode cX0_worthTogether 8 = .ok (.bipush 8, 2) := by decide +kernel
theorem dX0_worthTogether_10 : decode cX0_worthTogether 10 = .ok (.iadd, 1) := by decide +kernel
theorem dX0_worthTogether_11 : decode cX0_worthTogether 11 = .ok (.if_icmp .ge 42, 3) := by decide +kernel
theorem dX0_worthTogether_14 : decode cX0_worthTogether 14 = .ok (.iload 4, 2) := by decide +kernel
theorem dX0_worthTogether_16 : decode cX0_worthTogether 16 = .ok (.bipush 48, 2) := by decide +kernel
theorem dX0_worthTogether_18 : decode cX0_worthTogether 18 = .ok (.if_icmp .ge 35, 3) := by decide +kernel
theorem dX0_worthTogether_21 : decode cX0_worthTogether 21 = .ok (.iload_n 3, 1) := by decide +kernel
theorem dX0_worthTogether_22 : decode cX0_worthTogether 22 = .ok (.iload 4, 2) := by decide +kernel
theorem dX0_worthTogether_24 : decode cX0_worthTogether 24 = .ok (.iload_n 1, 1) := by decide +kernel
theorem dX0_worthTogether_25 : decode cX0_worthTogether 25 = .ok (.iload_n 2, 1) := by decide +kernel
theorem dX0_worthTogether_26 : decode cX0_worthTogether 26 = .ok (.invokestatic 219, 3) := by decide +kernel
theorem dX0_worthTogether_29 : decode cX0_worthTogether 29 = .ok (.ifCond .eq 15, 3) := by decide +kernel
theorem dX0_worthTogether_32 : decode cX0_worthTogether 32 = .ok (.aload_n 0, 1) := by decide +kernel
theorem dX0_worthTogether_33 : decode cX0_worthTogether 33 = .ok (.getfield 21, 3) := by decide +kernel
theorem dX0_worthTogether_36 : decode cX0_worthTogether 36 = .ok (.iload 4, 2) := by decide +kernel
theorem dX0_worthTogether_38 : decode cX0_worthTogether 38 = .ok (.invokevirtual 222, 3) := by decide +kernel
theorem dX0_worthTogether_41 : decode cX0_worthTogether 41 = .ok (.goto 4, 3) := by decide +kernel
theorem dX0_worthTogether_44 : decode cX0_worthTogether 44 = .ok (.iconst 0, 1) := by decide +kernel
theorem dX0_worthTogether_45 : decode cX0_worthTogether 45 = .ok (.iadd, 1) := by decide +kernel
theorem dX0_worthTogether_46 : decode cX0_worthTogether 46 = .ok (.istore_n 3, 1) := by decide +kernel
theorem dX0_worthTogether_47 : decode cX0_worthTogether 47 = .ok (.iinc 4 1, 3) := by decide +kernel
theorem dX0_worthTogether_50 : decode cX0_worthTogether 50 = .ok (.goto (-45), 3) := by decide +kernel
theorem dX0_worthTogether_53 : decode cX0_worthTogether 53 = .ok (.iload_n 3, 1) := by decide +kernel
theorem dX0_worthTogether_54 : decode cX0_worthTogether 54 = .ok (.ireturn, 1) := by decide +kernel
noncomputable def E_X0_worthTogether : mE := (mX0_worthTogether, [(44, [(0, (.iconst 0, 1, false, false, 0, 0, 0, 0, 0, 0, [])), (1, (.istore_n 3, 2, false, false, 3, 0, 0, 0, 0, 0, [])), (2, (.iload_n 1, 3, false, false, 1, 0, 0, 0, 0, 0, [])), (3, (.istore 4, 5, true, false, 4, 0, 0, 0, 0, 0, [])), (5, (.iload 4, 7, false, false, 4, 0, 0, 0, 0, 0, [])), (7, (.iload_n 1, 8, false, false, 1, 0, 0, 0, 0, 0, [])), (8, (.bipush 8, 10, false, false, 0, 0, 0, 0, 8, 0, [])), (10, (.iadd, 11, false, false, 0, 0, 0, 0, 0, 0, [])), (11, (.if_icmp .ge 42, 14, false, false, 53, 0, 0, 0, 0, 0, [])), (14, (.iload 4, 16, false, false, 4, 0, 0, 0, 0, 0, [])), (16, (.bipush 48, 18, false, false, 0, 0, 0, 0, 48, 0, [])), (18, (.if_icmp .ge 35, 21, false, false, 53, 0, 0, 0, 0, 0, [])), (21, (.iload_n 3, 22, false, false, 3, 0, 0, 0, 0, 0, [])), (22, (.iload 4, 24, false, false, 4, 0, 0, 0, 0, 0, [])), (24, (.iload_n 1, 25, false, false, 1, 0, 0, 0, 0, 0, [])), (25, (.iload_n 2, 26, false, false, 2, 0, 0, 0, 0, 0, [])), (26, (.invokestatic 219, 29, false, false, 346, 3, 1, 0, 0, 0, [])), (29, (.ifCond .eq 15, 32, false, false, 44, 0, 0, 0, 0, 0, [])), (32, (.aload_n 0, 33, false, false, 0, 0, 0, 0, 0, 0, [])), (33, (.getfield 21, 36, false, false, 3, 1, 1, 0, 0, 0, [])), (36, (.iload 4, 38, false, false, 4, 0, 0, 0, 0, 0, [])), (38, (.invokevirtual 222, 41, false, false, 259, 1, 1, 5, 0, 0, [])), (41, (.goto 4, 44, false, false, 45, 0, 0, 0, 0, 0, [])), (44, (.iconst 0, 45, false, false, 0, 0, 0, 0, 0, 0, []))]),
  (54, [(45, (.iadd, 46, false, false, 0, 0, 0, 0, 0, 0, [])), (46, (.istore_n 3, 47, false, false, 3, 0, 0, 0, 0, 0, [])), (47, (.iinc 4 1, 50, false, false, 4, 0, 0, 0, 1, 0, [])), (50, (.goto (-45), 53, false, true, 5, 0, 0, 0, 0, 0, [])), (53, (.iload_n 3, 54, false, false, 3, 0, 0, 0, 0, 0, [])), (54, (.ireturn, 55, false, false, 0, 0, 0, 0, 0, 0, []))])], 0, [])
set_option maxRecDepth 100000 in
theorem v_X0_worthTogether : VE MYT dflT E_X0_worthTogether := ⟨⟨⟨⟨⟨dX0_worthTogether_0, rfl⟩, rfl⟩, ⟨⟨dX0_worthTogether_1, rfl⟩, rfl⟩, ⟨⟨dX0_worthTogether_2, rfl⟩, rfl⟩, ⟨⟨dX0_worthTogether_3, rfl⟩, rfl⟩, ⟨⟨dX0_worthTogether_5, rfl⟩, rfl⟩, ⟨⟨dX0_worthTogether_7, rfl⟩, rfl⟩, ⟨⟨dX0_worthTogether_8, rfl⟩, rfl⟩, ⟨⟨dX0_worthTogether_10, rfl⟩, trivial⟩, ⟨⟨dX0_worthTogether_11, rfl⟩, rfl⟩, ⟨⟨dX0_worthTogether_14, rfl⟩, rfl⟩, ⟨⟨dX0_worthTogether_16, rfl⟩, rfl⟩, ⟨⟨dX0_worthTogether_18, rfl⟩, rfl⟩, ⟨⟨dX0_worthTogether_21, rfl⟩, rfl⟩, ⟨⟨dX0_worthTogether_22, rfl⟩, rfl⟩, ⟨⟨dX0_worthTogether_24, rfl⟩, rfl⟩, ⟨⟨dX0_worthTogether_25, rfl⟩, rfl⟩, ⟨⟨dX0_worthTogether_26, rfl⟩, Or.inl ⟨rfl, _, my_346, sX0_219⟩⟩, ⟨⟨dX0_worthTogether_29, rfl⟩, rfl⟩, ⟨⟨dX0_worthTogether_32, rfl⟩, rfl⟩, ⟨⟨dX0_worthTogether_33, rfl⟩, Or.inl ⟨by decide, _, _, fX0_21⟩⟩, ⟨⟨dX0_worthTogether_36, rfl⟩, rfl⟩, ⟨⟨dX0_worthTogether_38, rfl⟩, Or.inr ⟨by decide, ⟨_, my_259, sX0_222⟩, fun q => absurd q (by decide)⟩⟩, ⟨⟨dX0_worthTogether_41, rfl⟩, rfl⟩, ⟨⟨dX0_worthTogether_44, rfl⟩, rfl⟩, trivial⟩,
  ⟨⟨⟨dX0_worthTogether_45, rfl⟩, trivial⟩, ⟨⟨dX0_worthTogether_46, rfl⟩, rfl⟩, ⟨⟨dX0_worthTogether_47, rfl⟩, ⟨rfl, rfl⟩⟩, ⟨⟨dX0_worthTogether_50, rfl⟩, rfl⟩, ⟨⟨dX0_worthTogether_53, rfl⟩, rfl⟩, ⟨⟨dX0_worthTogether_54, rfl⟩, Or.inl ⟨rfl, rfl⟩⟩, trivial⟩, trivial⟩, by decide, Or.inl ⟨rfl, by decide, rfl⟩⟩
set_option maxRecDepth 100000 in
theorem g_X0_worthTogether_0 (S : sT) (call : cT) (n : Nat) (a0 : Nat) (x1 : Int32) (x2 : Int32) (h : pH) : bd S call dflT E_X0_worthTogether (n + 1) 0 [some (.ref a0), some (.int x1), some (.int x2), none, none] [] h = (bd S call dflT E_X0_worthTogether n 5 [some (.ref a0), some (.int x1), some (.int x2), some (.int 0), some (.int x1)] [] h) := rfl
set_option maxRecDepth 100000 in
theorem g_X0_worthTogether_5 (S : sT) (call : cT) (n : Nat) (a0 : Nat) (x1 : Int32) (x2 : Int32) (x3 : Int32) (x4 : Int32) (h : pH) : bd S call dflT E_X0_worthTogether (n + 1) 5 [some (.ref a0), some (.int x1), some (.int x2), some (.int x3), some (.int x4)] [] h = ((if (x1 + 8) ≤ x4 then some (.inl (some (.int x3)), h) else (if 48 ≤ x4 then some (.inl (some (.int x3)), h) else cI (call 346 [.int x4, .int x1, .int x2] h) (fun y2 h1 => (if y2 = 0 then bd S call dflT E_X0_worthTogether n 5 [some (.ref a0), some (.int x1), some (.int x2), some (.int (x3 + 0)), some (.int (x4 + 1))] [] h1 else gV h1 (.ref a0) 3 1 (fun w3 => rC h1 w3 5 (cI (call 259 [w3, .int x4] h1) (fun y5 h4 => bd S call dflT E_X0_worthTogether n 5 [some (.ref a0), some (.int x1), some (.int x2), some (.int (x3 + y5)), some (.int (x4 + 1))] [] h4)))))))) := rfl
theorem dX0_partedPairs_0 : decode cX0_partedPairs 0 = .ok (.iconst 0, 1) := by decide +kernel
theorem dX0_partedPairs_1 : decode cX0_partedPairs 1 = .ok (.istore_n 3, 1) := by decide +kernel
theorem dX0_partedPairs_2 : decode cX0_partedPairs 2 = .ok (.iload_n 1, 1) := by decide +kernel
theorem dX0_partedPairs_3 : decode cX0_partedPairs 3 = .ok (.istore 4, 2) := by decide +kernel
theorem dX0_partedPairs_5 : decode cX0_partedPairs 5 = .ok (.iload 4, 2) := by decide +kernel
theorem dX0_partedPairs_7 : decode cX0_partedPairs 7 = .ok (.iload_n 1, 1) := by decide +kernel
theorem dX0_partedPairs_8 : decode cX0_partedPairs 8 = .ok (.bipush 8, 2) := by decide +kernel
theorem dX0_partedPairs_10 : decode cX0_partedPairs 10 = .ok (.iadd, 1) := by decide +kernel
theorem dX0_partedPairs_11 : decode cX0_partedPairs 11 = .ok (.if_icmp .ge 81, 3) := by decide +kernel
theorem dX0_partedPairs_14 : decode cX0_partedPairs 14 = .ok (.iload 4, 2) := by decide +kernel
theorem dX0_partedPairs_16 : decode cX0_partedPairs 16 = .ok (.bipush 48, 2) := by decide +kernel
theorem dX0_partedPairs_18 : decode cX0_partedPairs 18 = .ok (.if_icmp .ge 74, 3) := by decide +kernel
theorem dX0_partedPairs_21 : decode cX0_partedPairs 21 = .ok (.iconst 0, 1) := by decide +kernel
theorem dX0_partedPairs_22 : decode cX0_partedPairs 22 = .ok (.istore 5, 2) := by decide +kernel
theorem dX0_partedPairs_24 : decode cX0_partedPairs 24 = .ok (.iload 5, 2) := by decide +kernel
theorem dX0_partedPairs_26 : decode cX0_partedPairs 26 = .ok (.iconst 4, 1) := by decide +kernel
theorem dX0_partedPairs_27 : decode cX0_partedPairs 27 = .ok (.if_icmp .ge 59, 3) := by decide +kernel
theorem dX0_partedPairs_30 : decode cX0_partedPairs 30 = .ok (.iload 4, 2) := by decide +kernel
theorem dX0_partedPairs_32 : decode cX0_partedPairs 32 = .ok (.iload_n 1, 1) := by decide +kernel
theorem dX0_partedPairs_33 : decode cX0_partedPairs 33 = .ok (.iload_n 2, 1) := by decide +kernel
theorem dX0_partedPairs_34 : decode cX0_partedPairs 34 = .ok (.invokestatic 219, 3) := by decide +kernel
theorem dX0_partedPairs_37 : decode cX0_partedPairs 37 = .ok (.ifCond .eq 49, 3) := by decide +kernel
theorem dX0_partedPairs_40 : decode cX0_partedPairs 40 = .ok (.iload 4, 2) := by decide +kernel
theorem dX0_partedPairs_42 : decode cX0_partedPairs 42 = .ok (.iload 5, 2) := by decide +kernel
theorem dX0_partedPairs_44 : decode cX0_partedPairs 44 = .ok (.invokestatic 225, 3) := by decide +kernel
theorem dX0_partedPairs_47 : decode cX0_partedPairs 47 = .ok (.istore 6, 2) := by decide +kernel
theorem dX0_partedPairs_49 : decode cX0_partedPairs 49 = .ok (.iload 6, 2) := by decide +kernel
theorem dX0_partedPairs_51 : decode cX0_partedPairs 51 = .ok (.iconst (-1), 1) := by decide +kernel
theorem dX0_partedPairs_52 : decode cX0_partedPairs 52 = .ok (.if_icmp .eq 28, 3) := by decide +kernel
theorem dX0_partedPairs_55 : decode cX0_partedPairs 55 = .ok (.aload_n 0, 1) := by decide +kernel
theorem dX0_partedPairs_56 : decode cX0_partedPairs 56 = .ok (.getfield 21, 3) := by decide +kernel
theorem dX0_partedPairs_59 : decode cX0_partedPairs 59 = .ok (.iload 6, 2) := by decide +kernel
theorem dX0_partedPairs_61 : decode cX0_partedPairs 61 = .ok (.invokevirtual 108, 3) := by decide +kernel
theorem dX0_partedPairs_64 : decode cX0_partedPairs 64 = .ok (.ifCond .ne 16, 3) := by decide +kernel
theorem dX0_partedPairs_67 : decode cX0_partedPairs 67 = .ok (.iload 6, 2) := by decide +kernel
theorem dX0_partedPairs_69 : decode cX0_partedPairs 69 = .ok (.iload_n 1, 1) := by decide +kernel
theorem dX0_partedPairs_70 : decode cX0_partedPairs 70 = .ok (.iload_n 2, 1) := by decide +kernel
theorem dX0_partedPairs_71 : decode cX0_partedPairs 71 = .ok (.invokestatic 219, 3) := by decide +kernel
theorem dX0_partedPairs_74 : decode cX0_partedPairs 74 = .ok (.ifCond .ne 6, 3) := by decide +kernel
theorem dX0_partedPairs_77 : decode cX0_partedPairs 77 = .ok (.iinc 3 1, 3) := by decide +kernel
theorem dX0_partedPairs_80 : decode cX0_partedPairs 80 = .ok (.iinc 5 1, 3) := by decide +kernel
theorem dX0_partedPairs_83 : decode cX0_partedPairs 83 = .ok (.goto (-59), 3) := by decide +kernel
theorem dX0_partedPairs_86 : decode cX0_partedPairs 86 = .ok (.iinc 4 1, 3) := by decide +kernel
theorem dX0_partedPairs_89 : decode cX0_partedPairs 89 = .ok (.goto (-84), 3) := by decide +kernel
theorem dX0_partedPairs_92 : decode cX0_partedPairs 92 = .ok (.iload_n 3, 1) := by decide +kernel
theorem dX0_partedPairs_93 : decode cX0_partedPairs 93 = .ok (.ireturn, 1) := by decide +kernel
noncomputable def E_X0_partedPairs : mE := (mX0_partedPairs, [(42, [(0, (.iconst 0, 1, false, false, 0, 0, 0, 0, 0, 0, [])), (1, (.istore_n 3, 2, false, false, 3, 0, 0, 0, 0, 0, [])), (2, (.iload_n 1, 3, false, false, 1, 0, 0, 0, 0, 0, [])), (3, (.istore 4, 5, true, false, 4, 0, 0, 0, 0, 0, [])), (5, (.iload 4, 7, false, false, 4, 0, 0, 0, 0, 0, [])), (7, (.iload_n 1, 8, false, false, 1, 0, 0, 0, 0, 0, [])), (8, (.bipush 8, 10, false, false, 0, 0, 0, 0, 8, 0, [])), (10, (.iadd, 11, false, false, 0, 0, 0, 0, 0, 0, [])), (11, (.if_icmp .ge 81, 14, false, false, 92, 0, 0, 0, 0, 0, [])), (14, (.iload 4, 16, false, false, 4, 0, 0, 0, 0, 0, [])), (16, (.bipush 48, 18, false, false, 0, 0, 0, 0, 48, 0, [])), (18, (.if_icmp .ge 74, 21, false, false, 92, 0, 0, 0, 0, 0, [])), (21, (.iconst 0, 22, false, false, 0, 0, 0, 0, 0, 0, [])), (22, (.istore 5, 24, true, false, 5, 0, 0, 0, 0, 0, [])), (24, (.iload 5, 26, false, false, 5, 0, 0, 0, 0, 0, [])), (26, (.iconst 4, 27, false, false, 0, 0, 0, 0, 4, 0, [])), (27, (.if_icmp .ge 59, 30, false, false, 86, 0, 0, 0, 0, 0, [])), (30, (.iload 4, 32, false, false, 4, 0, 0, 0, 0, 0, [])), (32, (.iload_n 1, 33, false, false, 1, 0, 0, 0, 0, 0, [])), (33, (.iload_n 2, 34, false, false, 2, 0, 0, 0, 0, 0, [])), (34, (.invokestatic 219, 37, false, false, 346, 3, 1, 0, 0, 0, [])), (37, (.ifCond .eq 49, 40, false, false, 86, 0, 0, 0, 0, 0, [])), (40, (.iload 4, 42, false, false, 4, 0, 0, 0, 0, 0, [])), (42, (.iload 5, 44, false, false, 5, 0, 0, 0, 0, 0, []))]),
  (93, [(44, (.invokestatic 225, 47, false, false, 207, 2, 1, 0, 0, 0, [])), (47, (.istore 6, 49, false, false, 6, 0, 0, 0, 0, 0, [])), (49, (.iload 6, 51, false, false, 6, 0, 0, 0, 0, 0, [])), (51, (.iconst (-1), 52, false, false, 0, 0, 0, 0, -1, 0, [])), (52, (.if_icmp .eq 28, 55, false, false, 80, 0, 0, 0, 0, 0, [])), (55, (.aload_n 0, 56, false, false, 0, 0, 0, 0, 0, 0, [])), (56, (.getfield 21, 59, false, false, 3, 1, 1, 0, 0, 0, [])), (59, (.iload 6, 61, false, false, 6, 0, 0, 0, 0, 0, [])), (61, (.invokevirtual 108, 64, false, false, 24, 1, 1, 5, 0, 0, [])), (64, (.ifCond .ne 16, 67, false, false, 80, 0, 0, 0, 0, 0, [])), (67, (.iload 6, 69, false, false, 6, 0, 0, 0, 0, 0, [])), (69, (.iload_n 1, 70, false, false, 1, 0, 0, 0, 0, 0, [])), (70, (.iload_n 2, 71, false, false, 2, 0, 0, 0, 0, 0, [])), (71, (.invokestatic 219, 74, false, false, 346, 3, 1, 0, 0, 0, [])), (74, (.ifCond .ne 6, 77, false, false, 80, 0, 0, 0, 0, 0, [])), (77, (.iinc 3 1, 80, false, false, 3, 0, 0, 0, 1, 0, [])), (80, (.iinc 5 1, 83, false, false, 5, 0, 0, 0, 1, 0, [])), (83, (.goto (-59), 86, false, true, 24, 0, 0, 0, 0, 0, [])), (86, (.iinc 4 1, 89, false, false, 4, 0, 0, 0, 1, 0, [])), (89, (.goto (-84), 92, false, true, 5, 0, 0, 0, 0, 0, [])), (92, (.iload_n 3, 93, false, false, 3, 0, 0, 0, 0, 0, [])), (93, (.ireturn, 94, false, false, 0, 0, 0, 0, 0, 0, []))])], 0, [])
set_option maxRecDepth 100000 in
theorem v_X0_partedPairs : VE MYT dflT E_X0_partedPairs := ⟨⟨⟨⟨⟨dX0_partedPairs_0, rfl⟩, rfl⟩, ⟨⟨dX0_partedPairs_1, rfl⟩, rfl⟩, ⟨⟨dX0_partedPairs_2, rfl⟩, rfl⟩, ⟨⟨dX0_partedPairs_3, rfl⟩, rfl⟩, ⟨⟨dX0_partedPairs_5, rfl⟩, rfl⟩, ⟨⟨dX0_partedPairs_7, rfl⟩, rfl⟩, ⟨⟨dX0_partedPairs_8, rfl⟩, rfl⟩, ⟨⟨dX0_partedPairs_10, rfl⟩, trivial⟩, ⟨⟨dX0_partedPairs_11, rfl⟩, rfl⟩, ⟨⟨dX0_partedPairs_14, rfl⟩, rfl⟩, ⟨⟨dX0_partedPairs_16, rfl⟩, rfl⟩, ⟨⟨dX0_partedPairs_18, rfl⟩, rfl⟩, ⟨⟨dX0_partedPairs_21, rfl⟩, rfl⟩, ⟨⟨dX0_partedPairs_22, rfl⟩, rfl⟩, ⟨⟨dX0_partedPairs_24, rfl⟩, rfl⟩, ⟨⟨dX0_partedPairs_26, rfl⟩, rfl⟩, ⟨⟨dX0_partedPairs_27, rfl⟩, rfl⟩, ⟨⟨dX0_partedPairs_30, rfl⟩, rfl⟩, ⟨⟨dX0_partedPairs_32, rfl⟩, rfl⟩, ⟨⟨dX0_partedPairs_33, rfl⟩, rfl⟩, ⟨⟨dX0_partedPairs_34, rfl⟩, Or.inl ⟨rfl, _, my_346, sX0_219⟩⟩, ⟨⟨dX0_partedPairs_37, rfl⟩, rfl⟩, ⟨⟨dX0_partedPairs_40, rfl⟩, rfl⟩, ⟨⟨dX0_partedPairs_42, rfl⟩, rfl⟩, trivial⟩,
  ⟨⟨⟨dX0_partedPairs_44, rfl⟩, Or.inl ⟨rfl, _, my_207, sX0_225⟩⟩, ⟨⟨dX0_partedPairs_47, rfl⟩, rfl⟩, ⟨⟨dX0_partedPairs_49, rfl⟩, rfl⟩, ⟨⟨dX0_partedPairs_51, rfl⟩, rfl⟩, ⟨⟨dX0_partedPairs_52, rfl⟩, rfl⟩, ⟨⟨dX0_partedPairs_55, rfl⟩, rfl⟩, ⟨⟨dX0_partedPairs_56, rfl⟩, Or.inl ⟨by decide, _, _, fX0_21⟩⟩, ⟨⟨dX0_partedPairs_59, rfl⟩, rfl⟩, ⟨⟨dX0_partedPairs_61, rfl⟩, Or.inr ⟨by decide, ⟨_, my_24, sX0_108⟩, fun q => absurd q (by decide)⟩⟩, ⟨⟨dX0_partedPairs_64, rfl⟩, rfl⟩, ⟨⟨dX0_partedPairs_67, rfl⟩, rfl⟩, ⟨⟨dX0_partedPairs_69, rfl⟩, rfl⟩, ⟨⟨dX0_partedPairs_70, rfl⟩, rfl⟩, ⟨⟨dX0_partedPairs_71, rfl⟩, Or.inl ⟨rfl, _, my_346, sX0_219⟩⟩, ⟨⟨dX0_partedPairs_74, rfl⟩, rfl⟩, ⟨⟨dX0_partedPairs_77, rfl⟩, ⟨rfl, rfl⟩⟩, ⟨⟨dX0_partedPairs_80, rfl⟩, ⟨rfl, rfl⟩⟩, ⟨⟨dX0_partedPairs_83, rfl⟩, rfl⟩, ⟨⟨dX0_partedPairs_86, rfl⟩, ⟨rfl, rfl⟩⟩, ⟨⟨dX0_partedPairs_89, rfl⟩, rfl⟩, ⟨⟨dX0_partedPairs_92, rfl⟩, rfl⟩, ⟨⟨dX0_partedPairs_93, rfl⟩, Or.inl ⟨rfl, rfl⟩⟩, trivial⟩, trivial⟩, by decide, Or.inl ⟨rfl, by decide, rfl⟩⟩
set_option maxRecDepth 100000 in
theorem g_X0_partedPairs_0 (S : sT) (call : cT) (n : Nat) (a0 : Nat) (x1 : Int32) (x2 : Int32) (h : pH) : bd S call dflT E_X0_partedPairs (n + 1) 0 [some (.ref a0), some (.int x1), some (.int x2), none, none, none, none] [] h = (bd S call dflT E_X0_partedPairs n 5 [some (.ref a0), some (.int x1), some (.int x2), some (.int 0), some (.int x1), none, none] [] h) := rfl
set_option maxRecDepth 100000 in
theorem g_X0_partedPairs_5 (S : sT) (call : cT) (n : Nat) (a0 : Nat) (x1 : Int32) (x2 : Int32) (x3 : Int32) (x4 : Int32) (o5 : Option Value) (o6 : Option Value) (h : pH) : bd S call dflT E_X0_partedPairs (n + 1) 5 [some (.ref a0), some (.int x1), some (.int x2), some (.int x3), some (.int x4), o5, o6] [] h = ((if (x1 + 8) ≤ x4 then some (.inl (some (.int x3)), h) else (if 48 ≤ x4 then some (.inl (some (.int x3)), h) else bd S call dflT E_X0_partedPairs n 24 [some (.ref a0), some (.int x1), some (.int x2), some (.int x3), some (.int x4), some (.int 0), o6] [] h))) := rfl
set_option maxRecDepth 100000 in
theorem g_X0_partedPairs_24 (S : sT) (call : cT) (n : Nat) (a0 : Nat) (x1 : Int32) (x2 : Int32) (x3 : Int32) (x4 : Int32) (x5 : Int32) (o6 : Option Value) (h : pH) : bd S call dflT E_X0_partedPairs (n + 1) 24 [some (.ref a0), some (.int x1), some (.int x2), some (.int x3), some (.int x4), some (.int x5), o6] [] h = ((if 4 ≤ x5 then bd S call dflT E_X0_partedPairs n 5 [some (.ref a0), some (.int x1), some (.int x2), some (.int x3), some (.int (x4 + 1)), some (.int x5), o6] [] h else cI (call 346 [.int x4, .int x1, .int x2] h) (fun y2 h1 => (if y2 = 0 then bd S call dflT E_X0_partedPairs n 5 [some (.ref a0), some (.int x1), some (.int x2), some (.int x3), some (.int (x4 + 1)), some (.int x5), o6] [] h1 else cI (call 207 [.int x4, .int x5] h1) (fun y4 h3 => (if y4 = (-1) then bd S call dflT E_X0_partedPairs n 24 [some (.ref a0), some (.int x1), some (.int x2), some (.int x3), some (.int x4), some (.int (x5 + 1)), some (.int y4)] [] h3 else gV h3 (.ref a0) 3 1 (fun w5 => rC h3 w5 5 (cI (call 24 [w5, .int y4] h3) (fun y7 h6 => (if y7 = 0 then cI (call 346 [.int y4, .int x1, .int x2] h6) (fun y9 h8 => (if y9 = 0 then bd S call dflT E_X0_partedPairs n 24 [some (.ref a0), some (.int x1), some (.int x2), some (.int (x3 + 1)), some (.int x4), some (.int (x5 + 1)), some (.int y4)] [] h8 else bd S call dflT E_X0_partedPairs n 24 [some (.ref a0), some (.int x1), some (.int x2), some (.int x3), some (.int x4), some (.int (x5 + 1)), some (.int y4)] [] h8)) else bd S call dflT E_X0_partedPairs n 24 [some (.ref a0), some (.int x1), some (.int x2), some (.int x3), some (.int x4), some (.int (x5 + 1)), some (.int y4)] [] h6)))))))))) := rfl
theorem dX0_bestSale_0 : decode cX0_bestSale 0 = .ok (.iconst 0, 1) := by decide +kernel
theorem dX0_bestSale_1 : decode cX0_bestSale 1 = .ok (.istore 4, 2) := by decide +kernel
theorem dX0_bestSale_3 : decode cX0_bestSale 3 = .ok (.iconst 0, 1) := by decide +kernel
theorem dX0_bestSale_4 : decode cX0_bestSale 4 = .ok (.istore 5, 2) := by decide +kernel
theorem dX0_bestSale_6 : decode cX0_bestSale 6 = .ok (.iload 5, 2) := by decide +kernel
theorem dX0_bestSale_8 : decode cX0_bestSale 8 = .ok (.iload_n 2, 1) := by decide +kernel
theorem dX0_bestSale_9 : decode cX0_bestSale 9 = .ok (.if_icmp .ge 62, 3) := by decide +kernel
theorem dX0_bestSale_12 : decode cX0_bestSale 12 = .ok (.aload_n 0, 1) := by decide +kernel
theorem dX0_bestSale_13 : decode cX0_bestSale 13 = .ok (.getfield 21, 3) := by decide +kernel
theorem dX0_bestSale_16 : decode cX0_bestSale 16 = .ok (.iload_n 1, 1) := by decide +kernel
theorem dX0_bestSale_17 : decode cX0_bestSale 17 = .ok (.iload 5, 2) := by decide +kernel
theorem dX0_bestSale_19 : decode cX0_bestSale 19 = .ok (.iadd, 1) := by decide +kernel
theorem dX0_bestSale_20 : decode cX0_bestSale 20 = .ok (.invokevirtual 108, 3) := by decide +kernel
theorem dX0_bestSale_23 : decode cX0_bestSale 23 = .ok (.ifCond .ne 21, 3) := by decide +kernel
theorem dX0_bestSale_26 : decode cX0_bestSale 26 = .ok (.aload_n 0, 1) := by decide +kernel
theorem dX0_bestSale_27 : decode cX0_bestSale 27 = .ok (.bipush 20, 2) := by decide +kernel
theorem dX0_bestSale_29 : decode cX0_bestSale 29 = .ok (.iload_n 1, 1) := by decide +kernel
theorem dX0_bestSale_30 : decode cX0_bestSale 30 = .ok (.iload 5, 2) := by decide +kernel
theorem dX0_bestSale_32 : decode cX0_bestSale 32 = .ok (.iadd, 1) := by decide +kernel
theorem dX0_bestSale_33 : decode cX0_bestSale 33 = .ok (.invokevirtual 210, 3) := by decide +kernel
theorem dX0_bestSale_36 : decode cX0_bestSale 36 = .ok (.iconst (-1), 1) := by decide +kernel
theorem dX0_bestSale_37 : decode cX0_bestSale 37 = .ok (.if_icmp .eq 7, 3) := by decide +kernel
theorem dX0_bestSale_40 : decode cX0_bestSale 40 = .ok (.iconst 1, 1) := by decide +kernel
theorem dX0_bestSale_41 : decode cX0_bestSale 41 = .ok (.goto 4, 3) := by decide +kernel
theorem dX0_bestSale_44 : decode cX0_bestSale 44 = .ok (.iconst 0, 1) := by decide +kernel
theorem dX0_bestSale_45 : decode cX0_bestSale 45 = .ok (.istore 6, 2) := by decide +kernel
theorem dX0_bestSale_47 : decode cX0_bestSale 47 = .ok (.iload 4, 2) := by decide +kernel
theorem dX0_bestSale_49 : decode cX0_bestSale 49 = .ok (.iload 6, 2) := by decide +kernel
theorem dX0_bestSale_51 : decode cX0_bestSale 51 = .ok (.ifCond .eq 10, 3) := by decide +kernel
theorem dX0_bestSale_54 : decode cX0_bestSale 54 = .ok (.iconst 1, 1) := by decide +kernel
theorem dX0_bestSale_55 : decode cX0_bestSale 55 = .ok (.iload 5, 2) := by decide +kernel
theorem dX0_bestSale_57 : decode cX0_bestSale 57 = .ok (.ishl, 1) := by decide +kernel
theorem dX0_bestSale_58 : decode cX0_bestSale 58 = .ok (.goto 4, 3) := by decide +kernel
theorem dX0_bestSale_61 : decode cX0_bestSale 61 = .ok (.iconst 0, 1) := by decide +kernel
theorem dX0_bestSale_62 : decode cX0_bestSale 62 = .ok (.ior, 1) := by decide +kernel
theorem dX0_bestSale_63 : decode cX0_bestSale 63 = .ok (.istore 4, 2) := by decide +kernel
theorem dX0_bestSale_65 : decode cX0_bestSale 65 = .ok (.iinc 5 1, 3) := by decide +kernel
theorem dX0_bestSale_68 : decode cX0_bestSale 68 = .ok (.goto (-62), 3) := by decide +kernel
theorem dX0_bestSale_71 : decode cX0_bestSale 71 = .ok (.iconst (-1), 1) := by decide +kernel
theorem dX0_bestSale_72 : decode cX0_bestSale 72 = .ok (.istore 5, 2) := by decide +kernel
theorem dX0_bestSale_74 : decode cX0_bestSale 74 = .ok (.iconst 0, 1) := by decide +kernel
theorem dX0_bestSale_75 : decode cX0_bestSale 75 = .ok (.istore 6, 2) := by decide +kernel
theorem dX0_bestSale_77 : decode cX0_bestSale 77 = .ok (.iconst 0, 1) := by decide +kernel
theorem dX0_bestSale_78 : decode cX0_bestSale 78 = .ok (.istore 7, 2) := by decide +kernel
theorem dX0_bestSale_80 : decode cX0_bestSale 80 = .ok (.iconst 0, 1) := by decide +kernel
theorem dX0_bestSale_81 : decode cX0_bestSale 81 = .ok (.istore 8, 2) := by decide +kernel
theorem dX0_bestSale_83 : decode cX0_bestSale 83 = .ok (.iload 8, 2) := by decide +kernel
theorem dX0_bestSale_85 : decode cX0_bestSale 85 = .ok (.iconst 1, 1) := by decide +kernel
theorem dX0_bestSale_86 : decode cX0_bestSale 86 = .ok (.iload_n 2, 1) := by decide +kernel
theorem dX0_bestSale_87 : decode cX0_bestSale 87 = .ok (.ishl, 1) := by decide +kernel
theorem dX0_bestSale_88 : decode cX0_bestSale 88 = .ok (.if_icmp .ge 82, 3) := by decide +kernel
theorem dX0_bestSale_91 : decode cX0_bestSale 91 = .ok (.aload_n 0, 1) := by decide +kernel
theorem dX0_bestSale_92 : decode cX0_bestSale 92 = .ok (.iload_n 1, 1) := by decide +kernel
theorem dX0_bestSale_93 : decode cX0_bestSale 93 = .ok (.iload 8, 2) := by decide +kernel
theorem dX0_bestSale_95 : decode cX0_bestSale 95 = .ok (.invokevirtual 213, 3) := by decide +kernel
theorem dX0_bestSale_98 : decode cX0_bestSale 98 = .ok (.istore 9, 2) := by decide +kernel
theorem dX0_bestSale_100 : decode cX0_bestSale 100 = .ok (.iload 8, 2) := by decide +kernel
theorem dX0_bestSale_102 : decode cX0_bestSale 102 = .ok (.iload 4, 2) := by decide +kernel
theorem dX0_bestSale_104 : decode cX0_bestSale 104 = .ok (.iconst (-1), 1) := by decide +kernel
theorem dX0_bestSale_105 : decode cX0_bestSale 105 = .ok (.ixor, 1) := by decide +kernel
theorem dX0_bestSale_106 : decode cX0_bestSale 106 = .ok (.iand, 1) := by decide +kernel
theorem dX0_bestSale_107 : decode cX0_bestSale 107 = .ok (.ifCond .ne 57, 3) := by decide +kernel
theorem dX0_bestSale_110 : decode cX0_bestSale 110 = .ok (.iload 9, 2) := by decide +kernel
theorem dX0_bestSale_112 : decode cX0_bestSale 112 = .ok (.iload_n 3, 1) := by decide +kernel
theorem dX0_bestSale_113 : decode cX0_bestSale 113 = .ok (.if_icmp .lt 51, 3) := by decide +kernel
theorem dX0_bestSale_116 : decode cX0_bestSale 116 = .ok (.aload_n 0, 1) := by decide +kernel
theorem dX0_bestSale_117 : decode cX0_bestSale 117 = .ok (.iload_n 1, 1) := by decide +kernel
theorem dX0_bestSale_118 : decode cX0_bestSale 118 = .ok (.iload 8, 2) := by decide +kernel
theorem dX0_bestSale_120 : decode cX0_bestSale 120 = .ok (.invokevirtual 216, 3) := by decide +kernel
theorem dX0_bestSale_123 : decode cX0_bestSale 123 = .ok (.istore 10, 2) := by decide +kernel
theorem dX0_bestSale_125 : decode cX0_bestSale 125 = .ok (.iload 5, 2) := by decide +kernel
theorem dX0_bestSale_127 : decode cX0_bestSale 127 = .ok (.iconst (-1), 1) := by decide +kernel
theorem dX0_bestSale_128 : decode cX0_bestSale 128 = .ok (.if_icmp .eq 24, 3) := by decide +kernel
theorem dX0_bestSale_131 : decode cX0_bestSale 131 = .ok (.iload 10, 2) := by decide +kernel
theorem dX0_bestSale_133 : decode cX0_bestSale 133 = .ok (.iload 6, 2) := by decide +kernel
theorem dX0_bestSale_135 : decode cX0_bestSale 135 = .ok (.if_icmp .lt 17, 3) := by decide +kernel
theorem dX0_bestSale_138 : decode cX0_bestSale 138 = .ok (.iload 10, 2) := by decide +kernel
theorem dX0_bestSale_140 : decode cX0_bestSale 140 = .ok (.iload 6, 2) := by decide +kernel
theorem dX0_bestSale_142 : decode cX0_bestSale 142 = .ok (.if_icmp .ne 22, 3) := by decide +kernel
theorem dX0_bestSale_145 : decode cX0_bestSale 145 = .ok (.iload 9, 2) := by decide +kernel
theorem dX0_bestSale_147 : decode cX0_bestSale 147 = .ok (.iload 7, 2) := by decide +kernel
theorem dX0_bestSale_149 : decode cX0_bestSale 149 = .ok (.if_icmp .ge 15, 3) := by decide +kernel
theorem dX0_bestSale_152 : decode cX0_bestSale 152 = .ok (.iload 8, 2) := by decide +kernel
theorem dX0_bestSale_154 : decode cX0_bestSale 154 = .ok (.istore 5, 2) := by decide +kernel
theorem dX0_bestSale_156 : decode cX0_bestSale 156 = .ok (.iload 10, 2) := by decide +kernel
theorem dX0_bestSale_158 : decode cX0_bestSale 158 = .ok (.istore 6, 2) := by decide +kernel
theorem dX0_bestSale_160 : decode cX0_bestSale 160 = .ok (.iload 9, 2) := by decide +kernel
theorem dX0_bestSale_162 : decode cX0_bestSale 162 = .ok (.istore 7, 2) := by decide +kernel
theorem dX0_bestSale_164 : decode cX0_bestSale 164 = .ok (.iinc 8 1, 3) := by decide +kernel
theorem dX0_bestSale_167 : decode cX0_bestSale 167 = .ok (.goto (-84), 3) := by decide +kernel
theorem dX0_bestSale_170 : decode cX0_bestSale 170 = .ok (.iload 5, 2) := by decide +kernel
theorem dX0_bestSale_172 : decode cX0_bestSale 172 = .ok (.ireturn, 1) := by decide +kernel
noncomputable def E_X0_bestSale : mE := (mX0_bestSale, [(41, [(0, (.iconst 0, 1, false, false, 0, 0, 0, 0, 0, 0, [])), (1, (.istore 4, 3, false, false, 4, 0, 0, 0, 0, 0, [])), (3, (.iconst 0, 4, false, false, 0, 0, 0, 0, 0, 0, [])), (4, (.istore 5, 6, true, false, 5, 0, 0, 0, 0, 0, [])), (6, (.iload 5, 8, false, false, 5, 0, 0, 0, 0, 0, [])), (8, (.iload_n 2, 9, false, false, 2, 0, 0, 0, 0, 0, [])), (9, (.if_icmp .ge 62, 12, false, false, 71, 0, 0, 0, 0, 0, [])), (12, (.aload_n 0, 13, false, false, 0, 0, 0, 0, 0, 0, [])), (13, (.getfield 21, 16, false, false, 3, 1, 1, 0, 0, 0, [])), (16, (.iload_n 1, 17, false, false, 1, 0, 0, 0, 0, 0, [])), (17, (.iload 5, 19, false, false, 5, 0, 0, 0, 0, 0, [])), (19, (.iadd, 20, false, false, 0, 0, 0, 0, 0, 0, [])), (20, (.invokevirtual 108, 23, false, false, 24, 1, 1, 5, 0, 0, [])), (23, (.ifCond .ne 21, 26, false, false, 44, 0, 0, 0, 0, 0, [])), (26, (.aload_n 0, 27, false, false, 0, 0, 0, 0, 0, 0, [])), (27, (.bipush 20, 29, false, false, 0, 0, 0, 0, 20, 0, [])), (29, (.iload_n 1, 30, false, false, 1, 0, 0, 0, 0, 0, [])), (30, (.iload 5, 32, false, false, 5, 0, 0, 0, 0, 0, [])), (32, (.iadd, 33, false, false, 0, 0, 0, 0, 0, 0, [])), (33, (.invokevirtual 210, 36, false, false, 286, 2, 1, 3, 0, 0, [])), (36, (.iconst (-1), 37, false, false, 0, 0, 0, 0, -1, 0, [])), (37, (.if_icmp .eq 7, 40, false, false, 44, 0, 0, 0, 0, 0, [])), (40, (.iconst 1, 41, false, false, 0, 0, 0, 0, 1, 0, [])), (41, (.goto 4, 44, false, true, 45, 0, 0, 0, 0, 0, []))]),
  (85, [(44, (.iconst 0, 45, true, false, 0, 0, 0, 0, 0, 0, [])), (45, (.istore 6, 47, false, false, 6, 0, 0, 0, 0, 0, [])), (47, (.iload 4, 49, false, false, 4, 0, 0, 0, 0, 0, [])), (49, (.iload 6, 51, false, false, 6, 0, 0, 0, 0, 0, [])), (51, (.ifCond .eq 10, 54, false, false, 61, 0, 0, 0, 0, 0, [])), (54, (.iconst 1, 55, false, false, 0, 0, 0, 0, 1, 0, [])), (55, (.iload 5, 57, false, false, 5, 0, 0, 0, 0, 0, [])), (57, (.ishl, 58, false, false, 0, 0, 0, 0, 0, 0, [])), (58, (.goto 4, 61, false, false, 62, 0, 0, 0, 0, 0, [])), (61, (.iconst 0, 62, false, false, 0, 0, 0, 0, 0, 0, [])), (62, (.ior, 63, false, false, 0, 0, 0, 0, 0, 0, [])), (63, (.istore 4, 65, false, false, 4, 0, 0, 0, 0, 0, [])), (65, (.iinc 5 1, 68, false, false, 5, 0, 0, 0, 1, 0, [])), (68, (.goto (-62), 71, false, true, 6, 0, 0, 0, 0, 0, [])), (71, (.iconst (-1), 72, false, false, 0, 0, 0, 0, -1, 0, [])), (72, (.istore 5, 74, false, false, 5, 0, 0, 0, 0, 0, [])), (74, (.iconst 0, 75, false, false, 0, 0, 0, 0, 0, 0, [])), (75, (.istore 6, 77, false, false, 6, 0, 0, 0, 0, 0, [])), (77, (.iconst 0, 78, false, false, 0, 0, 0, 0, 0, 0, [])), (78, (.istore 7, 80, false, false, 7, 0, 0, 0, 0, 0, [])), (80, (.iconst 0, 81, false, false, 0, 0, 0, 0, 0, 0, [])), (81, (.istore 8, 83, true, false, 8, 0, 0, 0, 0, 0, [])), (83, (.iload 8, 85, false, false, 8, 0, 0, 0, 0, 0, [])), (85, (.iconst 1, 86, false, false, 0, 0, 0, 0, 1, 0, []))]),
  (127, [(86, (.iload_n 2, 87, false, false, 2, 0, 0, 0, 0, 0, [])), (87, (.ishl, 88, false, false, 0, 0, 0, 0, 0, 0, [])), (88, (.if_icmp .ge 82, 91, false, false, 170, 0, 0, 0, 0, 0, [])), (91, (.aload_n 0, 92, false, false, 0, 0, 0, 0, 0, 0, [])), (92, (.iload_n 1, 93, false, false, 1, 0, 0, 0, 0, 0, [])), (93, (.iload 8, 95, false, false, 8, 0, 0, 0, 0, 0, [])), (95, (.invokevirtual 213, 98, false, false, 347, 2, 1, 3, 0, 0, [])), (98, (.istore 9, 100, false, false, 9, 0, 0, 0, 0, 0, [])), (100, (.iload 8, 102, false, false, 8, 0, 0, 0, 0, 0, [])), (102, (.iload 4, 104, false, false, 4, 0, 0, 0, 0, 0, [])), (104, (.iconst (-1), 105, false, false, 0, 0, 0, 0, -1, 0, [])), (105, (.ixor, 106, false, false, 0, 0, 0, 0, 0, 0, [])), (106, (.iand, 107, false, false, 0, 0, 0, 0, 0, 0, [])), (107, (.ifCond .ne 57, 110, false, false, 164, 0, 0, 0, 0, 0, [])), (110, (.iload 9, 112, false, false, 9, 0, 0, 0, 0, 0, [])), (112, (.iload_n 3, 113, false, false, 3, 0, 0, 0, 0, 0, [])), (113, (.if_icmp .lt 51, 116, false, false, 164, 0, 0, 0, 0, 0, [])), (116, (.aload_n 0, 117, false, false, 0, 0, 0, 0, 0, 0, [])), (117, (.iload_n 1, 118, false, false, 1, 0, 0, 0, 0, 0, [])), (118, (.iload 8, 120, false, false, 8, 0, 0, 0, 0, 0, [])), (120, (.invokevirtual 216, 123, false, false, 348, 2, 1, 3, 0, 0, [])), (123, (.istore 10, 125, false, false, 10, 0, 0, 0, 0, 0, [])), (125, (.iload 5, 127, false, false, 5, 0, 0, 0, 0, 0, [])), (127, (.iconst (-1), 128, false, false, 0, 0, 0, 0, -1, 0, []))]),
  (172, [(128, (.if_icmp .eq 24, 131, false, false, 152, 0, 0, 0, 0, 0, [])), (131, (.iload 10, 133, false, false, 10, 0, 0, 0, 0, 0, [])), (133, (.iload 6, 135, false, false, 6, 0, 0, 0, 0, 0, [])), (135, (.if_icmp .lt 17, 138, false, false, 152, 0, 0, 0, 0, 0, [])), (138, (.iload 10, 140, false, false, 10, 0, 0, 0, 0, 0, [])), (140, (.iload 6, 142, false, false, 6, 0, 0, 0, 0, 0, [])), (142, (.if_icmp .ne 22, 145, false, false, 164, 0, 0, 0, 0, 0, [])), (145, (.iload 9, 147, false, false, 9, 0, 0, 0, 0, 0, [])), (147, (.iload 7, 149, false, false, 7, 0, 0, 0, 0, 0, [])), (149, (.if_icmp .ge 15, 152, false, false, 164, 0, 0, 0, 0, 0, [])), (152, (.iload 8, 154, false, false, 8, 0, 0, 0, 0, 0, [])), (154, (.istore 5, 156, false, false, 5, 0, 0, 0, 0, 0, [])), (156, (.iload 10, 158, false, false, 10, 0, 0, 0, 0, 0, [])), (158, (.istore 6, 160, false, false, 6, 0, 0, 0, 0, 0, [])), (160, (.iload 9, 162, false, false, 9, 0, 0, 0, 0, 0, [])), (162, (.istore 7, 164, false, false, 7, 0, 0, 0, 0, 0, [])), (164, (.iinc 8 1, 167, false, false, 8, 0, 0, 0, 1, 0, [])), (167, (.goto (-84), 170, false, true, 83, 0, 0, 0, 0, 0, [])), (170, (.iload 5, 172, false, false, 5, 0, 0, 0, 0, 0, [])), (172, (.ireturn, 173, false, false, 0, 0, 0, 0, 0, 0, []))])], 0, [])
set_option maxRecDepth 100000 in
theorem v_X0_bestSale : VE MYT dflT E_X0_bestSale := ⟨⟨⟨⟨⟨dX0_bestSale_0, rfl⟩, rfl⟩, ⟨⟨dX0_bestSale_1, rfl⟩, rfl⟩, ⟨⟨dX0_bestSale_3, rfl⟩, rfl⟩, ⟨⟨dX0_bestSale_4, rfl⟩, rfl⟩, ⟨⟨dX0_bestSale_6, rfl⟩, rfl⟩, ⟨⟨dX0_bestSale_8, rfl⟩, rfl⟩, ⟨⟨dX0_bestSale_9, rfl⟩, rfl⟩, ⟨⟨dX0_bestSale_12, rfl⟩, rfl⟩, ⟨⟨dX0_bestSale_13, rfl⟩, Or.inl ⟨by decide, _, _, fX0_21⟩⟩, ⟨⟨dX0_bestSale_16, rfl⟩, rfl⟩, ⟨⟨dX0_bestSale_17, rfl⟩, rfl⟩, ⟨⟨dX0_bestSale_19, rfl⟩, trivial⟩, ⟨⟨dX0_bestSale_20, rfl⟩, Or.inr ⟨by decide, ⟨_, my_24, sX0_108⟩, fun q => absurd q (by decide)⟩⟩, ⟨⟨dX0_bestSale_23, rfl⟩, rfl⟩, ⟨⟨dX0_bestSale_26, rfl⟩, rfl⟩, ⟨⟨dX0_bestSale_27, rfl⟩, rfl⟩, ⟨⟨dX0_bestSale_29, rfl⟩, rfl⟩, ⟨⟨dX0_bestSale_30, rfl⟩, rfl⟩, ⟨⟨dX0_bestSale_32, rfl⟩, trivial⟩, ⟨⟨dX0_bestSale_33, rfl⟩, Or.inr ⟨by decide, ⟨_, my_286, sX0_210⟩, fun q => absurd q (by decide)⟩⟩, ⟨⟨dX0_bestSale_36, rfl⟩, rfl⟩, ⟨⟨dX0_bestSale_37, rfl⟩, rfl⟩, ⟨⟨dX0_bestSale_40, rfl⟩, rfl⟩, ⟨⟨dX0_bestSale_41, rfl⟩, rfl⟩, trivial⟩,
  ⟨⟨⟨dX0_bestSale_44, rfl⟩, rfl⟩, ⟨⟨dX0_bestSale_45, rfl⟩, rfl⟩, ⟨⟨dX0_bestSale_47, rfl⟩, rfl⟩, ⟨⟨dX0_bestSale_49, rfl⟩, rfl⟩, ⟨⟨dX0_bestSale_51, rfl⟩, rfl⟩, ⟨⟨dX0_bestSale_54, rfl⟩, rfl⟩, ⟨⟨dX0_bestSale_55, rfl⟩, rfl⟩, ⟨⟨dX0_bestSale_57, rfl⟩, trivial⟩, ⟨⟨dX0_bestSale_58, rfl⟩, rfl⟩, ⟨⟨dX0_bestSale_61, rfl⟩, rfl⟩, ⟨⟨dX0_bestSale_62, rfl⟩, trivial⟩, ⟨⟨dX0_bestSale_63, rfl⟩, rfl⟩, ⟨⟨dX0_bestSale_65, rfl⟩, ⟨rfl, rfl⟩⟩, ⟨⟨dX0_bestSale_68, rfl⟩, rfl⟩, ⟨⟨dX0_bestSale_71, rfl⟩, rfl⟩, ⟨⟨dX0_bestSale_72, rfl⟩, rfl⟩, ⟨⟨dX0_bestSale_74, rfl⟩, rfl⟩, ⟨⟨dX0_bestSale_75, rfl⟩, rfl⟩, ⟨⟨dX0_bestSale_77, rfl⟩, rfl⟩, ⟨⟨dX0_bestSale_78, rfl⟩, rfl⟩, ⟨⟨dX0_bestSale_80, rfl⟩, rfl⟩, ⟨⟨dX0_bestSale_81, rfl⟩, rfl⟩, ⟨⟨dX0_bestSale_83, rfl⟩, rfl⟩, ⟨⟨dX0_bestSale_85, rfl⟩, rfl⟩, trivial⟩,
  ⟨⟨⟨dX0_bestSale_86, rfl⟩, rfl⟩, ⟨⟨dX0_bestSale_87, rfl⟩, trivial⟩, ⟨⟨dX0_bestSale_88, rfl⟩, rfl⟩, ⟨⟨dX0_bestSale_91, rfl⟩, rfl⟩, ⟨⟨dX0_bestSale_92, rfl⟩, rfl⟩, ⟨⟨dX0_bestSale_93, rfl⟩, rfl⟩, ⟨⟨dX0_bestSale_95, rfl⟩, Or.inr ⟨by decide, ⟨_, my_347, sX0_213⟩, fun q => absurd q (by decide)⟩⟩, ⟨⟨dX0_bestSale_98, rfl⟩, rfl⟩, ⟨⟨dX0_bestSale_100, rfl⟩, rfl⟩, ⟨⟨dX0_bestSale_102, rfl⟩, rfl⟩, ⟨⟨dX0_bestSale_104, rfl⟩, rfl⟩, ⟨⟨dX0_bestSale_105, rfl⟩, trivial⟩, ⟨⟨dX0_bestSale_106, rfl⟩, trivial⟩, ⟨⟨dX0_bestSale_107, rfl⟩, rfl⟩, ⟨⟨dX0_bestSale_110, rfl⟩, rfl⟩, ⟨⟨dX0_bestSale_112, rfl⟩, rfl⟩, ⟨⟨dX0_bestSale_113, rfl⟩, rfl⟩, ⟨⟨dX0_bestSale_116, rfl⟩, rfl⟩, ⟨⟨dX0_bestSale_117, rfl⟩, rfl⟩, ⟨⟨dX0_bestSale_118, rfl⟩, rfl⟩, ⟨⟨dX0_bestSale_120, rfl⟩, Or.inr ⟨by decide, ⟨_, my_348, sX0_216⟩, fun q => absurd q (by decide)⟩⟩, ⟨⟨dX0_bestSale_123, rfl⟩, rfl⟩, ⟨⟨dX0_bestSale_125, rfl⟩, rfl⟩, ⟨⟨dX0_bestSale_127, rfl⟩, rfl⟩, trivial⟩,
  ⟨⟨⟨dX0_bestSale_128, rfl⟩, rfl⟩, ⟨⟨dX0_bestSale_131, rfl⟩, rfl⟩, ⟨⟨dX0_bestSale_133, rfl⟩, rfl⟩, ⟨⟨dX0_bestSale_135, rfl⟩, rfl⟩, ⟨⟨dX0_bestSale_138, rfl⟩, rfl⟩, ⟨⟨dX0_bestSale_140, rfl⟩, rfl⟩, ⟨⟨dX0_bestSale_142, rfl⟩, rfl⟩, ⟨⟨dX0_bestSale_145, rfl⟩, rfl⟩, ⟨⟨dX0_bestSale_147, rfl⟩, rfl⟩, ⟨⟨dX0_bestSale_149, rfl⟩, rfl⟩, ⟨⟨dX0_bestSale_152, rfl⟩, rfl⟩, ⟨⟨dX0_bestSale_154, rfl⟩, rfl⟩, ⟨⟨dX0_bestSale_156, rfl⟩, rfl⟩, ⟨⟨dX0_bestSale_158, rfl⟩, rfl⟩, ⟨⟨dX0_bestSale_160, rfl⟩, rfl⟩, ⟨⟨dX0_bestSale_162, rfl⟩, rfl⟩, ⟨⟨dX0_bestSale_164, rfl⟩, ⟨rfl, rfl⟩⟩, ⟨⟨dX0_bestSale_167, rfl⟩, rfl⟩, ⟨⟨dX0_bestSale_170, rfl⟩, rfl⟩, ⟨⟨dX0_bestSale_172, rfl⟩, Or.inl ⟨rfl, rfl⟩⟩, trivial⟩, trivial⟩, by decide, Or.inl ⟨rfl, by decide, rfl⟩⟩
set_option maxRecDepth 100000 in
theorem g_X0_bestSale_0 (S : sT) (call : cT) (n : Nat) (a0 : Nat) (x1 : Int32) (x2 : Int32) (x3 : Int32) (h : pH) : bd S call dflT E_X0_bestSale (n + 1) 0 [some (.ref a0), some (.int x1), some (.int x2), some (.int x3), none, none, none, none, none, none, none] [] h = (bd S call dflT E_X0_bestSale n 6 [some (.ref a0), some (.int x1), some (.int x2), some (.int x3), some (.int 0), some (.int 0), none, none, none, none, none] [] h) := rfl
set_option maxRecDepth 100000 in
theorem g_X0_bestSale_6 (S : sT) (call : cT) (n : Nat) (a0 : Nat) (x1 : Int32) (x2 : Int32) (x3 : Int32) (x4 : Int32) (x5 : Int32) (o6 : Option Value) (o7 : Option Value) (o8 : Option Value) (o9 : Option Value) (o10 : Option Value) (h : pH) : bd S call dflT E_X0_bestSale (n + 1) 6 [some (.ref a0), some (.int x1), some (.int x2), some (.int x3), some (.int x4), some (.int x5), o6, o7, o8, o9, o10] [] h = ((if x2 ≤ x5 then bd S call dflT E_X0_bestSale n 83 [some (.ref a0), some (.int x1), some (.int x2), some (.int x3), some (.int x4), some (.int (-1)), some (.int 0), some (.int 0), some (.int 0), o9, o10] [] h else gV h (.ref a0) 3 1 (fun w1 => rC h w1 5 (cI (call 24 [w1, .int (x1 + x5)] h) (fun y3 h2 => (if y3 = 0 then rC h2 (.ref a0) 3 (cI (call 286 [.ref a0, .int 20, .int (x1 + x5)] h2) (fun y5 h4 => (if y5 = (-1) then bd S call dflT E_X0_bestSale n 45 [some (.ref a0), some (.int x1), some (.int x2), some (.int x3), some (.int x4), some (.int x5), o6, o7, o8, o9, o10] [.int 0] h4 else bd S call dflT E_X0_bestSale n 45 [some (.ref a0), some (.int x1), some (.int x2), some (.int x3), some (.int x4), some (.int x5), o6, o7, o8, o9, o10] [.int 1] h4))) else bd S call dflT E_X0_bestSale n 45 [some (.ref a0), some (.int x1), some (.int x2), some (.int x3), some (.int x4), some (.int x5), o6, o7, o8, o9, o10] [.int 0] h2)))))) := rfl
set_option maxRecDepth 100000 in
theorem g_X0_bestSale_45 (S : sT) (call : cT) (n : Nat) (a0 : Nat) (x1 : Int32) (x2 : Int32) (x3 : Int32) (x4 : Int32) (x5 : Int32) (o6 : Option Value) (o7 : Option Value) (o8 : Option Value) (o9 : Option Value) (o10 : Option Value) (y0 : Int32) (h : pH) : bd S call dflT E_X0_bestSale (n + 1) 45 [some (.ref a0), some (.int x1), some (.int x2), some (.int x3), some (.int x4), some (.int x5), o6, o7, o8, o9, o10] [.int y0] h = ((if y0 = 0 then bd S call dflT E_X0_bestSale n 6 [some (.ref a0), some (.int x1), some (.int x2), some (.int x3), some (.int (x4 ||| 0)), some (.int (x5 + 1)), some (.int y0), o7, o8, o9, o10] [] h else bd S call dflT E_X0_bestSale n 6 [some (.ref a0), some (.int x1), some (.int x2), some (.int x3), some (.int (x4 ||| (1 <<< (x5 &&& 31)))), some (.int (x5 + 1)), some (.int y0), o7, o8, o9, o10] [] h)) := rfl
set_option maxRecDepth 100000 in
theorem g_X0_bestSale_83 (S : sT) (call : cT) (n : Nat) (a0 : Nat) (x1 : Int32) (x2 : Int32) (x3 : Int32) (x4 : Int32) (x5 : Int32) (x6 : Int32) (x7 : Int32) (x8 : Int32) (o9 : Option Value) (o10 : Option Value) (h : pH) : bd S call dflT E_X0_bestSale (n + 1) 83 [some (.ref a0), some (.int x1), some (.int x2), some (.int x3), some (.int x4), some (.int x5), some (.int x6), some (.int x7), some (.int x8), o9, o10] [] h = ((if (1 <<< (x2 &&& 31)) ≤ x8 then some (.inl (some (.int x5)), h) else rC h (.ref a0) 3 (cI (call 347 [.ref a0, .int x1, .int x8] h) (fun y2 h1 => (if (x8 &&& (x4 ^^^ (-1))) = 0 then (if y2 < x3 then bd S call dflT E_X0_bestSale n 83 [some (.ref a0), some (.int x1), some (.int x2), some (.int x3), some (.int x4), some (.int x5), some (.int x6), some (.int x7), some (.int (x8 + 1)), some (.int y2), o10] [] h1 else rC h1 (.ref a0) 3 (cI (call 348 [.ref a0, .int x1, .int x8] h1) (fun y4 h3 => (if x5 = (-1) then bd S call dflT E_X0_bestSale n 83 [some (.ref a0), some (.int x1), some (.int x2), some (.int x3), some (.int x4), some (.int x8), some (.int y4), some (.int y2), some (.int (x8 + 1)), some (.int y2), some (.int y4)] [] h3 else (if y4 < x6 then bd S call dflT E_X0_bestSale n 83 [some (.ref a0), some (.int x1), some (.int x2), some (.int x3), some (.int x4), some (.int x8), some (.int y4), some (.int y2), some (.int (x8 + 1)), some (.int y2), some (.int y4)] [] h3 else (if y4 = x6 then (if x7 ≤ y2 then bd S call dflT E_X0_bestSale n 83 [some (.ref a0), some (.int x1), some (.int x2), some (.int x3), some (.int x4), some (.int x5), some (.int x6), some (.int x7), some (.int (x8 + 1)), some (.int y2), some (.int y4)] [] h3 else bd S call dflT E_X0_bestSale n 83 [some (.ref a0), some (.int x1), some (.int x2), some (.int x3), some (.int x4), some (.int x8), some (.int y4), some (.int y2), some (.int (x8 + 1)), some (.int y2), some (.int y4)] [] h3) else bd S call dflT E_X0_bestSale n 83 [some (.ref a0), some (.int x1), some (.int x2), some (.int x3), some (.int x4), some (.int x5), some (.int x6), some (.int x7), some (.int (x8 + 1)), some (.int y2), some (.int y4)] [] h3)))))) else bd S call dflT E_X0_bestSale n 83 [some (.ref a0), some (.int x1), some (.int x2), some (.int x3), some (.int x4), some (.int x5), some (.int x6), some (.int x7), some (.int (x8 + 1)), some (.int y2), o10] [] h1))))) := rfl
theorem dX0_copyFrom_0 : decode cX0_copyFrom 0 = .ok (.aload_n 0, 1) := by decide +kernel
theorem dX0_copyFrom_1 : decode cX0_copyFrom 1 = .ok (.getfield 12, 3) := by decide +kernel
theorem dX0_copyFrom_4 : decode cX0_copyFrom 4 = .ok (.aload_n 1, 1) := by decide +kernel
theorem dX0_copyFrom_5 : decode cX0_copyFrom 5 = .ok (.getfield 12, 3) := by decide +kernel
theorem dX0_copyFrom_8 : decode cX0_copyFrom 8 = .ok (.invokevirtual 70, 3) := by decide +kernel
theorem dX0_copyFrom_11 : decode cX0_copyFrom 11 = .ok (.aload_n 0, 1) := by decide +kernel
theorem dX0_copyFrom_12 : decode cX0_copyFrom 12 = .ok (.getfield 21, 3) := by decide +kernel
theorem dX0_copyFrom_15 : decode cX0_copyFrom 15 = .ok (.aload_n 1, 1) := by decide +kernel
theorem dX0_copyFrom_16 : decode cX0_copyFrom 16 = .ok (.getfield 21, 3) := by decide +kernel
theorem dX0_copyFrom_19 : decode cX0_copyFrom 19 = .ok (.invokevirtual 74, 3) := by decide +kernel
theorem dX0_copyFrom_22 : decode cX0_copyFrom 22 = .ok (.aload_n 0, 1) := by decide +kernel
theorem dX0_copyFrom_23 : decode cX0_copyFrom 23 = .ok (.getfield 28, 3) := by decide +kernel
theorem dX0_copyFrom_26 : decode cX0_copyFrom 26 = .ok (.aload_n 1, 1) := by decide +kernel
theorem dX0_copyFrom_27 : decode cX0_copyFrom 27 = .ok (.getfield 28, 3) := by decide +kernel
theorem dX0_copyFrom_30 : decode cX0_copyFrom 30 = .ok (.invokevirtual 77, 3) := by decide +kernel
theorem dX0_copyFrom_33 : decode cX0_copyFrom 33 = .ok (.aload_n 0, 1) := by decide +kernel
theorem dX0_copyFrom_34 : decode cX0_copyFrom 34 = .ok (.getfield 35, 3) := by decide +kernel
theorem dX0_copyFrom_37 : decode cX0_copyFrom 37 = .ok (.aload_n 1, 1) := by decide +kernel
theorem dX0_copyFrom_38 : decode cX0_copyFrom 38 = .ok (.getfield 35, 3) := by decide +kernel
theorem dX0_copyFrom_41 : decode cX0_copyFrom 41 = .ok (.invokevirtual 80, 3) := by decide +kernel
theorem dX0_copyFrom_44 : decode cX0_copyFrom 44 = .ok (.aload_n 0, 1) := by decide +kernel
theorem dX0_copyFrom_45 : decode cX0_copyFrom 45 = .ok (.getfield 42, 3) := by decide +kernel
theorem dX0_copyFrom_48 : decode cX0_copyFrom 48 = .ok (.aload_n 1, 1) := by decide +kernel
theorem dX0_copyFrom_49 : decode cX0_copyFrom 49 = .ok (.getfield 42, 3) := by decide +kernel
theorem dX0_copyFrom_52 : decode cX0_copyFrom 52 = .ok (.invokevirtual 83, 3) := by decide +kernel
theorem dX0_copyFrom_55 : decode cX0_copyFrom 55 = .ok (.aload_n 0, 1) := by decide +kernel
theorem dX0_copyFrom_56 : decode cX0_copyFrom 56 = .ok (.getfield 49, 3) := by decide +kernel
theorem dX0_copyFrom_59 : decode cX0_copyFrom 59 = .ok (.aload_n 1, 1) := by decide +kernel
theorem dX0_copyFrom_60 : decode cX0_copyFrom 60 = .ok (.getfield 49, 3) := by decide +kernel
theorem dX0_copyFrom_63 : decode cX0_copyFrom 63 = .ok (.invokevirtual 86, 3) := by decide +kernel
theorem dX0_copyFrom_66 : decode cX0_copyFrom 66 = .ok (.aload_n 0, 1) := by decide +kernel
theorem dX0_copyFrom_67 : decode cX0_copyFrom 67 = .ok (.getfield 56, 3) := by decide +kernel
theorem dX0_copyFrom_70 : decode cX0_copyFrom 70 = .ok (.aload_n 1, 1) := by decide +kernel
theorem dX0_copyFrom_71 : decode cX0_copyFrom 71 = .ok (.getfield 56, 3) := by decide +kernel
theorem dX0_copyFrom_74 : decode cX0_copyFrom 74 = .ok (.invokevirtual 89, 3) := by decide +kernel
theorem dX0_copyFrom_77 : decode cX0_copyFrom 77 = .ok (.aload_n 0, 1) := by decide +kernel
theorem dX0_copyFrom_78 : decode cX0_copyFrom 78 = .ok (.aload_n 1, 1) := by decide +kernel
theorem dX0_copyFrom_79 : decode cX0_copyFrom 79 = .ok (.getfield 92, 3) := by decide +kernel
theorem dX0_copyFrom_82 : decode cX0_copyFrom 82 = .ok (.putfield 92, 3) := by decide +kernel
theorem dX0_copyFrom_85 : decode cX0_copyFrom 85 = .ok (.return_, 1) := by decide +kernel
noncomputable def E_X0_copyFrom : mE := (mX0_copyFrom, [(49, [(0, (.aload_n 0, 1, false, false, 0, 0, 0, 0, 0, 0, [])), (1, (.getfield 12, 4, false, false, 3, 0, 1, 0, 0, 0, [])), (4, (.aload_n 1, 5, false, false, 1, 0, 0, 0, 0, 0, [])), (5, (.getfield 12, 8, false, false, 3, 0, 1, 0, 0, 0, [])), (8, (.invokevirtual 70, 11, false, false, 365, 1, 0, 12, 0, 0, [])), (11, (.aload_n 0, 12, false, false, 0, 0, 0, 0, 0, 0, [])), (12, (.getfield 21, 15, false, false, 3, 1, 1, 0, 0, 0, [])), (15, (.aload_n 1, 16, false, false, 1, 0, 0, 0, 0, 0, [])), (16, (.getfield 21, 19, false, false, 3, 1, 1, 0, 0, 0, [])), (19, (.invokevirtual 74, 22, false, false, 366, 1, 0, 5, 0, 0, [])), (22, (.aload_n 0, 23, false, false, 0, 0, 0, 0, 0, 0, [])), (23, (.getfield 28, 26, false, false, 3, 2, 1, 0, 0, 0, [])), (26, (.aload_n 1, 27, false, false, 1, 0, 0, 0, 0, 0, [])), (27, (.getfield 28, 30, false, false, 3, 2, 1, 0, 0, 0, [])), (30, (.invokevirtual 77, 33, false, false, 367, 1, 0, 4, 0, 0, [])), (33, (.aload_n 0, 34, false, false, 0, 0, 0, 0, 0, 0, [])), (34, (.getfield 35, 37, false, false, 3, 3, 1, 0, 0, 0, [])), (37, (.aload_n 1, 38, false, false, 1, 0, 0, 0, 0, 0, [])), (38, (.getfield 35, 41, false, false, 3, 3, 1, 0, 0, 0, [])), (41, (.invokevirtual 80, 44, false, false, 368, 1, 0, 7, 0, 0, [])), (44, (.aload_n 0, 45, false, false, 0, 0, 0, 0, 0, 0, [])), (45, (.getfield 42, 48, false, false, 3, 4, 1, 0, 0, 0, [])), (48, (.aload_n 1, 49, false, false, 1, 0, 0, 0, 0, 0, [])), (49, (.getfield 42, 52, false, false, 3, 4, 1, 0, 0, 0, []))]),
  (85, [(52, (.invokevirtual 83, 55, false, false, 369, 1, 0, 6, 0, 0, [])), (55, (.aload_n 0, 56, false, false, 0, 0, 0, 0, 0, 0, [])), (56, (.getfield 49, 59, false, false, 3, 5, 1, 0, 0, 0, [])), (59, (.aload_n 1, 60, false, false, 1, 0, 0, 0, 0, 0, [])), (60, (.getfield 49, 63, false, false, 3, 5, 1, 0, 0, 0, [])), (63, (.invokevirtual 86, 66, false, false, 370, 1, 0, 8, 0, 0, [])), (66, (.aload_n 0, 67, false, false, 0, 0, 0, 0, 0, 0, [])), (67, (.getfield 56, 70, false, false, 3, 6, 1, 0, 0, 0, [])), (70, (.aload_n 1, 71, false, false, 1, 0, 0, 0, 0, 0, [])), (71, (.getfield 56, 74, false, false, 3, 6, 1, 0, 0, 0, [])), (74, (.invokevirtual 89, 77, false, false, 371, 1, 0, 10, 0, 0, [])), (77, (.aload_n 0, 78, false, false, 0, 0, 0, 0, 0, 0, [])), (78, (.aload_n 1, 79, false, false, 1, 0, 0, 0, 0, 0, [])), (79, (.getfield 92, 82, false, false, 3, 7, 0, 0, 0, 0, [])), (82, (.putfield 92, 85, false, false, 3, 7, 0, 0, 0, 0, [])), (85, (.return_, 86, false, false, 0, 0, 0, 0, 0, 0, []))])], 0, [])
set_option maxRecDepth 100000 in
theorem v_X0_copyFrom : VE MYT dflT E_X0_copyFrom := ⟨⟨⟨⟨⟨dX0_copyFrom_0, rfl⟩, rfl⟩, ⟨⟨dX0_copyFrom_1, rfl⟩, Or.inl ⟨by decide, _, _, fX0_12⟩⟩, ⟨⟨dX0_copyFrom_4, rfl⟩, rfl⟩, ⟨⟨dX0_copyFrom_5, rfl⟩, Or.inl ⟨by decide, _, _, fX0_12⟩⟩, ⟨⟨dX0_copyFrom_8, rfl⟩, Or.inr ⟨by decide, ⟨_, my_365, sX0_70⟩, fun q => absurd q (by decide)⟩⟩, ⟨⟨dX0_copyFrom_11, rfl⟩, rfl⟩, ⟨⟨dX0_copyFrom_12, rfl⟩, Or.inl ⟨by decide, _, _, fX0_21⟩⟩, ⟨⟨dX0_copyFrom_15, rfl⟩, rfl⟩, ⟨⟨dX0_copyFrom_16, rfl⟩, Or.inl ⟨by decide, _, _, fX0_21⟩⟩, ⟨⟨dX0_copyFrom_19, rfl⟩, Or.inr ⟨by decide, ⟨_, my_366, sX0_74⟩, fun q => absurd q (by decide)⟩⟩, ⟨⟨dX0_copyFrom_22, rfl⟩, rfl⟩, ⟨⟨dX0_copyFrom_23, rfl⟩, Or.inl ⟨by decide, _, _, fX0_28⟩⟩, ⟨⟨dX0_copyFrom_26, rfl⟩, rfl⟩, ⟨⟨dX0_copyFrom_27, rfl⟩, Or.inl ⟨by decide, _, _, fX0_28⟩⟩, ⟨⟨dX0_copyFrom_30, rfl⟩, Or.inr ⟨by decide, ⟨_, my_367, sX0_77⟩, fun q => absurd q (by decide)⟩⟩, ⟨⟨dX0_copyFrom_33, rfl⟩, rfl⟩, ⟨⟨dX0_copyFrom_34, rfl⟩, Or.inl ⟨by decide, _, _, fX0_35⟩⟩, ⟨⟨dX0_copyFrom_37, rfl⟩, rfl⟩, ⟨⟨dX0_copyFrom_38, rfl⟩, Or.inl ⟨by decide, _, _, fX0_35⟩⟩, ⟨⟨dX0_copyFrom_41, rfl⟩, Or.inr ⟨by decide, ⟨_, my_368, sX0_80⟩, fun q => absurd q (by decide)⟩⟩, ⟨⟨dX0_copyFrom_44, rfl⟩, rfl⟩, ⟨⟨dX0_copyFrom_45, rfl⟩, Or.inl ⟨by decide, _, _, fX0_42⟩⟩, ⟨⟨dX0_copyFrom_48, rfl⟩, rfl⟩, ⟨⟨dX0_copyFrom_49, rfl⟩, Or.inl ⟨by decide, _, _, fX0_42⟩⟩, trivial⟩,
  ⟨⟨⟨dX0_copyFrom_52, rfl⟩, Or.inr ⟨by decide, ⟨_, my_369, sX0_83⟩, fun q => absurd q (by decide)⟩⟩, ⟨⟨dX0_copyFrom_55, rfl⟩, rfl⟩, ⟨⟨dX0_copyFrom_56, rfl⟩, Or.inl ⟨by decide, _, _, fX0_49⟩⟩, ⟨⟨dX0_copyFrom_59, rfl⟩, rfl⟩, ⟨⟨dX0_copyFrom_60, rfl⟩, Or.inl ⟨by decide, _, _, fX0_49⟩⟩, ⟨⟨dX0_copyFrom_63, rfl⟩, Or.inr ⟨by decide, ⟨_, my_370, sX0_86⟩, fun q => absurd q (by decide)⟩⟩, ⟨⟨dX0_copyFrom_66, rfl⟩, rfl⟩, ⟨⟨dX0_copyFrom_67, rfl⟩, Or.inl ⟨by decide, _, _, fX0_56⟩⟩, ⟨⟨dX0_copyFrom_70, rfl⟩, rfl⟩, ⟨⟨dX0_copyFrom_71, rfl⟩, Or.inl ⟨by decide, _, _, fX0_56⟩⟩, ⟨⟨dX0_copyFrom_74, rfl⟩, Or.inr ⟨by decide, ⟨_, my_371, sX0_89⟩, fun q => absurd q (by decide)⟩⟩, ⟨⟨dX0_copyFrom_77, rfl⟩, rfl⟩, ⟨⟨dX0_copyFrom_78, rfl⟩, rfl⟩, ⟨⟨dX0_copyFrom_79, rfl⟩, Or.inl ⟨by decide, _, _, fX0_92⟩⟩, ⟨⟨dX0_copyFrom_82, rfl⟩, Or.inl ⟨rfl, fX0_92⟩⟩, ⟨⟨dX0_copyFrom_85, rfl⟩, rfl⟩, trivial⟩, trivial⟩, by decide, Or.inl ⟨rfl, by decide, rfl⟩⟩
set_option maxRecDepth 100000 in
theorem g_X0_copyFrom_0 (S : sT) (call : cT) (n : Nat) (a0 : Nat) (v1 : Value) (h : pH) : bd S call dflT E_X0_copyFrom (n + 1) 0 [some (.ref a0), some (v1)] [] h = (gV h (.ref a0) 3 0 (fun w1 => iA v1 (gV h v1 3 0 (fun w2 => rC h w1 12 (cU (call 365 [w1, w2] h) (fun h3 => gV h3 (.ref a0) 3 1 (fun w4 => iA v1 (gV h3 v1 3 1 (fun w5 => rC h3 w4 5 (cU (call 366 [w4, w5] h3) (fun h6 => gV h6 (.ref a0) 3 2 (fun w7 => iA v1 (gV h6 v1 3 2 (fun w8 => rC h6 w7 4 (cU (call 367 [w7, w8] h6) (fun h9 => gV h9 (.ref a0) 3 3 (fun w10 => iA v1 (gV h9 v1 3 3 (fun w11 => rC h9 w10 7 (cU (call 368 [w10, w11] h9) (fun h12 => gV h12 (.ref a0) 3 4 (fun w13 => iA v1 (gV h12 v1 3 4 (fun w14 => rC h12 w13 6 (cU (call 369 [w13, w14] h12) (fun h15 => gV h15 (.ref a0) 3 5 (fun w16 => iA v1 (gV h15 v1 3 5 (fun w17 => rC h15 w16 8 (cU (call 370 [w16, w17] h15) (fun h18 => gV h18 (.ref a0) 3 6 (fun w19 => iA v1 (gV h18 v1 3 6 (fun w20 => rC h18 w19 10 (cU (call 371 [w19, w20] h18) (fun h21 => iA v1 (gI h21 v1 3 7 (fun y22 => pF h21 (.ref a0) 3 7 (.int y22) (fun h23 => some (.inl none, h23)))))))))))))))))))))))))))))))))))))))) := rfl
