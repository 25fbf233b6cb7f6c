/-! by program: methods as data, that they are right, what their bodies do -/
theorem dX12_isBarred_0 : decode cX12_isBarred 0 = .ok (.iconst 0, 1) := by decide +kernel
theorem dX12_isBarred_1 : decode cX12_isBarred 1 = .ok (.istore 4, 2) := by decide +kernel
theorem dX12_isBarred_3 : decode cX12_isBarred 3 = .ok (.iconst 0, 1) := by decide +kernel
theorem dX12_isBarred_4 : decode cX12_isBarred 4 = .ok (.istore 5, 2) := by decide +kernel
theorem dX12_isBarred_6 : decode cX12_isBarred 6 = .ok (.iload 5, 2) := by decide +kernel
theorem dX12_isBarred_8 : decode cX12_isBarred 8 = .ok (.aload_n 0, 1) := by decide +kernel
theorem dX12_isBarred_9 : decode cX12_isBarred 9 = .ok (.bipush 12, 2) := by decide +kernel
theorem dX12_isBarred_11 : decode cX12_isBarred 11 = .ok (.iload_n 1, 1) := by decide +kernel
theorem dX12_isBarred_12 : decode cX12_isBarred 12 = .ok (.iadd, 1) := by decide +kernel
theorem dX12_isBarred_13 : decode cX12_isBarred 13 = .ok (.invokevirtual 299, 3) := by decide +kernel
theorem dX12_isBarred_16 : decode cX12_isBarred 16 = .ok (.if_icmp .ge 69, 3) := by decide +kernel
theorem dX12_isBarred_19 : decode cX12_isBarred 19 = .ok (.bipush 12, 2) := by decide +kernel
theorem dX12_isBarred_21 : decode cX12_isBarred 21 = .ok (.iload_n 1, 1) := by decide +kernel
theorem dX12_isBarred_22 : decode cX12_isBarred 22 = .ok (.iadd, 1) := by decide +kernel
theorem dX12_isBarred_23 : decode cX12_isBarred 23 = .ok (.iload 5, 2) := by decide +kernel
theorem dX12_isBarred_25 : decode cX12_isBarred 25 = .ok (.invokestatic 275, 3) := by decide +kernel
theorem dX12_isBarred_28 : decode cX12_isBarred 28 = .ok (.istore 6, 2) := by decide +kernel
theorem dX12_isBarred_30 : decode cX12_isBarred 30 = .ok (.iload 4, 2) := by decide +kernel
theorem dX12_isBarred_32 : decode cX12_isBarred 32 = .ok (.ifCond .ne 40, 3) := by decide +kernel
theorem dX12_isBarred_35 : decode cX12_isBarred 35 = .ok (.aload_n 0, 1) := by decide +kernel
theorem dX12_isBarred_36 : decode cX12_isBarred 36 = .ok (.getfield 27, 3) := by decide +kernel
theorem dX12_isBarred_39 : decode cX12_isBarred 39 = .ok (.iload 6, 2) := by decide +kernel
theorem dX12_isBarred_41 : decode cX12_isBarred 41 = .ok (.iaload, 1) := by decide +kernel
theorem dX12_isBarred_42 : decode cX12_isBarred 42 = .ok (.iconst 2, 1) := by decide +kernel
theorem dX12_isBarred_43 : decode cX12_isBarred 43 = .ok (.if_icmp .ne 33, 3) := by decide +kernel
theorem dX12_isBarred_46 : decode cX12_isBarred 46 = .ok (.aload_n 0, 1) := by decide +kernel
theorem dX12_isBarred_47 : decode cX12_isBarred 47 = .ok (.getfield 27, 3) := by decide +kernel
theorem dX12_isBarred_50 : decode cX12_isBarred 50 = .ok (.iload 6, 2) := by decide +kernel
theorem dX12_isBarred_52 : decode cX12_isBarred 52 = .ok (.iconst 2, 1) := by decide +kernel
theorem dX12_isBarred_53 : decode cX12_isBarred 53 = .ok (.iadd, 1) := by decide +kernel
theorem dX12_isBarred_54 : decode cX12_isBarred 54 = .ok (.iaload, 1) := by decide +kernel
theorem dX12_isBarred_55 : decode cX12_isBarred 55 = .ok (.iload_n 2, 1) := by decide +kernel
theorem dX12_isBarred_56 : decode cX12_isBarred 56 = .ok (.if_icmp .ne 20, 3) := by decide +kernel
theorem dX12_isBarred_59 : decode cX12_isBarred 59 = .ok (.aload_n 0, 1) := by decide +kernel
theorem dX12_isBarred_60 : decode cX12_isBarred 60 = .ok (.getfield 27, 3) := by decide +kernel
theorem dX12_isBarred_63 : decode cX12_isBarred 63 = .ok (.iload 6, 2) := by decide +kernel
theorem dX12_isBarred_65 : decode cX12_isBarred 65 = .ok (.iconst 3, 1) := by decide +kernel
theorem dX12_isBarred_66 : decode cX12_isBarred 66 = .ok (.iadd, 1) := by decide +kernel
theorem dX12_isBarred_67 : decode cX12_isBarred 67 = .ok (.iaload, 1) := by decide +kernel
theorem dX12_isBarred_68 : decode cX12_isBarred 68 = .ok (.iload_n 3, 1) := by decide +kernel
theorem dX12_isBarred_69 : decode cX12_isBarred 69 = .ok (.if_icmp .ne 7, 3) := by decide +kernel
theorem dX12_isBarred_72 : decode cX12_isBarred 72 = .ok (.iconst 1, 1) := by decide +kernel
theorem dX12_isBarred_73 : decode cX12_isBarred 73 = .ok (.goto 4, 3) := by decide +kernel
theorem dX12_isBarred_76 : decode cX12_isBarred 76 = .ok (.iconst 0, 1) := by decide +kernel
theorem dX12_isBarred_77 : decode cX12_isBarred 77 = .ok (.istore 4, 2) := by decide +kernel
theorem dX12_isBarred_79 : decode cX12_isBarred 79 = .ok (.iinc 5 1, 3) := by decide +kernel
theorem dX12_isBarred_82 : decode cX12_isBarred 82 = .ok (.goto (-76), 3) := by decide +kernel
theorem dX12_isBarred_85 : decode cX12_isBarred 85 = .ok (.iload 4, 2) := by decide +kernel
theorem dX12_isBarred_87 : decode cX12_isBarred 87 = .ok (.ireturn, 1) := by decide +kernel
noncomputable def E_X12_isBarred : mE := (mX12_isBarred, [(42, [(0, (.iconst 0, 1, false, false, 0, 0, 0, 0, 0, 0, [])), (1, (.istore 4, 3, false, false, 4, 0, 0, 0, 0, 0, [])), (3, (.iconst 0, 4, false, false, 0, 0, 0, 0, 0, 0, [])), (4, (.istore 5, 6, true, false, 5, 0, 0, 0, 0, 0, [])), (6, (.iload 5, 8, false, false, 5, 0, 0, 0, 0, 0, [])), (8, (.aload_n 0, 9, false, false, 0, 0, 0, 0, 0, 0, [])), (9, (.bipush 12, 11, false, false, 0, 0, 0, 0, 12, 0, [])), (11, (.iload_n 1, 12, false, false, 1, 0, 0, 0, 0, 0, [])), (12, (.iadd, 13, false, false, 0, 0, 0, 0, 0, 0, [])), (13, (.invokevirtual 299, 16, false, false, 141, 1, 1, 15, 0, 0, [])), (16, (.if_icmp .ge 69, 19, false, false, 85, 0, 0, 0, 0, 0, [])), (19, (.bipush 12, 21, false, false, 0, 0, 0, 0, 12, 0, [])), (21, (.iload_n 1, 22, false, false, 1, 0, 0, 0, 0, 0, [])), (22, (.iadd, 23, false, false, 0, 0, 0, 0, 0, 0, [])), (23, (.iload 5, 25, false, false, 5, 0, 0, 0, 0, 0, [])), (25, (.invokestatic 275, 28, false, false, 117, 2, 1, 0, 0, 0, [])), (28, (.istore 6, 30, false, false, 6, 0, 0, 0, 0, 0, [])), (30, (.iload 4, 32, false, false, 4, 0, 0, 0, 0, 0, [])), (32, (.ifCond .ne 40, 35, false, false, 72, 0, 0, 0, 0, 0, [])), (35, (.aload_n 0, 36, false, false, 0, 0, 0, 0, 0, 0, [])), (36, (.getfield 27, 39, false, false, 15, 1, 1, 0, 0, 0, [])), (39, (.iload 6, 41, false, false, 6, 0, 0, 0, 0, 0, [])), (41, (.iaload, 42, false, false, 0, 0, 0, 0, 0, 0, [])), (42, (.iconst 2, 43, false, false, 0, 0, 0, 0, 2, 0, []))]),
  (85, [(43, (.if_icmp .ne 33, 46, false, false, 76, 0, 0, 0, 0, 0, [])), (46, (.aload_n 0, 47, false, false, 0, 0, 0, 0, 0, 0, [])), (47, (.getfield 27, 50, false, false, 15, 1, 1, 0, 0, 0, [])), (50, (.iload 6, 52, false, false, 6, 0, 0, 0, 0, 0, [])), (52, (.iconst 2, 53, false, false, 0, 0, 0, 0, 2, 0, [])), (53, (.iadd, 54, false, false, 0, 0, 0, 0, 0, 0, [])), (54, (.iaload, 55, false, false, 0, 0, 0, 0, 0, 0, [])), (55, (.iload_n 2, 56, false, false, 2, 0, 0, 0, 0, 0, [])), (56, (.if_icmp .ne 20, 59, false, false, 76, 0, 0, 0, 0, 0, [])), (59, (.aload_n 0, 60, false, false, 0, 0, 0, 0, 0, 0, [])), (60, (.getfield 27, 63, false, false, 15, 1, 1, 0, 0, 0, [])), (63, (.iload 6, 65, false, false, 6, 0, 0, 0, 0, 0, [])), (65, (.iconst 3, 66, false, false, 0, 0, 0, 0, 3, 0, [])), (66, (.iadd, 67, false, false, 0, 0, 0, 0, 0, 0, [])), (67, (.iaload, 68, false, false, 0, 0, 0, 0, 0, 0, [])), (68, (.iload_n 3, 69, false, false, 3, 0, 0, 0, 0, 0, [])), (69, (.if_icmp .ne 7, 72, false, false, 76, 0, 0, 0, 0, 0, [])), (72, (.iconst 1, 73, false, false, 0, 0, 0, 0, 1, 0, [])), (73, (.goto 4, 76, false, false, 77, 0, 0, 0, 0, 0, [])), (76, (.iconst 0, 77, false, false, 0, 0, 0, 0, 0, 0, [])), (77, (.istore 4, 79, false, false, 4, 0, 0, 0, 0, 0, [])), (79, (.iinc 5 1, 82, false, false, 5, 0, 0, 0, 1, 0, [])), (82, (.goto (-76), 85, false, true, 6, 0, 0, 0, 0, 0, [])), (85, (.iload 4, 87, false, false, 4, 0, 0, 0, 0, 0, []))]),
  (87, [(87, (.ireturn, 88, false, false, 0, 0, 1, 0, 0, 0, []))])], 0, [])
set_option maxRecDepth 100000 in
theorem v_X12_isBarred : VE MYT dflT E_X12_isBarred := ⟨⟨⟨⟨⟨dX12_isBarred_0, rfl⟩, rfl⟩, ⟨⟨dX12_isBarred_1, rfl⟩, rfl⟩, ⟨⟨dX12_isBarred_3, rfl⟩, rfl⟩, ⟨⟨dX12_isBarred_4, rfl⟩, rfl⟩, ⟨⟨dX12_isBarred_6, rfl⟩, rfl⟩, ⟨⟨dX12_isBarred_8, rfl⟩, rfl⟩, ⟨⟨dX12_isBarred_9, rfl⟩, rfl⟩, ⟨⟨dX12_isBarred_11, rfl⟩, rfl⟩, ⟨⟨dX12_isBarred_12, rfl⟩, trivial⟩, ⟨⟨dX12_isBarred_13, rfl⟩, Or.inr ⟨by decide, ⟨_, my_141, sX12_299⟩, fun q => absurd q (by decide)⟩⟩, ⟨⟨dX12_isBarred_16, rfl⟩, rfl⟩, ⟨⟨dX12_isBarred_19, rfl⟩, rfl⟩, ⟨⟨dX12_isBarred_21, rfl⟩, rfl⟩, ⟨⟨dX12_isBarred_22, rfl⟩, trivial⟩, ⟨⟨dX12_isBarred_23, rfl⟩, rfl⟩, ⟨⟨dX12_isBarred_25, rfl⟩, Or.inl ⟨rfl, _, my_117, sX12_275⟩⟩, ⟨⟨dX12_isBarred_28, rfl⟩, rfl⟩, ⟨⟨dX12_isBarred_30, rfl⟩, rfl⟩, ⟨⟨dX12_isBarred_32, rfl⟩, rfl⟩, ⟨⟨dX12_isBarred_35, rfl⟩, rfl⟩, ⟨⟨dX12_isBarred_36, rfl⟩, Or.inl ⟨by decide, _, _, fX12_27⟩⟩, ⟨⟨dX12_isBarred_39, rfl⟩, rfl⟩, ⟨⟨dX12_isBarred_41, rfl⟩, trivial⟩, ⟨⟨dX12_isBarred_42, rfl⟩, rfl⟩, trivial⟩,
  ⟨⟨⟨dX12_isBarred_43, rfl⟩, rfl⟩, ⟨⟨dX12_isBarred_46, rfl⟩, rfl⟩, ⟨⟨dX12_isBarred_47, rfl⟩, Or.inl ⟨by decide, _, _, fX12_27⟩⟩, ⟨⟨dX12_isBarred_50, rfl⟩, rfl⟩, ⟨⟨dX12_isBarred_52, rfl⟩, rfl⟩, ⟨⟨dX12_isBarred_53, rfl⟩, trivial⟩, ⟨⟨dX12_isBarred_54, rfl⟩, trivial⟩, ⟨⟨dX12_isBarred_55, rfl⟩, rfl⟩, ⟨⟨dX12_isBarred_56, rfl⟩, rfl⟩, ⟨⟨dX12_isBarred_59, rfl⟩, rfl⟩, ⟨⟨dX12_isBarred_60, rfl⟩, Or.inl ⟨by decide, _, _, fX12_27⟩⟩, ⟨⟨dX12_isBarred_63, rfl⟩, rfl⟩, ⟨⟨dX12_isBarred_65, rfl⟩, rfl⟩, ⟨⟨dX12_isBarred_66, rfl⟩, trivial⟩, ⟨⟨dX12_isBarred_67, rfl⟩, trivial⟩, ⟨⟨dX12_isBarred_68, rfl⟩, rfl⟩, ⟨⟨dX12_isBarred_69, rfl⟩, rfl⟩, ⟨⟨dX12_isBarred_72, rfl⟩, rfl⟩, ⟨⟨dX12_isBarred_73, rfl⟩, rfl⟩, ⟨⟨dX12_isBarred_76, rfl⟩, rfl⟩, ⟨⟨dX12_isBarred_77, rfl⟩, rfl⟩, ⟨⟨dX12_isBarred_79, rfl⟩, ⟨rfl, rfl⟩⟩, ⟨⟨dX12_isBarred_82, rfl⟩, rfl⟩, ⟨⟨dX12_isBarred_85, rfl⟩, rfl⟩, trivial⟩,
  ⟨⟨⟨dX12_isBarred_87, rfl⟩, Or.inr (Or.inl ⟨rfl, rfl⟩)⟩, trivial⟩, trivial⟩, by decide, Or.inl ⟨rfl, by decide, rfl⟩⟩
set_option maxRecDepth 100000 in
theorem g_X12_isBarred_0 (S : sT) (call : cT) (n : Nat) (a0 : Nat) (x1 : Int32) (x2 : Int32) (x3 : Int32) (h : pH) : bd S call dflT E_X12_isBarred (n + 1) 0 [some (.ref a0), some (.int x1), some (.int x2), some (.int x3), none, none, none] [] h = (bd S call dflT E_X12_isBarred n 6 [some (.ref a0), some (.int x1), some (.int x2), some (.int x3), some (.int 0), some (.int 0), none] [] h) := rfl
set_option maxRecDepth 100000 in
theorem g_X12_isBarred_6 (S : sT) (call : cT) (n : Nat) (a0 : Nat) (x1 : Int32) (x2 : Int32) (x3 : Int32) (x4 : Int32) (x5 : Int32) (o6 : Option Value) (h : pH) : bd S call dflT E_X12_isBarred (n + 1) 6 [some (.ref a0), some (.int x1), some (.int x2), some (.int x3), some (.int x4), some (.int x5), o6] [] h = (rC h (.ref a0) 15 (cI (call 141 [.ref a0, .int (12 + x1)] h) (fun y2 h1 => (if y2 ≤ x5 then zR x4 (some (.inl (some (.int x4)), h1)) else cI (call 117 [.int (12 + x1), .int x5] h1) (fun y4 h3 => (if x4 = 0 then gV h3 (.ref a0) 15 1 (fun w5 => aI h3 w5 0 y4 (fun y6 => (if y6 = 2 then gV h3 (.ref a0) 15 1 (fun w7 => aI h3 w7 0 (y4 + 2) (fun y8 => (if y8 = x2 then gV h3 (.ref a0) 15 1 (fun w9 => aI h3 w9 0 (y4 + 3) (fun y10 => (if y10 = x3 then bd S call dflT E_X12_isBarred n 6 [some (.ref a0), some (.int x1), some (.int x2), some (.int x3), some (.int 1), some (.int (x5 + 1)), some (.int y4)] [] h3 else bd S call dflT E_X12_isBarred n 6 [some (.ref a0), some (.int x1), some (.int x2), some (.int x3), some (.int 0), some (.int (x5 + 1)), some (.int y4)] [] h3))) else bd S call dflT E_X12_isBarred n 6 [some (.ref a0), some (.int x1), some (.int x2), some (.int x3), some (.int 0), some (.int (x5 + 1)), some (.int y4)] [] h3))) else bd S call dflT E_X12_isBarred n 6 [some (.ref a0), some (.int x1), some (.int x2), some (.int x3), some (.int 0), some (.int (x5 + 1)), some (.int y4)] [] h3))) else bd S call dflT E_X12_isBarred n 6 [some (.ref a0), some (.int x1), some (.int x2), some (.int x3), some (.int 1), some (.int (x5 + 1)), some (.int y4)] [] h3)))))) := rfl
theorem dX12_priceOf_0 : decode cX12_priceOf 0 = .ok (.iload_n 1, 1) := by decide +kernel
theorem dX12_priceOf_1 : decode cX12_priceOf 1 = .ok (.iconst 1, 1) := by decide +kernel
theorem dX12_priceOf_2 : decode cX12_priceOf 2 = .ok (.iconst 4, 1) := by decide +kernel
theorem dX12_priceOf_3 : decode cX12_priceOf 3 = .ok (.invokestatic 63, 3) := by decide +kernel
theorem dX12_priceOf_6 : decode cX12_priceOf 6 = .ok (.ifCond .eq 19, 3) := by decide +kernel
theorem dX12_priceOf_9 : decode cX12_priceOf 9 = .ok (.aload_n 0, 1) := by decide +kernel
theorem dX12_priceOf_10 : decode cX12_priceOf 10 = .ok (.iload_n 1, 1) := by decide +kernel
theorem dX12_priceOf_11 : decode cX12_priceOf 11 = .ok (.aload_n 0, 1) := by decide +kernel
theorem dX12_priceOf_12 : decode cX12_priceOf 12 = .ok (.invokevirtual 97, 3) := by decide +kernel
theorem dX12_priceOf_15 : decode cX12_priceOf 15 = .ok (.aload_n 0, 1) := by decide +kernel
theorem dX12_priceOf_16 : decode cX12_priceOf 16 = .ok (.invokevirtual 89, 3) := by decide +kernel
theorem dX12_priceOf_19 : decode cX12_priceOf 19 = .ok (.invokevirtual 93, 3) := by decide +kernel
theorem dX12_priceOf_22 : decode cX12_priceOf 22 = .ok (.goto 4, 3) := by decide +kernel
theorem dX12_priceOf_25 : decode cX12_priceOf 25 = .ok (.iconst 0, 1) := by decide +kernel
theorem dX12_priceOf_26 : decode cX12_priceOf 26 = .ok (.ireturn, 1) := by decide +kernel
noncomputable def E_X12_priceOf : mE := (mX12_priceOf, [(26, [(0, (.iload_n 1, 1, false, false, 1, 0, 0, 0, 0, 0, [])), (1, (.iconst 1, 2, false, false, 0, 0, 0, 0, 1, 0, [])), (2, (.iconst 4, 3, false, false, 0, 0, 0, 0, 4, 0, [])), (3, (.invokestatic 63, 6, false, false, 28, 3, 1, 0, 0, 0, [])), (6, (.ifCond .eq 19, 9, false, false, 25, 0, 0, 0, 0, 0, [])), (9, (.aload_n 0, 10, false, false, 0, 0, 0, 0, 0, 0, [])), (10, (.iload_n 1, 11, false, false, 1, 0, 0, 0, 0, 0, [])), (11, (.aload_n 0, 12, false, false, 0, 0, 0, 0, 0, 0, [])), (12, (.invokevirtual 97, 15, false, false, 152, 0, 1, 15, 0, 0, [])), (15, (.aload_n 0, 16, false, false, 0, 0, 0, 0, 0, 0, [])), (16, (.invokevirtual 89, 19, false, false, 48, 0, 1, 15, 0, 0, [])), (19, (.invokevirtual 93, 22, false, false, 53, 3, 1, 15, 0, 0, [])), (22, (.goto 4, 25, false, false, 26, 0, 0, 0, 0, 0, [])), (25, (.iconst 0, 26, false, false, 0, 0, 0, 0, 0, 0, [])), (26, (.ireturn, 27, false, false, 0, 0, 0, 0, 0, 0, []))])], 0, [])
set_option maxRecDepth 100000 in
theorem v_X12_priceOf : VE MYT dflT E_X12_priceOf := ⟨⟨⟨⟨⟨dX12_priceOf_0, rfl⟩, rfl⟩, ⟨⟨dX12_priceOf_1, rfl⟩, rfl⟩, ⟨⟨dX12_priceOf_2, rfl⟩, rfl⟩, ⟨⟨dX12_priceOf_3, rfl⟩, Or.inl ⟨rfl, _, my_28, sX12_63⟩⟩, ⟨⟨dX12_priceOf_6, rfl⟩, rfl⟩, ⟨⟨dX12_priceOf_9, rfl⟩, rfl⟩, ⟨⟨dX12_priceOf_10, rfl⟩, rfl⟩, ⟨⟨dX12_priceOf_11, rfl⟩, rfl⟩, ⟨⟨dX12_priceOf_12, rfl⟩, Or.inr ⟨by decide, ⟨_, my_152, sX12_97⟩, fun q => absurd q (by decide)⟩⟩, ⟨⟨dX12_priceOf_15, rfl⟩, rfl⟩, ⟨⟨dX12_priceOf_16, rfl⟩, Or.inr ⟨by decide, ⟨_, my_48, sX12_89⟩, fun q => absurd q (by decide)⟩⟩, ⟨⟨dX12_priceOf_19, rfl⟩, Or.inr ⟨by decide, ⟨_, my_53, sX12_93⟩, fun q => absurd q (by decide)⟩⟩, ⟨⟨dX12_priceOf_22, rfl⟩, rfl⟩, ⟨⟨dX12_priceOf_25, rfl⟩, rfl⟩, ⟨⟨dX12_priceOf_26, rfl⟩, Or.inl ⟨rfl, rfl⟩⟩, trivial⟩, trivial⟩, by decide, Or.inl ⟨rfl, by decide, rfl⟩⟩
set_option maxRecDepth 100000 in
theorem g_X12_priceOf_0 (S : sT) (call : cT) (n : Nat) (a0 : Nat) (x1 : Int32) (h : pH) : bd S call dflT E_X12_priceOf (n + 1) 0 [some (.ref a0), some (.int x1)] [] h = (cI (call 28 [.int x1, .int 1, .int 4] h) (fun y2 h1 => (if y2 = 0 then some (.inl (some (.int 0)), h1) else rC h1 (.ref a0) 15 (cI (call 152 [.ref a0] h1) (fun y4 h3 => rC h3 (.ref a0) 15 (cI (call 48 [.ref a0] h3) (fun y6 h5 => rC h5 (.ref a0) 15 (cI (call 53 [.ref a0, .int x1, .int y4, .int y6] h5) (fun y8 h7 => some (.inl (some (.int y8)), h7)))))))))) := rfl
theorem dX12_yieldOf_0 : decode cX12_yieldOf 0 = .ok (.iload_n 2, 1) := by decide +kernel
theorem dX12_yieldOf_1 : decode cX12_yieldOf 1 = .ok (.iconst 1, 1) := by decide +kernel
theorem dX12_yieldOf_2 : decode cX12_yieldOf 2 = .ok (.iconst 4, 1) := by decide +kernel
theorem dX12_yieldOf_3 : decode cX12_yieldOf 3 = .ok (.invokestatic 63, 3) := by decide +kernel
theorem dX12_yieldOf_6 : decode cX12_yieldOf 6 = .ok (.ifCond .ne 5, 3) := by decide +kernel
theorem dX12_yieldOf_9 : decode cX12_yieldOf 9 = .ok (.iconst 0, 1) := by decide +kernel
theorem dX12_yieldOf_10 : decode cX12_yieldOf 10 = .ok (.ireturn, 1) := by decide +kernel
theorem dX12_yieldOf_11 : decode cX12_yieldOf 11 = .ok (.bipush 9, 2) := by decide +kernel
theorem dX12_yieldOf_13 : decode cX12_yieldOf 13 = .ok (.iload_n 2, 1) := by decide +kernel
theorem dX12_yieldOf_14 : decode cX12_yieldOf 14 = .ok (.isub, 1) := by decide +kernel
theorem dX12_yieldOf_15 : decode cX12_yieldOf 15 = .ok (.aload_n 0, 1) := by decide +kernel
theorem dX12_yieldOf_16 : decode cX12_yieldOf 16 = .ok (.iload_n 1, 1) := by decide +kernel
theorem dX12_yieldOf_17 : decode cX12_yieldOf 17 = .ok (.iconst 0, 1) := by decide +kernel
theorem dX12_yieldOf_18 : decode cX12_yieldOf 18 = .ok (.invokevirtual 79, 3) := by decide +kernel
theorem dX12_yieldOf_21 : decode cX12_yieldOf 21 = .ok (.iadd, 1) := by decide +kernel
theorem dX12_yieldOf_22 : decode cX12_yieldOf 22 = .ok (.iload_n 3, 1) := by decide +kernel
theorem dX12_yieldOf_23 : decode cX12_yieldOf 23 = .ok (.iadd, 1) := by decide +kernel
theorem dX12_yieldOf_24 : decode cX12_yieldOf 24 = .ok (.aload_n 0, 1) := by decide +kernel
theorem dX12_yieldOf_25 : decode cX12_yieldOf 25 = .ok (.iload_n 1, 1) := by decide +kernel
theorem dX12_yieldOf_26 : decode cX12_yieldOf 26 = .ok (.iconst 5, 1) := by decide +kernel
theorem dX12_yieldOf_27 : decode cX12_yieldOf 27 = .ok (.invokevirtual 79, 3) := by decide +kernel
theorem dX12_yieldOf_30 : decode cX12_yieldOf 30 = .ok (.ifCond .le 7, 3) := by decide +kernel
theorem dX12_yieldOf_33 : decode cX12_yieldOf 33 = .ok (.iconst 2, 1) := by decide +kernel
theorem dX12_yieldOf_34 : decode cX12_yieldOf 34 = .ok (.goto 4, 3) := by decide +kernel
theorem dX12_yieldOf_37 : decode cX12_yieldOf 37 = .ok (.iconst 0, 1) := by decide +kernel
theorem dX12_yieldOf_38 : decode cX12_yieldOf 38 = .ok (.iadd, 1) := by decide +kernel
theorem dX12_yieldOf_39 : decode cX12_yieldOf 39 = .ok (.aload_n 0, 1) := by decide +kernel
theorem dX12_yieldOf_40 : decode cX12_yieldOf 40 = .ok (.iload_n 1, 1) := by decide +kernel
theorem dX12_yieldOf_41 : decode cX12_yieldOf 41 = .ok (.iconst 2, 1) := by decide +kernel
theorem dX12_yieldOf_42 : decode cX12_yieldOf 42 = .ok (.invokevirtual 79, 3) := by decide +kernel
theorem dX12_yieldOf_45 : decode cX12_yieldOf 45 = .ok (.iconst 2, 1) := by decide +kernel
theorem dX12_yieldOf_46 : decode cX12_yieldOf 46 = .ok (.idiv, 1) := by decide +kernel
theorem dX12_yieldOf_47 : decode cX12_yieldOf 47 = .ok (.isub, 1) := by decide +kernel
theorem dX12_yieldOf_48 : decode cX12_yieldOf 48 = .ok (.aload_n 0, 1) := by decide +kernel
theorem dX12_yieldOf_49 : decode cX12_yieldOf 49 = .ok (.iload_n 1, 1) := by decide +kernel
theorem dX12_yieldOf_50 : decode cX12_yieldOf 50 = .ok (.iconst 4, 1) := by decide +kernel
theorem dX12_yieldOf_51 : decode cX12_yieldOf 51 = .ok (.invokevirtual 79, 3) := by decide +kernel
theorem dX12_yieldOf_54 : decode cX12_yieldOf 54 = .ok (.ifCond .le 14, 3) := by decide +kernel
theorem dX12_yieldOf_57 : decode cX12_yieldOf 57 = .ok (.aload_n 0, 1) := by decide +kernel
theorem dX12_yieldOf_58 : decode cX12_yieldOf 58 = .ok (.iload_n 1, 1) := by decide +kernel
theorem dX12_yieldOf_59 : decode cX12_yieldOf 59 = .ok (.iconst 1, 1) := by decide +kernel
theorem dX12_yieldOf_60 : decode cX12_yieldOf 60 = .ok (.invokevirtual 79, 3) := by decide +kernel
theorem dX12_yieldOf_63 : decode cX12_yieldOf 63 = .ok (.iconst 3, 1) := by decide +kernel
theorem dX12_yieldOf_64 : decode cX12_yieldOf 64 = .ok (.idiv, 1) := by decide +kernel
theorem dX12_yieldOf_65 : decode cX12_yieldOf 65 = .ok (.goto 9, 3) := by decide +kernel
theorem dX12_yieldOf_68 : decode cX12_yieldOf 68 = .ok (.aload_n 0, 1) := by decide +kernel
theorem dX12_yieldOf_69 : decode cX12_yieldOf 69 = .ok (.iload_n 1, 1) := by decide +kernel
theorem dX12_yieldOf_70 : decode cX12_yieldOf 70 = .ok (.iconst 1, 1) := by decide +kernel
theorem dX12_yieldOf_71 : decode cX12_yieldOf 71 = .ok (.invokevirtual 79, 3) := by decide +kernel
theorem dX12_yieldOf_74 : decode cX12_yieldOf 74 = .ok (.isub, 1) := by decide +kernel
theorem dX12_yieldOf_75 : decode cX12_yieldOf 75 = .ok (.iconst 2, 1) := by decide +kernel
theorem dX12_yieldOf_76 : decode cX12_yieldOf 76 = .ok (.aload_n 0, 1) := by decide +kernel
theorem dX12_yieldOf_77 : decode cX12_yieldOf 77 = .ok (.iload_n 1, 1) := by decide +kernel
theorem dX12_yieldOf_78 : decode cX12_yieldOf 78 = .ok (.bipush 8, 2) := by decide +kernel
theorem dX12_yieldOf_80 : decode cX12_yieldOf 80 = .ok (.invokevirtual 79, 3) := by decide +kernel
theorem dX12_yieldOf_83 : decode cX12_yieldOf 83 = .ok (.imul, 1) := by decide +kernel
theorem dX12_yieldOf_84 : decode cX12_yieldOf 84 = .ok (.isub, 1) := by decide +kernel
theorem dX12_yieldOf_85 : decode cX12_yieldOf 85 = .ok (.istore 4, 2) := by decide +kernel
theorem dX12_yieldOf_87 : decode cX12_yieldOf 87 = .ok (.iconst 0, 1) := by decide +kernel
theorem dX12_yieldOf_88 : decode cX12_yieldOf 88 = .ok (.iload 4, 2) := by decide +kernel
theorem dX12_yieldOf_90 : decode cX12_yieldOf 90 = .ok (.invokestatic 100, 3) := by decide +kernel
theorem dX12_yieldOf_93 : decode cX12_yieldOf 93 = .ok (.ireturn, 1) := by decide +kernel
noncomputable def E_X12_yieldOf : mE := (mX12_yieldOf, [(34, [(0, (.iload_n 2, 1, false, false, 2, 0, 0, 0, 0, 0, [])), (1, (.iconst 1, 2, false, false, 0, 0, 0, 0, 1, 0, [])), (2, (.iconst 4, 3, false, false, 0, 0, 0, 0, 4, 0, [])), (3, (.invokestatic 63, 6, false, false, 28, 3, 1, 0, 0, 0, [])), (6, (.ifCond .ne 5, 9, false, false, 11, 0, 0, 0, 0, 0, [])), (9, (.iconst 0, 10, false, false, 0, 0, 0, 0, 0, 0, [])), (10, (.ireturn, 11, false, false, 0, 0, 0, 0, 0, 0, [])), (11, (.bipush 9, 13, false, false, 0, 0, 0, 0, 9, 0, [])), (13, (.iload_n 2, 14, false, false, 2, 0, 0, 0, 0, 0, [])), (14, (.isub, 15, false, false, 0, 0, 0, 0, 0, 0, [])), (15, (.aload_n 0, 16, false, false, 0, 0, 0, 0, 0, 0, [])), (16, (.iload_n 1, 17, false, false, 1, 0, 0, 0, 0, 0, [])), (17, (.iconst 0, 18, false, false, 0, 0, 0, 0, 0, 0, [])), (18, (.invokevirtual 79, 21, false, false, 31, 2, 1, 15, 0, 0, [])), (21, (.iadd, 22, false, false, 0, 0, 0, 0, 0, 0, [])), (22, (.iload_n 3, 23, false, false, 3, 0, 0, 0, 0, 0, [])), (23, (.iadd, 24, false, false, 0, 0, 0, 0, 0, 0, [])), (24, (.aload_n 0, 25, false, false, 0, 0, 0, 0, 0, 0, [])), (25, (.iload_n 1, 26, false, false, 1, 0, 0, 0, 0, 0, [])), (26, (.iconst 5, 27, false, false, 0, 0, 0, 0, 5, 0, [])), (27, (.invokevirtual 79, 30, false, false, 31, 2, 1, 15, 0, 0, [])), (30, (.ifCond .le 7, 33, false, false, 37, 0, 0, 0, 0, 0, [])), (33, (.iconst 2, 34, false, false, 0, 0, 0, 0, 2, 0, [])), (34, (.goto 4, 37, false, true, 38, 0, 0, 0, 0, 0, []))]),
  (70, [(37, (.iconst 0, 38, true, false, 0, 0, 0, 0, 0, 0, [])), (38, (.iadd, 39, false, false, 0, 0, 0, 0, 0, 0, [])), (39, (.aload_n 0, 40, false, false, 0, 0, 0, 0, 0, 0, [])), (40, (.iload_n 1, 41, false, false, 1, 0, 0, 0, 0, 0, [])), (41, (.iconst 2, 42, false, false, 0, 0, 0, 0, 2, 0, [])), (42, (.invokevirtual 79, 45, false, false, 31, 2, 1, 15, 0, 0, [])), (45, (.iconst 2, 46, false, false, 0, 0, 0, 0, 2, 0, [])), (46, (.idiv, 47, false, false, 0, 0, 0, 0, 0, 0, [])), (47, (.isub, 48, false, false, 0, 0, 0, 0, 0, 0, [])), (48, (.aload_n 0, 49, false, false, 0, 0, 0, 0, 0, 0, [])), (49, (.iload_n 1, 50, false, false, 1, 0, 0, 0, 0, 0, [])), (50, (.iconst 4, 51, false, false, 0, 0, 0, 0, 4, 0, [])), (51, (.invokevirtual 79, 54, false, false, 31, 2, 1, 15, 0, 0, [])), (54, (.ifCond .le 14, 57, false, false, 68, 0, 0, 0, 0, 0, [])), (57, (.aload_n 0, 58, false, false, 0, 0, 0, 0, 0, 0, [])), (58, (.iload_n 1, 59, false, false, 1, 0, 0, 0, 0, 0, [])), (59, (.iconst 1, 60, false, false, 0, 0, 0, 0, 1, 0, [])), (60, (.invokevirtual 79, 63, false, false, 31, 2, 1, 15, 0, 0, [])), (63, (.iconst 3, 64, false, false, 0, 0, 0, 0, 3, 0, [])), (64, (.idiv, 65, false, false, 0, 0, 0, 0, 0, 0, [])), (65, (.goto 9, 68, false, false, 74, 0, 0, 0, 0, 0, [])), (68, (.aload_n 0, 69, false, false, 0, 0, 0, 0, 0, 0, [])), (69, (.iload_n 1, 70, false, false, 1, 0, 0, 0, 0, 0, [])), (70, (.iconst 1, 71, false, false, 0, 0, 0, 0, 1, 0, []))]),
  (93, [(71, (.invokevirtual 79, 74, false, false, 31, 2, 1, 15, 0, 0, [])), (74, (.isub, 75, false, false, 0, 0, 0, 0, 0, 0, [])), (75, (.iconst 2, 76, false, false, 0, 0, 0, 0, 2, 0, [])), (76, (.aload_n 0, 77, false, false, 0, 0, 0, 0, 0, 0, [])), (77, (.iload_n 1, 78, false, false, 1, 0, 0, 0, 0, 0, [])), (78, (.bipush 8, 80, false, false, 0, 0, 0, 0, 8, 0, [])), (80, (.invokevirtual 79, 83, false, false, 31, 2, 1, 15, 0, 0, [])), (83, (.imul, 84, false, false, 0, 0, 0, 0, 0, 0, [])), (84, (.isub, 85, false, false, 0, 0, 0, 0, 0, 0, [])), (85, (.istore 4, 87, false, false, 4, 0, 0, 0, 0, 0, [])), (87, (.iconst 0, 88, false, false, 0, 0, 0, 0, 0, 0, [])), (88, (.iload 4, 90, false, false, 4, 0, 0, 0, 0, 0, [])), (90, (.invokestatic 100, 93, false, false, 0, 2, 1, 5, 0, 0, [])), (93, (.ireturn, 94, false, false, 0, 0, 0, 0, 0, 0, []))])], 0, [])
set_option maxRecDepth 100000 in
theorem v_X12_yieldOf : VE MYT dflT E_X12_yieldOf := ⟨⟨⟨⟨⟨dX12_yieldOf_0, rfl⟩, rfl⟩, ⟨⟨dX12_yieldOf_1, rfl⟩, rfl⟩, ⟨⟨dX12_yieldOf_2, rfl⟩, rfl⟩, ⟨⟨dX12_yieldOf_3, rfl⟩, Or.inl ⟨rfl, _, my_28, sX12_63⟩⟩, ⟨⟨dX12_yieldOf_6, rfl⟩, rfl⟩, ⟨⟨dX12_yieldOf_9, rfl⟩, rfl⟩, ⟨⟨dX12_yieldOf_10, rfl⟩, Or.inl ⟨rfl, rfl⟩⟩, ⟨⟨dX12_yieldOf_11, rfl⟩, rfl⟩, ⟨⟨dX12_yieldOf_13, rfl⟩, rfl⟩, ⟨⟨dX12_yieldOf_14, rfl⟩, trivial⟩, ⟨⟨dX12_yieldOf_15, rfl⟩, rfl⟩, ⟨⟨dX12_yieldOf_16, rfl⟩, rfl⟩, ⟨⟨dX12_yieldOf_17, rfl⟩, rfl⟩, ⟨⟨dX12_yieldOf_18, rfl⟩, Or.inr ⟨by decide, ⟨_, my_31, sX12_79⟩, fun q => absurd q (by decide)⟩⟩, ⟨⟨dX12_yieldOf_21, rfl⟩, trivial⟩, ⟨⟨dX12_yieldOf_22, rfl⟩, rfl⟩, ⟨⟨dX12_yieldOf_23, rfl⟩, trivial⟩, ⟨⟨dX12_yieldOf_24, rfl⟩, rfl⟩, ⟨⟨dX12_yieldOf_25, rfl⟩, rfl⟩, ⟨⟨dX12_yieldOf_26, rfl⟩, rfl⟩, ⟨⟨dX12_yieldOf_27, rfl⟩, Or.inr ⟨by decide, ⟨_, my_31, sX12_79⟩, fun q => absurd q (by decide)⟩⟩, ⟨⟨dX12_yieldOf_30, rfl⟩, rfl⟩, ⟨⟨dX12_yieldOf_33, rfl⟩, rfl⟩, ⟨⟨dX12_yieldOf_34, rfl⟩, rfl⟩, trivial⟩,
  ⟨⟨⟨dX12_yieldOf_37, rfl⟩, rfl⟩, ⟨⟨dX12_yieldOf_38, rfl⟩, trivial⟩, ⟨⟨dX12_yieldOf_39, rfl⟩, rfl⟩, ⟨⟨dX12_yieldOf_40, rfl⟩, rfl⟩, ⟨⟨dX12_yieldOf_41, rfl⟩, rfl⟩, ⟨⟨dX12_yieldOf_42, rfl⟩, Or.inr ⟨by decide, ⟨_, my_31, sX12_79⟩, fun q => absurd q (by decide)⟩⟩, ⟨⟨dX12_yieldOf_45, rfl⟩, rfl⟩, ⟨⟨dX12_yieldOf_46, rfl⟩, trivial⟩, ⟨⟨dX12_yieldOf_47, rfl⟩, trivial⟩, ⟨⟨dX12_yieldOf_48, rfl⟩, rfl⟩, ⟨⟨dX12_yieldOf_49, rfl⟩, rfl⟩, ⟨⟨dX12_yieldOf_50, rfl⟩, rfl⟩, ⟨⟨dX12_yieldOf_51, rfl⟩, Or.inr ⟨by decide, ⟨_, my_31, sX12_79⟩, fun q => absurd q (by decide)⟩⟩, ⟨⟨dX12_yieldOf_54, rfl⟩, rfl⟩, ⟨⟨dX12_yieldOf_57, rfl⟩, rfl⟩, ⟨⟨dX12_yieldOf_58, rfl⟩, rfl⟩, ⟨⟨dX12_yieldOf_59, rfl⟩, rfl⟩, ⟨⟨dX12_yieldOf_60, rfl⟩, Or.inr ⟨by decide, ⟨_, my_31, sX12_79⟩, fun q => absurd q (by decide)⟩⟩, ⟨⟨dX12_yieldOf_63, rfl⟩, rfl⟩, ⟨⟨dX12_yieldOf_64, rfl⟩, trivial⟩, ⟨⟨dX12_yieldOf_65, rfl⟩, rfl⟩, ⟨⟨dX12_yieldOf_68, rfl⟩, rfl⟩, ⟨⟨dX12_yieldOf_69, rfl⟩, rfl⟩, ⟨⟨dX12_yieldOf_70, rfl⟩, rfl⟩, trivial⟩,
  ⟨⟨⟨dX12_yieldOf_71, rfl⟩, Or.inr ⟨by decide, ⟨_, my_31, sX12_79⟩, fun q => absurd q (by decide)⟩⟩, ⟨⟨dX12_yieldOf_74, rfl⟩, trivial⟩, ⟨⟨dX12_yieldOf_75, rfl⟩, rfl⟩, ⟨⟨dX12_yieldOf_76, rfl⟩, rfl⟩, ⟨⟨dX12_yieldOf_77, rfl⟩, rfl⟩, ⟨⟨dX12_yieldOf_78, rfl⟩, rfl⟩, ⟨⟨dX12_yieldOf_80, rfl⟩, Or.inr ⟨by decide, ⟨_, my_31, sX12_79⟩, fun q => absurd q (by decide)⟩⟩, ⟨⟨dX12_yieldOf_83, rfl⟩, trivial⟩, ⟨⟨dX12_yieldOf_84, rfl⟩, trivial⟩, ⟨⟨dX12_yieldOf_85, rfl⟩, rfl⟩, ⟨⟨dX12_yieldOf_87, rfl⟩, rfl⟩, ⟨⟨dX12_yieldOf_88, rfl⟩, rfl⟩, ⟨⟨dX12_yieldOf_90, rfl⟩, Or.inr (Or.inr (Or.inr (Or.inr (Or.inl ⟨rfl, sX12_100⟩))))⟩, ⟨⟨dX12_yieldOf_93, rfl⟩, Or.inl ⟨rfl, rfl⟩⟩, trivial⟩, trivial⟩, by decide, Or.inl ⟨rfl, by decide, rfl⟩⟩
set_option maxRecDepth 100000 in
theorem g_X12_yieldOf_0 (S : sT) (call : cT) (n : Nat) (a0 : Nat) (x1 : Int32) (x2 : Int32) (x3 : Int32) (h : pH) : bd S call dflT E_X12_yieldOf (n + 1) 0 [some (.ref a0), some (.int x1), some (.int x2), some (.int x3), none] [] h = (cI (call 28 [.int x2, .int 1, .int 4] h) (fun y2 h1 => (if y2 = 0 then some (.inl (some (.int 0)), h1) else rC h1 (.ref a0) 15 (cI (call 31 [.ref a0, .int x1, .int 0] h1) (fun y4 h3 => rC h3 (.ref a0) 15 (cI (call 31 [.ref a0, .int x1, .int 5] h3) (fun y6 h5 => (if y6 ≤ 0 then bd S call dflT E_X12_yieldOf n 38 [some (.ref a0), some (.int x1), some (.int x2), some (.int x3), none] [.int 0, .int (((9 - x2) + y4) + x3)] h5 else bd S call dflT E_X12_yieldOf n 38 [some (.ref a0), some (.int x1), some (.int x2), some (.int x3), none] [.int 2, .int (((9 - x2) + y4) + x3)] h5)))))))) := rfl
set_option maxRecDepth 100000 in
theorem g_X12_yieldOf_38 (S : sT) (call : cT) (n : Nat) (a0 : Nat) (x1 : Int32) (x2 : Int32) (x3 : Int32) (o4 : Option Value) (y0 : Int32) (y1 : Int32) (h : pH) : bd S call dflT E_X12_yieldOf (n + 1) 38 [some (.ref a0), some (.int x1), some (.int x2), some (.int x3), o4] [.int y1, .int y0] h = (rC h (.ref a0) 15 (cI (call 31 [.ref a0, .int x1, .int 2] h) (fun y2 h1 => dv 2 (rC h1 (.ref a0) 15 (cI (call 31 [.ref a0, .int x1, .int 4] h1) (fun y4 h3 => (if y4 ≤ 0 then rC h3 (.ref a0) 15 (cI (call 31 [.ref a0, .int x1, .int 1] h3) (fun y6 h5 => rC h5 (.ref a0) 15 (cI (call 31 [.ref a0, .int x1, .int 8] h5) (fun y8 h7 => some (.inl (some (.int (if (0 : Int32) < ((((y0 + y1) - (y2 / 2)) - y6) - (2 * y8)) then ((((y0 + y1) - (y2 / 2)) - y6) - (2 * y8)) else (0 : Int32)))), h7))))) else rC h3 (.ref a0) 15 (cI (call 31 [.ref a0, .int x1, .int 1] h3) (fun y10 h9 => dv 3 (rC h9 (.ref a0) 15 (cI (call 31 [.ref a0, .int x1, .int 8] h9) (fun y12 h11 => some (.inl (some (.int (if (0 : Int32) < ((((y0 + y1) - (y2 / 2)) - (y10 / 3)) - (2 * y12)) then ((((y0 + y1) - (y2 / 2)) - (y10 / 3)) - (2 * y12)) else (0 : Int32)))), h11))))))))))))) := rfl
theorem dX12_spring_0 : decode cX12_spring 0 = .ok (.iconst 0, 1) := by decide +kernel
theorem dX12_spring_1 : decode cX12_spring 1 = .ok (.istore_n 1, 1) := by decide +kernel
theorem dX12_spring_2 : decode cX12_spring 2 = .ok (.iload_n 1, 1) := by decide +kernel
theorem dX12_spring_3 : decode cX12_spring 3 = .ok (.bipush 48, 2) := by decide +kernel
theorem dX12_spring_5 : decode cX12_spring 5 = .ok (.if_icmp .ge 129, 3) := by decide +kernel
theorem dX12_spring_8 : decode cX12_spring 8 = .ok (.aload_n 0, 1) := by decide +kernel
theorem dX12_spring_9 : decode cX12_spring 9 = .ok (.iload_n 1, 1) := by decide +kernel
theorem dX12_spring_10 : decode cX12_spring 10 = .ok (.bipush 10, 2) := by decide +kernel
theorem dX12_spring_12 : decode cX12_spring 12 = .ok (.invokevirtual 79, 3) := by decide +kernel
theorem dX12_spring_15 : decode cX12_spring 15 = .ok (.istore_n 2, 1) := by decide +kernel
theorem dX12_spring_16 : decode cX12_spring 16 = .ok (.iload_n 2, 1) := by decide +kernel
theorem dX12_spring_17 : decode cX12_spring 17 = .ok (.ifCond .lt 111, 3) := by decide +kernel
theorem dX12_spring_20 : decode cX12_spring 20 = .ok (.aload_n 0, 1) := by decide +kernel
theorem dX12_spring_21 : decode cX12_spring 21 = .ok (.iload_n 2, 1) := by decide +kernel
theorem dX12_spring_22 : decode cX12_spring 22 = .ok (.invokevirtual 389, 3) := by decide +kernel
theorem dX12_spring_25 : decode cX12_spring 25 = .ok (.ifCond .ne 6, 3) := by decide +kernel
theorem dX12_spring_28 : decode cX12_spring 28 = .ok (.goto 100, 3) := by decide +kernel
theorem dX12_spring_31 : decode cX12_spring 31 = .ok (.iconst (-1), 1) := by decide +kernel
theorem dX12_spring_32 : decode cX12_spring 32 = .ok (.istore_n 3, 1) := by decide +kernel
theorem dX12_spring_33 : decode cX12_spring 33 = .ok (.iconst 0, 1) := by decide +kernel
theorem dX12_spring_34 : decode cX12_spring 34 = .ok (.istore 4, 2) := by decide +kernel
theorem dX12_spring_36 : decode cX12_spring 36 = .ok (.iconst 1, 1) := by decide +kernel
theorem dX12_spring_37 : decode cX12_spring 37 = .ok (.istore 5, 2) := by decide +kernel
theorem dX12_spring_39 : decode cX12_spring 39 = .ok (.iload 5, 2) := by decide +kernel
theorem dX12_spring_41 : decode cX12_spring 41 = .ok (.bipush 6, 2) := by decide +kernel
theorem dX12_spring_43 : decode cX12_spring 43 = .ok (.if_icmp .ge 66, 3) := by decide +kernel
theorem dX12_spring_46 : decode cX12_spring 46 = .ok (.aload_n 0, 1) := by decide +kernel
theorem dX12_spring_47 : decode cX12_spring 47 = .ok (.iload_n 2, 1) := by decide +kernel
theorem dX12_spring_48 : decode cX12_spring 48 = .ok (.iload 5, 2) := by decide +kernel
theorem dX12_spring_50 : decode cX12_spring 50 = .ok (.aload_n 0, 1) := by decide +kernel
theorem dX12_spring_51 : decode cX12_spring 51 = .ok (.iload_n 1, 1) := by decide +kernel
theorem dX12_spring_52 : decode cX12_spring 52 = .ok (.iconst 3, 1) := by decide +kernel
theorem dX12_spring_53 : decode cX12_spring 53 = .ok (.invokevirtual 79, 3) := by decide +kernel
theorem dX12_spring_56 : decode cX12_spring 56 = .ok (.invokevirtual 401, 3) := by decide +kernel
theorem dX12_spring_59 : decode cX12_spring 59 = .ok (.ifCond .eq 6, 3) := by decide +kernel
theorem dX12_spring_62 : decode cX12_spring 62 = .ok (.goto 41, 3) := by decide +kernel
theorem dX12_spring_65 : decode cX12_spring 65 = .ok (.aload_n 0, 1) := by decide +kernel
theorem dX12_spring_66 : decode cX12_spring 66 = .ok (.iload 5, 2) := by decide +kernel
theorem dX12_spring_68 : decode cX12_spring 68 = .ok (.invokevirtual 290, 3) := by decide +kernel
theorem dX12_spring_71 : decode cX12_spring 71 = .ok (.aload_n 0, 1) := by decide +kernel
theorem dX12_spring_72 : decode cX12_spring 72 = .ok (.iload_n 1, 1) := by decide +kernel
theorem dX12_spring_73 : decode cX12_spring 73 = .ok (.iload 5, 2) := by decide +kernel
theorem dX12_spring_75 : decode cX12_spring 75 = .ok (.iconst 0, 1) := by decide +kernel
theorem dX12_spring_76 : decode cX12_spring 76 = .ok (.invokevirtual 404, 3) := by decide +kernel
theorem dX12_spring_79 : decode cX12_spring 79 = .ok (.imul, 1) := by decide +kernel
theorem dX12_spring_80 : decode cX12_spring 80 = .ok (.istore 6, 2) := by decide +kernel
theorem dX12_spring_82 : decode cX12_spring 82 = .ok (.iload_n 3, 1) := by decide +kernel
theorem dX12_spring_83 : decode cX12_spring 83 = .ok (.ifCond .lt 13, 3) := by decide +kernel
theorem dX12_spring_86 : decode cX12_spring 86 = .ok (.iload 6, 2) := by decide +kernel
theorem dX12_spring_88 : decode cX12_spring 88 = .ok (.iload 4, 2) := by decide +kernel
theorem dX12_spring_90 : decode cX12_spring 90 = .ok (.if_icmp .gt 6, 3) := by decide +kernel
theorem dX12_spring_93 : decode cX12_spring 93 = .ok (.goto 10, 3) := by decide +kernel
theorem dX12_spring_96 : decode cX12_spring 96 = .ok (.iload 5, 2) := by decide +kernel
theorem dX12_spring_98 : decode cX12_spring 98 = .ok (.istore_n 3, 1) := by decide +kernel
theorem dX12_spring_99 : decode cX12_spring 99 = .ok (.iload 6, 2) := by decide +kernel
theorem dX12_spring_101 : decode cX12_spring 101 = .ok (.istore 4, 2) := by decide +kernel
theorem dX12_spring_103 : decode cX12_spring 103 = .ok (.iinc 5 1, 3) := by decide +kernel
theorem dX12_spring_106 : decode cX12_spring 106 = .ok (.goto (-67), 3) := by decide +kernel
theorem dX12_spring_109 : decode cX12_spring 109 = .ok (.aload_n 0, 1) := by decide +kernel
theorem dX12_spring_110 : decode cX12_spring 110 = .ok (.getfield 27, 3) := by decide +kernel
theorem dX12_spring_113 : decode cX12_spring 113 = .ok (.iload_n 1, 1) := by decide +kernel
theorem dX12_spring_114 : decode cX12_spring 114 = .ok (.iconst 3, 1) := by decide +kernel
theorem dX12_spring_115 : decode cX12_spring 115 = .ok (.invokestatic 59, 3) := by decide +kernel
theorem dX12_spring_118 : decode cX12_spring 118 = .ok (.iload_n 3, 1) := by decide +kernel
theorem dX12_spring_119 : decode cX12_spring 119 = .ok (.ifCond .ge 7, 3) := by decide +kernel
theorem dX12_spring_122 : decode cX12_spring 122 = .ok (.iconst 5, 1) := by decide +kernel
theorem dX12_spring_123 : decode cX12_spring 123 = .ok (.goto 4, 3) := by decide +kernel
theorem dX12_spring_126 : decode cX12_spring 126 = .ok (.iload_n 3, 1) := by decide +kernel
theorem dX12_spring_127 : decode cX12_spring 127 = .ok (.iastore, 1) := by decide +kernel
theorem dX12_spring_128 : decode cX12_spring 128 = .ok (.iinc 1 1, 3) := by decide +kernel
theorem dX12_spring_131 : decode cX12_spring 131 = .ok (.goto (-129), 3) := by decide +kernel
theorem dX12_spring_134 : decode cX12_spring 134 = .ok (.return_, 1) := by decide +kernel
noncomputable def E_X12_spring : mE := (mX12_spring, [(39, [(0, (.iconst 0, 1, false, false, 0, 0, 0, 0, 0, 0, [])), (1, (.istore_n 1, 2, true, false, 1, 0, 0, 0, 0, 0, [])), (2, (.iload_n 1, 3, false, false, 1, 0, 0, 0, 0, 0, [])), (3, (.bipush 48, 5, false, false, 0, 0, 0, 0, 48, 0, [])), (5, (.if_icmp .ge 129, 8, false, false, 134, 0, 0, 0, 0, 0, [])), (8, (.aload_n 0, 9, false, false, 0, 0, 0, 0, 0, 0, [])), (9, (.iload_n 1, 10, false, false, 1, 0, 0, 0, 0, 0, [])), (10, (.bipush 10, 12, false, false, 0, 0, 0, 0, 10, 0, [])), (12, (.invokevirtual 79, 15, false, false, 31, 2, 1, 15, 0, 0, [])), (15, (.istore_n 2, 16, false, false, 2, 0, 0, 0, 0, 0, [])), (16, (.iload_n 2, 17, false, false, 2, 0, 0, 0, 0, 0, [])), (17, (.ifCond .lt 111, 20, false, false, 128, 0, 0, 0, 0, 0, [])), (20, (.aload_n 0, 21, false, false, 0, 0, 0, 0, 0, 0, [])), (21, (.iload_n 2, 22, false, false, 2, 0, 0, 0, 0, 0, [])), (22, (.invokevirtual 389, 25, false, false, 178, 1, 1, 15, 0, 0, [])), (25, (.ifCond .ne 6, 28, false, false, 31, 0, 0, 0, 0, 0, [])), (28, (.goto 100, 31, false, false, 128, 0, 0, 0, 0, 0, [])), (31, (.iconst (-1), 32, false, false, 0, 0, 0, 0, -1, 0, [])), (32, (.istore_n 3, 33, false, false, 3, 0, 0, 0, 0, 0, [])), (33, (.iconst 0, 34, false, false, 0, 0, 0, 0, 0, 0, [])), (34, (.istore 4, 36, false, false, 4, 0, 0, 0, 0, 0, [])), (36, (.iconst 1, 37, false, false, 0, 0, 0, 0, 1, 0, [])), (37, (.istore 5, 39, true, false, 5, 0, 0, 0, 0, 0, [])), (39, (.iload 5, 41, false, false, 5, 0, 0, 0, 0, 0, []))]),
  (83, [(41, (.bipush 6, 43, false, false, 0, 0, 0, 0, 6, 0, [])), (43, (.if_icmp .ge 66, 46, false, false, 109, 0, 0, 0, 0, 0, [])), (46, (.aload_n 0, 47, false, false, 0, 0, 0, 0, 0, 0, [])), (47, (.iload_n 2, 48, false, false, 2, 0, 0, 0, 0, 0, [])), (48, (.iload 5, 50, false, false, 5, 0, 0, 0, 0, 0, [])), (50, (.aload_n 0, 51, false, false, 0, 0, 0, 0, 0, 0, [])), (51, (.iload_n 1, 52, false, false, 1, 0, 0, 0, 0, 0, [])), (52, (.iconst 3, 53, false, false, 0, 0, 0, 0, 3, 0, [])), (53, (.invokevirtual 79, 56, false, false, 31, 2, 1, 15, 0, 0, [])), (56, (.invokevirtual 401, 59, false, false, 231, 3, 1, 15, 0, 0, [])), (59, (.ifCond .eq 6, 62, false, false, 65, 0, 0, 0, 0, 0, [])), (62, (.goto 41, 65, false, false, 103, 0, 0, 0, 0, 0, [])), (65, (.aload_n 0, 66, false, false, 0, 0, 0, 0, 0, 0, [])), (66, (.iload 5, 68, false, false, 5, 0, 0, 0, 0, 0, [])), (68, (.invokevirtual 290, 71, false, false, 232, 1, 1, 15, 0, 0, [])), (71, (.aload_n 0, 72, false, false, 0, 0, 0, 0, 0, 0, [])), (72, (.iload_n 1, 73, false, false, 1, 0, 0, 0, 0, 0, [])), (73, (.iload 5, 75, false, false, 5, 0, 0, 0, 0, 0, [])), (75, (.iconst 0, 76, false, false, 0, 0, 0, 0, 0, 0, [])), (76, (.invokevirtual 404, 79, false, false, 233, 3, 1, 15, 0, 0, [])), (79, (.imul, 80, false, false, 0, 0, 0, 0, 0, 0, [])), (80, (.istore 6, 82, false, false, 6, 0, 0, 0, 0, 0, [])), (82, (.iload_n 3, 83, false, false, 3, 0, 0, 0, 0, 0, [])), (83, (.ifCond .lt 13, 86, false, false, 96, 0, 0, 0, 0, 0, []))]),
  (134, [(86, (.iload 6, 88, false, false, 6, 0, 0, 0, 0, 0, [])), (88, (.iload 4, 90, false, false, 4, 0, 0, 0, 0, 0, [])), (90, (.if_icmp .gt 6, 93, false, false, 96, 0, 0, 0, 0, 0, [])), (93, (.goto 10, 96, false, false, 103, 0, 0, 0, 0, 0, [])), (96, (.iload 5, 98, false, false, 5, 0, 0, 0, 0, 0, [])), (98, (.istore_n 3, 99, false, false, 3, 0, 0, 0, 0, 0, [])), (99, (.iload 6, 101, false, false, 6, 0, 0, 0, 0, 0, [])), (101, (.istore 4, 103, false, false, 4, 0, 0, 0, 0, 0, [])), (103, (.iinc 5 1, 106, false, false, 5, 0, 0, 0, 1, 0, [])), (106, (.goto (-67), 109, false, true, 39, 0, 0, 0, 0, 0, [])), (109, (.aload_n 0, 110, false, false, 0, 0, 0, 0, 0, 0, [])), (110, (.getfield 27, 113, false, false, 15, 1, 1, 0, 0, 0, [])), (113, (.iload_n 1, 114, false, false, 1, 0, 0, 0, 0, 0, [])), (114, (.iconst 3, 115, false, false, 0, 0, 0, 0, 3, 0, [])), (115, (.invokestatic 59, 118, false, false, 12, 2, 1, 0, 0, 0, [])), (118, (.iload_n 3, 119, false, false, 3, 0, 0, 0, 0, 0, [])), (119, (.ifCond .ge 7, 122, false, false, 126, 0, 0, 0, 0, 0, [])), (122, (.iconst 5, 123, false, false, 0, 0, 0, 0, 5, 0, [])), (123, (.goto 4, 126, false, false, 127, 0, 0, 0, 0, 0, [])), (126, (.iload_n 3, 127, false, false, 3, 0, 0, 0, 0, 0, [])), (127, (.iastore, 128, false, false, 0, 0, 0, 0, 0, 0, [])), (128, (.iinc 1 1, 131, false, false, 1, 0, 0, 0, 1, 0, [])), (131, (.goto (-129), 134, false, true, 2, 0, 0, 0, 0, 0, [])), (134, (.return_, 135, false, false, 0, 0, 0, 0, 0, 0, []))])], 0, [])
set_option maxRecDepth 100000 in
theorem v_X12_spring : VE MYT dflT E_X12_spring := ⟨⟨⟨⟨⟨dX12_spring_0, rfl⟩, rfl⟩, ⟨⟨dX12_spring_1, rfl⟩, rfl⟩, ⟨⟨dX12_spring_2, rfl⟩, rfl⟩, ⟨⟨dX12_spring_3, rfl⟩, rfl⟩, ⟨⟨dX12_spring_5, rfl⟩, rfl⟩, ⟨⟨dX12_spring_8, rfl⟩, rfl⟩, ⟨⟨dX12_spring_9, rfl⟩, rfl⟩, ⟨⟨dX12_spring_10, rfl⟩, rfl⟩, ⟨⟨dX12_spring_12, rfl⟩, Or.inr ⟨by decide, ⟨_, my_31, sX12_79⟩, fun q => absurd q (by decide)⟩⟩, ⟨⟨dX12_spring_15, rfl⟩, rfl⟩, ⟨⟨dX12_spring_16, rfl⟩, rfl⟩, ⟨⟨dX12_spring_17, rfl⟩, rfl⟩, ⟨⟨dX12_spring_20, rfl⟩, rfl⟩, ⟨⟨dX12_spring_21, rfl⟩, rfl⟩, ⟨⟨dX12_spring_22, rfl⟩, Or.inr ⟨by decide, ⟨_, my_178, sX12_389⟩, fun q => absurd q (by decide)⟩⟩, ⟨⟨dX12_spring_25, rfl⟩, rfl⟩, ⟨⟨dX12_spring_28, rfl⟩, rfl⟩, ⟨⟨dX12_spring_31, rfl⟩, rfl⟩, ⟨⟨dX12_spring_32, rfl⟩, rfl⟩, ⟨⟨dX12_spring_33, rfl⟩, rfl⟩, ⟨⟨dX12_spring_34, rfl⟩, rfl⟩, ⟨⟨dX12_spring_36, rfl⟩, rfl⟩, ⟨⟨dX12_spring_37, rfl⟩, rfl⟩, ⟨⟨dX12_spring_39, rfl⟩, rfl⟩, trivial⟩,
  ⟨⟨⟨dX12_spring_41, rfl⟩, rfl⟩, ⟨⟨dX12_spring_43, rfl⟩, rfl⟩, ⟨⟨dX12_spring_46, rfl⟩, rfl⟩, ⟨⟨dX12_spring_47, rfl⟩, rfl⟩, ⟨⟨dX12_spring_48, rfl⟩, rfl⟩, ⟨⟨dX12_spring_50, rfl⟩, rfl⟩, ⟨⟨dX12_spring_51, rfl⟩, rfl⟩, ⟨⟨dX12_spring_52, rfl⟩, rfl⟩, ⟨⟨dX12_spring_53, rfl⟩, Or.inr ⟨by decide, ⟨_, my_31, sX12_79⟩, fun q => absurd q (by decide)⟩⟩, ⟨⟨dX12_spring_56, rfl⟩, Or.inr ⟨by decide, ⟨_, my_231, sX12_401⟩, fun q => absurd q (by decide)⟩⟩, ⟨⟨dX12_spring_59, rfl⟩, rfl⟩, ⟨⟨dX12_spring_62, rfl⟩, rfl⟩, ⟨⟨dX12_spring_65, rfl⟩, rfl⟩, ⟨⟨dX12_spring_66, rfl⟩, rfl⟩, ⟨⟨dX12_spring_68, rfl⟩, Or.inr ⟨by decide, ⟨_, my_232, sX12_290⟩, fun q => absurd q (by decide)⟩⟩, ⟨⟨dX12_spring_71, rfl⟩, rfl⟩, ⟨⟨dX12_spring_72, rfl⟩, rfl⟩, ⟨⟨dX12_spring_73, rfl⟩, rfl⟩, ⟨⟨dX12_spring_75, rfl⟩, rfl⟩, ⟨⟨dX12_spring_76, rfl⟩, Or.inr ⟨by decide, ⟨_, my_233, sX12_404⟩, fun q => absurd q (by decide)⟩⟩, ⟨⟨dX12_spring_79, rfl⟩, trivial⟩, ⟨⟨dX12_spring_80, rfl⟩, rfl⟩, ⟨⟨dX12_spring_82, rfl⟩, rfl⟩, ⟨⟨dX12_spring_83, rfl⟩, rfl⟩, trivial⟩,
  ⟨⟨⟨dX12_spring_86, rfl⟩, rfl⟩, ⟨⟨dX12_spring_88, rfl⟩, rfl⟩, ⟨⟨dX12_spring_90, rfl⟩, rfl⟩, ⟨⟨dX12_spring_93, rfl⟩, rfl⟩, ⟨⟨dX12_spring_96, rfl⟩, rfl⟩, ⟨⟨dX12_spring_98, rfl⟩, rfl⟩, ⟨⟨dX12_spring_99, rfl⟩, rfl⟩, ⟨⟨dX12_spring_101, rfl⟩, rfl⟩, ⟨⟨dX12_spring_103, rfl⟩, ⟨rfl, rfl⟩⟩, ⟨⟨dX12_spring_106, rfl⟩, rfl⟩, ⟨⟨dX12_spring_109, rfl⟩, rfl⟩, ⟨⟨dX12_spring_110, rfl⟩, Or.inl ⟨by decide, _, _, fX12_27⟩⟩, ⟨⟨dX12_spring_113, rfl⟩, rfl⟩, ⟨⟨dX12_spring_114, rfl⟩, rfl⟩, ⟨⟨dX12_spring_115, rfl⟩, Or.inl ⟨rfl, _, my_12, sX12_59⟩⟩, ⟨⟨dX12_spring_118, rfl⟩, rfl⟩, ⟨⟨dX12_spring_119, rfl⟩, rfl⟩, ⟨⟨dX12_spring_122, rfl⟩, rfl⟩, ⟨⟨dX12_spring_123, rfl⟩, rfl⟩, ⟨⟨dX12_spring_126, rfl⟩, rfl⟩, ⟨⟨dX12_spring_127, rfl⟩, trivial⟩, ⟨⟨dX12_spring_128, rfl⟩, ⟨rfl, rfl⟩⟩, ⟨⟨dX12_spring_131, rfl⟩, rfl⟩, ⟨⟨dX12_spring_134, rfl⟩, rfl⟩, trivial⟩, trivial⟩, by decide, Or.inl ⟨rfl, by decide, rfl⟩⟩
set_option maxRecDepth 100000 in
theorem g_X12_spring_0 (S : sT) (call : cT) (n : Nat) (a0 : Nat) (h : pH) : bd S call dflT E_X12_spring (n + 1) 0 [some (.ref a0), none, none, none, none, none, none] [] h = (bd S call dflT E_X12_spring n 2 [some (.ref a0), some (.int 0), none, none, none, none, none] [] h) := rfl
set_option maxRecDepth 100000 in
theorem g_X12_spring_2 (S : sT) (call : cT) (n : Nat) (a0 : Nat) (x1 : Int32) (o2 : Option Value) (o3 : Option Value) (o4 : Option Value) (o5 : Option Value) (o6 : Option Value) (h : pH) : bd S call dflT E_X12_spring (n + 1) 2 [some (.ref a0), some (.int x1), o2, o3, o4, o5, o6] [] h = ((if 48 ≤ x1 then some (.inl none, h) else rC h (.ref a0) 15 (cI (call 31 [.ref a0, .int x1, .int 10] h) (fun y2 h1 => (if y2 < 0 then bd S call dflT E_X12_spring n 2 [some (.ref a0), some (.int (x1 + 1)), some (.int y2), o3, o4, o5, o6] [] h1 else rC h1 (.ref a0) 15 (cI (call 178 [.ref a0, .int y2] h1) (fun y4 h3 => (if y4 = 0 then bd S call dflT E_X12_spring n 2 [some (.ref a0), some (.int (x1 + 1)), some (.int y2), o3, o4, o5, o6] [] h3 else bd S call dflT E_X12_spring n 39 [some (.ref a0), some (.int x1), some (.int y2), some (.int (-1)), some (.int 0), some (.int 1), o6] [] h3)))))))) := rfl
set_option maxRecDepth 100000 in
theorem g_X12_spring_39 (S : sT) (call : cT) (n : Nat) (a0 : Nat) (x1 : Int32) (x2 : Int32) (x3 : Int32) (x4 : Int32) (x5 : Int32) (o6 : Option Value) (h : pH) : bd S call dflT E_X12_spring (n + 1) 39 [some (.ref a0), some (.int x1), some (.int x2), some (.int x3), some (.int x4), some (.int x5), o6] [] h = ((if 6 ≤ x5 then gV h (.ref a0) 15 1 (fun w1 => cI (call 12 [.int x1, .int 3] h) (fun y3 h2 => (if 0 ≤ x3 then sI h2 w1 0 y3 x3 (fun h4 => bd S call dflT E_X12_spring n 2 [some (.ref a0), some (.int (x1 + 1)), some (.int x2), some (.int x3), some (.int x4), some (.int x5), o6] [] h4) else sI h2 w1 0 y3 5 (fun h5 => bd S call dflT E_X12_spring n 2 [some (.ref a0), some (.int (x1 + 1)), some (.int x2), some (.int x3), some (.int x4), some (.int x5), o6] [] h5)))) else rC h (.ref a0) 15 (cI (call 31 [.ref a0, .int x1, .int 3] h) (fun y7 h6 => rC h6 (.ref a0) 15 (cI (call 231 [.ref a0, .int x2, .int x5, .int y7] h6) (fun y9 h8 => (if y9 = 0 then rC h8 (.ref a0) 15 (cI (call 232 [.ref a0, .int x5] h8) (fun y11 h10 => rC h10 (.ref a0) 15 (cI (call 233 [.ref a0, .int x1, .int x5, .int 0] h10) (fun y13 h12 => (if x3 < 0 then bd S call dflT E_X12_spring n 39 [some (.ref a0), some (.int x1), some (.int x2), some (.int x5), some (.int (y11 * y13)), some (.int (x5 + 1)), some (.int (y11 * y13))] [] h12 else (if x4 < (y11 * y13) then bd S call dflT E_X12_spring n 39 [some (.ref a0), some (.int x1), some (.int x2), some (.int x5), some (.int (y11 * y13)), some (.int (x5 + 1)), some (.int (y11 * y13))] [] h12 else bd S call dflT E_X12_spring n 39 [some (.ref a0), some (.int x1), some (.int x2), some (.int x3), some (.int x4), some (.int (x5 + 1)), some (.int (y11 * y13))] [] h12)))))) else bd S call dflT E_X12_spring n 39 [some (.ref a0), some (.int x1), some (.int x2), some (.int x3), some (.int x4), some (.int (x5 + 1)), o6] [] h8))))))) := rfl
theorem dX12_income_0 : decode cX12_income 0 = .ok (.aload_n 0, 1) := by decide +kernel
theorem dX12_income_1 : decode cX12_income 1 = .ok (.getfield 27, 3) := by decide +kernel
theorem dX12_income_4 : decode cX12_income 4 = .ok (.iconst 1, 1) := by decide +kernel
theorem dX12_income_5 : decode cX12_income 5 = .ok (.aload_n 0, 1) := by decide +kernel
theorem dX12_income_6 : decode cX12_income 6 = .ok (.getfield 27, 3) := by decide +kernel
theorem dX12_income_9 : decode cX12_income 9 = .ok (.iconst 1, 1) := by decide +kernel
theorem dX12_income_10 : decode cX12_income 10 = .ok (.iaload, 1) := by decide +kernel
theorem dX12_income_11 : decode cX12_income 11 = .ok (.i2l, 1) := by decide +kernel
theorem dX12_income_12 : decode cX12_income 12 = .ok (.lload_n 1, 1) := by decide +kernel
theorem dX12_income_13 : decode cX12_income 13 = .ok (.ladd, 1) := by decide +kernel
theorem dX12_income_14 : decode cX12_income 14 = .ok (.invokestatic 345, 3) := by decide +kernel
theorem dX12_income_17 : decode cX12_income 17 = .ok (.iastore, 1) := by decide +kernel
theorem dX12_income_18 : decode cX12_income 18 = .ok (.return_, 1) := by decide +kernel
noncomputable def E_X12_income : mE := (mX12_income, [(18, [(0, (.aload_n 0, 1, false, false, 0, 0, 0, 0, 0, 0, [])), (1, (.getfield 27, 4, false, false, 15, 1, 1, 0, 0, 0, [])), (4, (.iconst 1, 5, false, false, 0, 0, 0, 0, 1, 0, [])), (5, (.aload_n 0, 6, false, false, 0, 0, 0, 0, 0, 0, [])), (6, (.getfield 27, 9, false, false, 15, 1, 1, 0, 0, 0, [])), (9, (.iconst 1, 10, false, false, 0, 0, 0, 0, 1, 0, [])), (10, (.iaload, 11, false, false, 0, 0, 0, 0, 0, 0, [])), (11, (.i2l, 12, false, false, 0, 0, 0, 0, 0, 0, [])), (12, (.lload_n 1, 13, false, false, 1, 0, 0, 0, 0, 0, [])), (13, (.ladd, 14, false, false, 0, 0, 0, 0, 0, 0, [])), (14, (.invokestatic 345, 17, false, false, 150, 1, 1, 0, 0, 0, [])), (17, (.iastore, 18, false, false, 0, 0, 0, 0, 0, 0, [])), (18, (.return_, 19, false, false, 0, 0, 0, 0, 0, 0, []))])], 0, [])
set_option maxRecDepth 100000 in
theorem v_X12_income : VE MYT dflT E_X12_income := ⟨⟨⟨⟨⟨dX12_income_0, rfl⟩, rfl⟩, ⟨⟨dX12_income_1, rfl⟩, Or.inl ⟨by decide, _, _, fX12_27⟩⟩, ⟨⟨dX12_income_4, rfl⟩, rfl⟩, ⟨⟨dX12_income_5, rfl⟩, rfl⟩, ⟨⟨dX12_income_6, rfl⟩, Or.inl ⟨by decide, _, _, fX12_27⟩⟩, ⟨⟨dX12_income_9, rfl⟩, rfl⟩, ⟨⟨dX12_income_10, rfl⟩, trivial⟩, ⟨⟨dX12_income_11, rfl⟩, trivial⟩, ⟨⟨dX12_income_12, rfl⟩, rfl⟩, ⟨⟨dX12_income_13, rfl⟩, trivial⟩, ⟨⟨dX12_income_14, rfl⟩, Or.inl ⟨rfl, _, my_150, sX12_345⟩⟩, ⟨⟨dX12_income_17, rfl⟩, trivial⟩, ⟨⟨dX12_income_18, rfl⟩, rfl⟩, trivial⟩, trivial⟩, by decide, Or.inl ⟨rfl, by decide, rfl⟩⟩
set_option maxRecDepth 100000 in
theorem g_X12_income_0 (S : sT) (call : cT) (n : Nat) (a0 : Nat) (j1 : Int64) (h : pH) : bd S call dflT E_X12_income (n + 1) 0 [some (.ref a0), some (.long j1), none] [] h = (gV h (.ref a0) 15 1 (fun w1 => gV h (.ref a0) 15 1 (fun w2 => aI h w2 0 1 (fun y3 => cI (call 150 [.long (y3.toInt64 + j1)] h) (fun y5 h4 => sI h4 w1 0 1 y5 (fun h6 => some (.inl none, h6))))))) := rfl
theorem dX12_writesRow_0 : decode cX12_writesRow 0 = .ok (.aload_n 0, 1) := by decide +kernel
theorem dX12_writesRow_1 : decode cX12_writesRow 1 = .ok (.getfield 27, 3) := by decide +kernel
theorem dX12_writesRow_4 : decode cX12_writesRow 4 = .ok (.sipush 2265, 3) := by decide +kernel
theorem dX12_writesRow_7 : decode cX12_writesRow 7 = .ok (.iaload, 1) := by decide +kernel
theorem dX12_writesRow_8 : decode cX12_writesRow 8 = .ok (.iconst 4, 1) := by decide +kernel
theorem dX12_writesRow_9 : decode cX12_writesRow 9 = .ok (.if_icmp .ne 70, 3) := by decide +kernel
theorem dX12_writesRow_12 : decode cX12_writesRow 12 = .ok (.iconst 0, 1) := by decide +kernel
theorem dX12_writesRow_13 : decode cX12_writesRow 13 = .ok (.istore_n 1, 1) := by decide +kernel
theorem dX12_writesRow_14 : decode cX12_writesRow 14 = .ok (.iload_n 1, 1) := by decide +kernel
theorem dX12_writesRow_15 : decode cX12_writesRow 15 = .ok (.sipush 144, 3) := by decide +kernel
theorem dX12_writesRow_18 : decode cX12_writesRow 18 = .ok (.if_icmp .ge 49, 3) := by decide +kernel
theorem dX12_writesRow_21 : decode cX12_writesRow 21 = .ok (.aload_n 0, 1) := by decide +kernel
theorem dX12_writesRow_22 : decode cX12_writesRow 22 = .ok (.getfield 27, 3) := by decide +kernel
theorem dX12_writesRow_25 : decode cX12_writesRow 25 = .ok (.sipush 2266, 3) := by decide +kernel
theorem dX12_writesRow_28 : decode cX12_writesRow 28 = .ok (.iload_n 1, 1) := by decide +kernel
theorem dX12_writesRow_29 : decode cX12_writesRow 29 = .ok (.iadd, 1) := by decide +kernel
theorem dX12_writesRow_30 : decode cX12_writesRow 30 = .ok (.aload_n 0, 1) := by decide +kernel
theorem dX12_writesRow_31 : decode cX12_writesRow 31 = .ok (.getfield 27, 3) := by decide +kernel
theorem dX12_writesRow_34 : decode cX12_writesRow 34 = .ok (.sipush 2314, 3) := by decide +kernel
theorem dX12_writesRow_37 : decode cX12_writesRow 37 = .ok (.iload_n 1, 1) := by decide +kernel
theorem dX12_writesRow_38 : decode cX12_writesRow 38 = .ok (.iadd, 1) := by decide +kernel
theorem dX12_writesRow_39 : decode cX12_writesRow 39 = .ok (.iaload, 1) := by decide +kernel
theorem dX12_writesRow_40 : decode cX12_writesRow 40 = .ok (.iastore, 1) := by decide +kernel
theorem dX12_writesRow_41 : decode cX12_writesRow 41 = .ok (.aload_n 0, 1) := by decide +kernel
theorem dX12_writesRow_42 : decode cX12_writesRow 42 = .ok (.getfield 27, 3) := by decide +kernel
theorem dX12_writesRow_45 : decode cX12_writesRow 45 = .ok (.sipush 2458, 3) := by decide +kernel
theorem dX12_writesRow_48 : decode cX12_writesRow 48 = .ok (.iload_n 1, 1) := by decide +kernel
theorem dX12_writesRow_49 : decode cX12_writesRow 49 = .ok (.iadd, 1) := by decide +kernel
theorem dX12_writesRow_50 : decode cX12_writesRow 50 = .ok (.aload_n 0, 1) := by decide +kernel
theorem dX12_writesRow_51 : decode cX12_writesRow 51 = .ok (.getfield 27, 3) := by decide +kernel
theorem dX12_writesRow_54 : decode cX12_writesRow 54 = .ok (.sipush 2506, 3) := by decide +kernel
theorem dX12_writesRow_57 : decode cX12_writesRow 57 = .ok (.iload_n 1, 1) := by decide +kernel
theorem dX12_writesRow_58 : decode cX12_writesRow 58 = .ok (.iadd, 1) := by decide +kernel
theorem dX12_writesRow_59 : decode cX12_writesRow 59 = .ok (.iaload, 1) := by decide +kernel
theorem dX12_writesRow_60 : decode cX12_writesRow 60 = .ok (.iastore, 1) := by decide +kernel
theorem dX12_writesRow_61 : decode cX12_writesRow 61 = .ok (.iinc 1 1, 3) := by decide +kernel
theorem dX12_writesRow_64 : decode cX12_writesRow 64 = .ok (.goto (-50), 3) := by decide +kernel
theorem dX12_writesRow_67 : decode cX12_writesRow 67 = .ok (.aload_n 0, 1) := by decide +kernel
theorem dX12_writesRow_68 : decode cX12_writesRow 68 = .ok (.getfield 27, 3) := by decide +kernel
theorem dX12_writesRow_71 : decode cX12_writesRow 71 = .ok (.sipush 2265, 3) := by decide +kernel
theorem dX12_writesRow_74 : decode cX12_writesRow 74 = .ok (.dup2, 1) := by decide +kernel
theorem dX12_writesRow_75 : decode cX12_writesRow 75 = .ok (.iaload, 1) := by decide +kernel
theorem dX12_writesRow_76 : decode cX12_writesRow 76 = .ok (.iconst 1, 1) := by decide +kernel
theorem dX12_writesRow_77 : decode cX12_writesRow 77 = .ok (.isub, 1) := by decide +kernel
theorem dX12_writesRow_78 : decode cX12_writesRow 78 = .ok (.iastore, 1) := by decide +kernel
theorem dX12_writesRow_79 : decode cX12_writesRow 79 = .ok (.iconst 0, 1) := by decide +kernel
theorem dX12_writesRow_80 : decode cX12_writesRow 80 = .ok (.istore_n 1, 1) := by decide +kernel
theorem dX12_writesRow_81 : decode cX12_writesRow 81 = .ok (.iload_n 1, 1) := by decide +kernel
theorem dX12_writesRow_82 : decode cX12_writesRow 82 = .ok (.bipush 48, 2) := by decide +kernel
theorem dX12_writesRow_84 : decode cX12_writesRow 84 = .ok (.if_icmp .ge 67, 3) := by decide +kernel
theorem dX12_writesRow_87 : decode cX12_writesRow 87 = .ok (.aload_n 0, 1) := by decide +kernel
theorem dX12_writesRow_88 : decode cX12_writesRow 88 = .ok (.getfield 27, 3) := by decide +kernel
theorem dX12_writesRow_91 : decode cX12_writesRow 91 = .ok (.sipush 2266, 3) := by decide +kernel
theorem dX12_writesRow_94 : decode cX12_writesRow 94 = .ok (.bipush 48, 2) := by decide +kernel
theorem dX12_writesRow_96 : decode cX12_writesRow 96 = .ok (.aload_n 0, 1) := by decide +kernel
theorem dX12_writesRow_97 : decode cX12_writesRow 97 = .ok (.getfield 27, 3) := by decide +kernel
theorem dX12_writesRow_100 : decode cX12_writesRow 100 = .ok (.sipush 2265, 3) := by decide +kernel
theorem dX12_writesRow_103 : decode cX12_writesRow 103 = .ok (.iaload, 1) := by decide +kernel
theorem dX12_writesRow_104 : decode cX12_writesRow 104 = .ok (.imul, 1) := by decide +kernel
theorem dX12_writesRow_105 : decode cX12_writesRow 105 = .ok (.iadd, 1) := by decide +kernel
theorem dX12_writesRow_106 : decode cX12_writesRow 106 = .ok (.iload_n 1, 1) := by decide +kernel
theorem dX12_writesRow_107 : decode cX12_writesRow 107 = .ok (.iadd, 1) := by decide +kernel
theorem dX12_writesRow_108 : decode cX12_writesRow 108 = .ok (.aload_n 0, 1) := by decide +kernel
theorem dX12_writesRow_109 : decode cX12_writesRow 109 = .ok (.iload_n 1, 1) := by decide +kernel
theorem dX12_writesRow_110 : decode cX12_writesRow 110 = .ok (.bipush 9, 2) := by decide +kernel
theorem dX12_writesRow_112 : decode cX12_writesRow 112 = .ok (.invokevirtual 79, 3) := by decide +kernel
theorem dX12_writesRow_115 : decode cX12_writesRow 115 = .ok (.iastore, 1) := by decide +kernel
theorem dX12_writesRow_116 : decode cX12_writesRow 116 = .ok (.aload_n 0, 1) := by decide +kernel
theorem dX12_writesRow_117 : decode cX12_writesRow 117 = .ok (.getfield 27, 3) := by decide +kernel
theorem dX12_writesRow_120 : decode cX12_writesRow 120 = .ok (.sipush 2458, 3) := by decide +kernel
theorem dX12_writesRow_123 : decode cX12_writesRow 123 = .ok (.bipush 48, 2) := by decide +kernel
theorem dX12_writesRow_125 : decode cX12_writesRow 125 = .ok (.aload_n 0, 1) := by decide +kernel
theorem dX12_writesRow_126 : decode cX12_writesRow 126 = .ok (.getfield 27, 3) := by decide +kernel
theorem dX12_writesRow_129 : decode cX12_writesRow 129 = .ok (.sipush 2265, 3) := by decide +kernel
theorem dX12_writesRow_132 : decode cX12_writesRow 132 = .ok (.iaload, 1) := by decide +kernel
theorem dX12_writesRow_133 : decode cX12_writesRow 133 = .ok (.imul, 1) := by decide +kernel
theorem dX12_writesRow_134 : decode cX12_writesRow 134 = .ok (.iadd, 1) := by decide +kernel
theorem dX12_writesRow_135 : decode cX12_writesRow 135 = .ok (.iload_n 1, 1) := by decide +kernel
theorem dX12_writesRow_136 : decode cX12_writesRow 136 = .ok (.iadd, 1) := by decide +kernel
theorem dX12_writesRow_137 : decode cX12_writesRow 137 = .ok (.aload_n 0, 1) := by decide +kernel
theorem dX12_writesRow_138 : decode cX12_writesRow 138 = .ok (.iload_n 1, 1) := by decide +kernel
theorem dX12_writesRow_139 : decode cX12_writesRow 139 = .ok (.bipush 9, 2) := by decide +kernel
theorem dX12_writesRow_141 : decode cX12_writesRow 141 = .ok (.invokevirtual 79, 3) := by decide +kernel
theorem dX12_writesRow_144 : decode cX12_writesRow 144 = .ok (.iastore, 1) := by decide +kernel
theorem dX12_writesRow_145 : decode cX12_writesRow 145 = .ok (.iinc 1 1, 3) := by decide +kernel
theorem dX12_writesRow_148 : decode cX12_writesRow 148 = .ok (.goto (-67), 3) := by decide +kernel
theorem dX12_writesRow_151 : decode cX12_writesRow 151 = .ok (.aload_n 0, 1) := by decide +kernel
theorem dX12_writesRow_152 : decode cX12_writesRow 152 = .ok (.getfield 27, 3) := by decide +kernel
theorem dX12_writesRow_155 : decode cX12_writesRow 155 = .ok (.sipush 2265, 3) := by decide +kernel
theorem dX12_writesRow_158 : decode cX12_writesRow 158 = .ok (.dup2, 1) := by decide +kernel
theorem dX12_writesRow_159 : decode cX12_writesRow 159 = .ok (.iaload, 1) := by decide +kernel
theorem dX12_writesRow_160 : decode cX12_writesRow 160 = .ok (.iconst 1, 1) := by decide +kernel
theorem dX12_writesRow_161 : decode cX12_writesRow 161 = .ok (.iadd, 1) := by decide +kernel
theorem dX12_writesRow_162 : decode cX12_writesRow 162 = .ok (.iastore, 1) := by decide +kernel
theorem dX12_writesRow_163 : decode cX12_writesRow 163 = .ok (.return_, 1) := by decide +kernel
noncomputable def E_X12_writesRow : mE := (mX12_writesRow, [(41, [(0, (.aload_n 0, 1, false, false, 0, 0, 0, 0, 0, 0, [])), (1, (.getfield 27, 4, false, false, 15, 1, 1, 0, 0, 0, [])), (4, (.sipush 2265, 7, false, false, 0, 0, 0, 0, 2265, 0, [])), (7, (.iaload, 8, false, false, 0, 0, 0, 0, 0, 0, [])), (8, (.iconst 4, 9, false, false, 0, 0, 0, 0, 4, 0, [])), (9, (.if_icmp .ne 70, 12, false, false, 79, 0, 0, 0, 0, 0, [])), (12, (.iconst 0, 13, false, false, 0, 0, 0, 0, 0, 0, [])), (13, (.istore_n 1, 14, true, false, 1, 0, 0, 0, 0, 0, [])), (14, (.iload_n 1, 15, false, false, 1, 0, 0, 0, 0, 0, [])), (15, (.sipush 144, 18, false, false, 0, 0, 0, 0, 144, 0, [])), (18, (.if_icmp .ge 49, 21, false, false, 67, 0, 0, 0, 0, 0, [])), (21, (.aload_n 0, 22, false, false, 0, 0, 0, 0, 0, 0, [])), (22, (.getfield 27, 25, false, false, 15, 1, 1, 0, 0, 0, [])), (25, (.sipush 2266, 28, false, false, 0, 0, 0, 0, 2266, 0, [])), (28, (.iload_n 1, 29, false, false, 1, 0, 0, 0, 0, 0, [])), (29, (.iadd, 30, false, false, 0, 0, 0, 0, 0, 0, [])), (30, (.aload_n 0, 31, false, false, 0, 0, 0, 0, 0, 0, [])), (31, (.getfield 27, 34, false, false, 15, 1, 1, 0, 0, 0, [])), (34, (.sipush 2314, 37, false, false, 0, 0, 0, 0, 2314, 0, [])), (37, (.iload_n 1, 38, false, false, 1, 0, 0, 0, 0, 0, [])), (38, (.iadd, 39, false, false, 0, 0, 0, 0, 0, 0, [])), (39, (.iaload, 40, false, false, 0, 0, 0, 0, 0, 0, [])), (40, (.iastore, 41, false, false, 0, 0, 0, 0, 0, 0, [])), (41, (.aload_n 0, 42, false, false, 0, 0, 0, 0, 0, 0, []))]),
  (81, [(42, (.getfield 27, 45, false, false, 15, 1, 1, 0, 0, 0, [])), (45, (.sipush 2458, 48, false, false, 0, 0, 0, 0, 2458, 0, [])), (48, (.iload_n 1, 49, false, false, 1, 0, 0, 0, 0, 0, [])), (49, (.iadd, 50, false, false, 0, 0, 0, 0, 0, 0, [])), (50, (.aload_n 0, 51, false, false, 0, 0, 0, 0, 0, 0, [])), (51, (.getfield 27, 54, false, false, 15, 1, 1, 0, 0, 0, [])), (54, (.sipush 2506, 57, false, false, 0, 0, 0, 0, 2506, 0, [])), (57, (.iload_n 1, 58, false, false, 1, 0, 0, 0, 0, 0, [])), (58, (.iadd, 59, false, false, 0, 0, 0, 0, 0, 0, [])), (59, (.iaload, 60, false, false, 0, 0, 0, 0, 0, 0, [])), (60, (.iastore, 61, false, false, 0, 0, 0, 0, 0, 0, [])), (61, (.iinc 1 1, 64, false, false, 1, 0, 0, 0, 1, 0, [])), (64, (.goto (-50), 67, false, true, 14, 0, 0, 0, 0, 0, [])), (67, (.aload_n 0, 68, false, false, 0, 0, 0, 0, 0, 0, [])), (68, (.getfield 27, 71, false, false, 15, 1, 1, 0, 0, 0, [])), (71, (.sipush 2265, 74, false, false, 0, 0, 0, 0, 2265, 0, [])), (74, (.dup2, 75, false, false, 0, 0, 0, 0, 0, 0, [])), (75, (.iaload, 76, false, false, 0, 0, 0, 0, 0, 0, [])), (76, (.iconst 1, 77, false, false, 0, 0, 0, 0, 1, 0, [])), (77, (.isub, 78, false, false, 0, 0, 0, 0, 0, 0, [])), (78, (.iastore, 79, false, false, 0, 0, 0, 0, 0, 0, [])), (79, (.iconst 0, 80, false, false, 0, 0, 0, 0, 0, 0, [])), (80, (.istore_n 1, 81, true, false, 1, 0, 0, 0, 0, 0, [])), (81, (.iload_n 1, 82, false, false, 1, 0, 0, 0, 0, 0, []))]),
  (125, [(82, (.bipush 48, 84, false, false, 0, 0, 0, 0, 48, 0, [])), (84, (.if_icmp .ge 67, 87, false, false, 151, 0, 0, 0, 0, 0, [])), (87, (.aload_n 0, 88, false, false, 0, 0, 0, 0, 0, 0, [])), (88, (.getfield 27, 91, false, false, 15, 1, 1, 0, 0, 0, [])), (91, (.sipush 2266, 94, false, false, 0, 0, 0, 0, 2266, 0, [])), (94, (.bipush 48, 96, false, false, 0, 0, 0, 0, 48, 0, [])), (96, (.aload_n 0, 97, false, false, 0, 0, 0, 0, 0, 0, [])), (97, (.getfield 27, 100, false, false, 15, 1, 1, 0, 0, 0, [])), (100, (.sipush 2265, 103, false, false, 0, 0, 0, 0, 2265, 0, [])), (103, (.iaload, 104, false, false, 0, 0, 0, 0, 0, 0, [])), (104, (.imul, 105, false, false, 0, 0, 0, 0, 0, 0, [])), (105, (.iadd, 106, false, false, 0, 0, 0, 0, 0, 0, [])), (106, (.iload_n 1, 107, false, false, 1, 0, 0, 0, 0, 0, [])), (107, (.iadd, 108, false, false, 0, 0, 0, 0, 0, 0, [])), (108, (.aload_n 0, 109, false, false, 0, 0, 0, 0, 0, 0, [])), (109, (.iload_n 1, 110, false, false, 1, 0, 0, 0, 0, 0, [])), (110, (.bipush 9, 112, false, false, 0, 0, 0, 0, 9, 0, [])), (112, (.invokevirtual 79, 115, false, false, 31, 2, 1, 15, 0, 0, [])), (115, (.iastore, 116, false, false, 0, 0, 0, 0, 0, 0, [])), (116, (.aload_n 0, 117, false, false, 0, 0, 0, 0, 0, 0, [])), (117, (.getfield 27, 120, false, false, 15, 1, 1, 0, 0, 0, [])), (120, (.sipush 2458, 123, false, false, 0, 0, 0, 0, 2458, 0, [])), (123, (.bipush 48, 125, false, false, 0, 0, 0, 0, 48, 0, [])), (125, (.aload_n 0, 126, false, false, 0, 0, 0, 0, 0, 0, []))]),
  (163, [(126, (.getfield 27, 129, false, false, 15, 1, 1, 0, 0, 0, [])), (129, (.sipush 2265, 132, false, false, 0, 0, 0, 0, 2265, 0, [])), (132, (.iaload, 133, false, false, 0, 0, 0, 0, 0, 0, [])), (133, (.imul, 134, false, false, 0, 0, 0, 0, 0, 0, [])), (134, (.iadd, 135, false, false, 0, 0, 0, 0, 0, 0, [])), (135, (.iload_n 1, 136, false, false, 1, 0, 0, 0, 0, 0, [])), (136, (.iadd, 137, false, false, 0, 0, 0, 0, 0, 0, [])), (137, (.aload_n 0, 138, false, false, 0, 0, 0, 0, 0, 0, [])), (138, (.iload_n 1, 139, false, false, 1, 0, 0, 0, 0, 0, [])), (139, (.bipush 9, 141, false, false, 0, 0, 0, 0, 9, 0, [])), (141, (.invokevirtual 79, 144, false, false, 31, 2, 1, 15, 0, 0, [])), (144, (.iastore, 145, false, false, 0, 0, 0, 0, 0, 0, [])), (145, (.iinc 1 1, 148, false, false, 1, 0, 0, 0, 1, 0, [])), (148, (.goto (-67), 151, false, true, 81, 0, 0, 0, 0, 0, [])), (151, (.aload_n 0, 152, false, false, 0, 0, 0, 0, 0, 0, [])), (152, (.getfield 27, 155, false, false, 15, 1, 1, 0, 0, 0, [])), (155, (.sipush 2265, 158, false, false, 0, 0, 0, 0, 2265, 0, [])), (158, (.dup2, 159, false, false, 0, 0, 0, 0, 0, 0, [])), (159, (.iaload, 160, false, false, 0, 0, 0, 0, 0, 0, [])), (160, (.iconst 1, 161, false, false, 0, 0, 0, 0, 1, 0, [])), (161, (.iadd, 162, false, false, 0, 0, 0, 0, 0, 0, [])), (162, (.iastore, 163, false, false, 0, 0, 0, 0, 0, 0, [])), (163, (.return_, 164, false, false, 0, 0, 0, 0, 0, 0, []))])], 0, [])
set_option maxRecDepth 100000 in
theorem v_X12_writesRow : VE MYT dflT E_X12_writesRow := ⟨⟨⟨⟨⟨dX12_writesRow_0, rfl⟩, rfl⟩, ⟨⟨dX12_writesRow_1, rfl⟩, Or.inl ⟨by decide, _, _, fX12_27⟩⟩, ⟨⟨dX12_writesRow_4, rfl⟩, rfl⟩, ⟨⟨dX12_writesRow_7, rfl⟩, trivial⟩, ⟨⟨dX12_writesRow_8, rfl⟩, rfl⟩, ⟨⟨dX12_writesRow_9, rfl⟩, rfl⟩, ⟨⟨dX12_writesRow_12, rfl⟩, rfl⟩, ⟨⟨dX12_writesRow_13, rfl⟩, rfl⟩, ⟨⟨dX12_writesRow_14, rfl⟩, rfl⟩, ⟨⟨dX12_writesRow_15, rfl⟩, rfl⟩, ⟨⟨dX12_writesRow_18, rfl⟩, rfl⟩, ⟨⟨dX12_writesRow_21, rfl⟩, rfl⟩, ⟨⟨dX12_writesRow_22, rfl⟩, Or.inl ⟨by decide, _, _, fX12_27⟩⟩, ⟨⟨dX12_writesRow_25, rfl⟩, rfl⟩, ⟨⟨dX12_writesRow_28, rfl⟩, rfl⟩, ⟨⟨dX12_writesRow_29, rfl⟩, trivial⟩, ⟨⟨dX12_writesRow_30, rfl⟩, rfl⟩, ⟨⟨dX12_writesRow_31, rfl⟩, Or.inl ⟨by decide, _, _, fX12_27⟩⟩, ⟨⟨dX12_writesRow_34, rfl⟩, rfl⟩, ⟨⟨dX12_writesRow_37, rfl⟩, rfl⟩, ⟨⟨dX12_writesRow_38, rfl⟩, trivial⟩, ⟨⟨dX12_writesRow_39, rfl⟩, trivial⟩, ⟨⟨dX12_writesRow_40, rfl⟩, trivial⟩, ⟨⟨dX12_writesRow_41, rfl⟩, rfl⟩, trivial⟩,
  ⟨⟨⟨dX12_writesRow_42, rfl⟩, Or.inl ⟨by decide, _, _, fX12_27⟩⟩, ⟨⟨dX12_writesRow_45, rfl⟩, rfl⟩, ⟨⟨dX12_writesRow_48, rfl⟩, rfl⟩, ⟨⟨dX12_writesRow_49, rfl⟩, trivial⟩, ⟨⟨dX12_writesRow_50, rfl⟩, rfl⟩, ⟨⟨dX12_writesRow_51, rfl⟩, Or.inl ⟨by decide, _, _, fX12_27⟩⟩, ⟨⟨dX12_writesRow_54, rfl⟩, rfl⟩, ⟨⟨dX12_writesRow_57, rfl⟩, rfl⟩, ⟨⟨dX12_writesRow_58, rfl⟩, trivial⟩, ⟨⟨dX12_writesRow_59, rfl⟩, trivial⟩, ⟨⟨dX12_writesRow_60, rfl⟩, trivial⟩, ⟨⟨dX12_writesRow_61, rfl⟩, ⟨rfl, rfl⟩⟩, ⟨⟨dX12_writesRow_64, rfl⟩, rfl⟩, ⟨⟨dX12_writesRow_67, rfl⟩, rfl⟩, ⟨⟨dX12_writesRow_68, rfl⟩, Or.inl ⟨by decide, _, _, fX12_27⟩⟩, ⟨⟨dX12_writesRow_71, rfl⟩, rfl⟩, ⟨⟨dX12_writesRow_74, rfl⟩, trivial⟩, ⟨⟨dX12_writesRow_75, rfl⟩, trivial⟩, ⟨⟨dX12_writesRow_76, rfl⟩, rfl⟩, ⟨⟨dX12_writesRow_77, rfl⟩, trivial⟩, ⟨⟨dX12_writesRow_78, rfl⟩, trivial⟩, ⟨⟨dX12_writesRow_79, rfl⟩, rfl⟩, ⟨⟨dX12_writesRow_80, rfl⟩, rfl⟩, ⟨⟨dX12_writesRow_81, rfl⟩, rfl⟩, trivial⟩,
  ⟨⟨⟨dX12_writesRow_82, rfl⟩, rfl⟩, ⟨⟨dX12_writesRow_84, rfl⟩, rfl⟩, ⟨⟨dX12_writesRow_87, rfl⟩, rfl⟩, ⟨⟨dX12_writesRow_88, rfl⟩, Or.inl ⟨by decide, _, _, fX12_27⟩⟩, ⟨⟨dX12_writesRow_91, rfl⟩, rfl⟩, ⟨⟨dX12_writesRow_94, rfl⟩, rfl⟩, ⟨⟨dX12_writesRow_96, rfl⟩, rfl⟩, ⟨⟨dX12_writesRow_97, rfl⟩, Or.inl ⟨by decide, _, _, fX12_27⟩⟩, ⟨⟨dX12_writesRow_100, rfl⟩, rfl⟩, ⟨⟨dX12_writesRow_103, rfl⟩, trivial⟩, ⟨⟨dX12_writesRow_104, rfl⟩, trivial⟩, ⟨⟨dX12_writesRow_105, rfl⟩, trivial⟩, ⟨⟨dX12_writesRow_106, rfl⟩, rfl⟩, ⟨⟨dX12_writesRow_107, rfl⟩, trivial⟩, ⟨⟨dX12_writesRow_108, rfl⟩, rfl⟩, ⟨⟨dX12_writesRow_109, rfl⟩, rfl⟩, ⟨⟨dX12_writesRow_110, rfl⟩, rfl⟩, ⟨⟨dX12_writesRow_112, rfl⟩, Or.inr ⟨by decide, ⟨_, my_31, sX12_79⟩, fun q => absurd q (by decide)⟩⟩, ⟨⟨dX12_writesRow_115, rfl⟩, trivial⟩, ⟨⟨dX12_writesRow_116, rfl⟩, rfl⟩, ⟨⟨dX12_writesRow_117, rfl⟩, Or.inl ⟨by decide, _, _, fX12_27⟩⟩, ⟨⟨dX12_writesRow_120, rfl⟩, rfl⟩, ⟨⟨dX12_writesRow_123, rfl⟩, rfl⟩, ⟨⟨dX12_writesRow_125, rfl⟩, rfl⟩, trivial⟩,
  ⟨⟨⟨dX12_writesRow_126, rfl⟩, Or.inl ⟨by decide, _, _, fX12_27⟩⟩, ⟨⟨dX12_writesRow_129, rfl⟩, rfl⟩, ⟨⟨dX12_writesRow_132, rfl⟩, trivial⟩, ⟨⟨dX12_writesRow_133, rfl⟩, trivial⟩, ⟨⟨dX12_writesRow_134, rfl⟩, trivial⟩, ⟨⟨dX12_writesRow_135, rfl⟩, rfl⟩, ⟨⟨dX12_writesRow_136, rfl⟩, trivial⟩, ⟨⟨dX12_writesRow_137, rfl⟩, rfl⟩, ⟨⟨dX12_writesRow_138, rfl⟩, rfl⟩, ⟨⟨dX12_writesRow_139, rfl⟩, rfl⟩, ⟨⟨dX12_writesRow_141, rfl⟩, Or.inr ⟨by decide, ⟨_, my_31, sX12_79⟩, fun q => absurd q (by decide)⟩⟩, ⟨⟨dX12_writesRow_144, rfl⟩, trivial⟩, ⟨⟨dX12_writesRow_145, rfl⟩, ⟨rfl, rfl⟩⟩, ⟨⟨dX12_writesRow_148, rfl⟩, rfl⟩, ⟨⟨dX12_writesRow_151, rfl⟩, rfl⟩, ⟨⟨dX12_writesRow_152, rfl⟩, Or.inl ⟨by decide, _, _, fX12_27⟩⟩, ⟨⟨dX12_writesRow_155, rfl⟩, rfl⟩, ⟨⟨dX12_writesRow_158, rfl⟩, trivial⟩, ⟨⟨dX12_writesRow_159, rfl⟩, trivial⟩, ⟨⟨dX12_writesRow_160, rfl⟩, rfl⟩, ⟨⟨dX12_writesRow_161, rfl⟩, trivial⟩, ⟨⟨dX12_writesRow_162, rfl⟩, trivial⟩, ⟨⟨dX12_writesRow_163, rfl⟩, rfl⟩, trivial⟩, trivial⟩, by decide, Or.inl ⟨rfl, by decide, rfl⟩⟩
set_option maxRecDepth 100000 in
theorem g_X12_writesRow_0 (S : sT) (call : cT) (n : Nat) (a0 : Nat) (h : pH) : bd S call dflT E_X12_writesRow (n + 1) 0 [some (.ref a0), none] [] h = (gV h (.ref a0) 15 1 (fun w1 => aI h w1 0 2265 (fun y2 => (if y2 = 4 then bd S call dflT E_X12_writesRow n 14 [some (.ref a0), some (.int 0)] [] h else bd S call dflT E_X12_writesRow n 81 [some (.ref a0), some (.int 0)] [] h)))) := rfl
set_option maxRecDepth 100000 in
theorem g_X12_writesRow_14 (S : sT) (call : cT) (n : Nat) (a0 : Nat) (x1 : Int32) (h : pH) : bd S call dflT E_X12_writesRow (n + 1) 14 [some (.ref a0), some (.int x1)] [] h = ((if 144 ≤ x1 then gV h (.ref a0) 15 1 (fun w1 => nl w1 (aI h w1 0 2265 (fun y2 => sI h w1 0 2265 (y2 - 1) (fun h3 => bd S call dflT E_X12_writesRow n 81 [some (.ref a0), some (.int 0)] [] h3)))) else gV h (.ref a0) 15 1 (fun w4 => gV h (.ref a0) 15 1 (fun w5 => aI h w5 0 (2314 + x1) (fun y6 => sI h w4 0 (2266 + x1) y6 (fun h7 => gV h7 (.ref a0) 15 1 (fun w8 => gV h7 (.ref a0) 15 1 (fun w9 => aI h7 w9 0 (2506 + x1) (fun y10 => sI h7 w8 0 (2458 + x1) y10 (fun h11 => bd S call dflT E_X12_writesRow n 14 [some (.ref a0), some (.int (x1 + 1))] [] h11)))))))))) := rfl
set_option maxRecDepth 100000 in
theorem g_X12_writesRow_81 (S : sT) (call : cT) (n : Nat) (a0 : Nat) (x1 : Int32) (h : pH) : bd S call dflT E_X12_writesRow (n + 1) 81 [some (.ref a0), some (.int x1)] [] h = ((if 48 ≤ x1 then gV h (.ref a0) 15 1 (fun w1 => nl w1 (aI h w1 0 2265 (fun y2 => sI h w1 0 2265 (y2 + 1) (fun h3 => some (.inl none, h3))))) else gV h (.ref a0) 15 1 (fun w4 => gV h (.ref a0) 15 1 (fun w5 => aI h w5 0 2265 (fun y6 => rC h (.ref a0) 15 (cI (call 31 [.ref a0, .int x1, .int 9] h) (fun y8 h7 => sI h7 w4 0 ((2266 + (48 * y6)) + x1) y8 (fun h9 => gV h9 (.ref a0) 15 1 (fun w10 => gV h9 (.ref a0) 15 1 (fun w11 => aI h9 w11 0 2265 (fun y12 => rC h9 (.ref a0) 15 (cI (call 31 [.ref a0, .int x1, .int 9] h9) (fun y14 h13 => sI h13 w10 0 ((2458 + (48 * y12)) + x1) y14 (fun h15 => bd S call dflT E_X12_writesRow n 81 [some (.ref a0), some (.int (x1 + 1))] [] h15)))))))))))))) := rfl
theorem dX12_summer_0 : decode cX12_summer 0 = .ok (.aload_n 0, 1) := by decide +kernel
theorem dX12_summer_1 : decode cX12_summer 1 = .ok (.aload_n 0, 1) := by decide +kernel
theorem dX12_summer_2 : decode cX12_summer 2 = .ok (.invokevirtual 97, 3) := by decide +kernel
theorem dX12_summer_5 : decode cX12_summer 5 = .ok (.invokevirtual 86, 3) := by decide +kernel
theorem dX12_summer_8 : decode cX12_summer 8 = .ok (.istore_n 1, 1) := by decide +kernel
theorem dX12_summer_9 : decode cX12_summer 9 = .ok (.iconst 0, 1) := by decide +kernel
theorem dX12_summer_10 : decode cX12_summer 10 = .ok (.istore_n 2, 1) := by decide +kernel
theorem dX12_summer_11 : decode cX12_summer 11 = .ok (.iload_n 2, 1) := by decide +kernel
theorem dX12_summer_12 : decode cX12_summer 12 = .ok (.bipush 48, 2) := by decide +kernel
theorem dX12_summer_14 : decode cX12_summer 14 = .ok (.if_icmp .ge 257, 3) := by decide +kernel
theorem dX12_summer_17 : decode cX12_summer 17 = .ok (.aload_n 0, 1) := by decide +kernel
theorem dX12_summer_18 : decode cX12_summer 18 = .ok (.iload_n 2, 1) := by decide +kernel
theorem dX12_summer_19 : decode cX12_summer 19 = .ok (.iconst 3, 1) := by decide +kernel
theorem dX12_summer_20 : decode cX12_summer 20 = .ok (.invokevirtual 79, 3) := by decide +kernel
theorem dX12_summer_23 : decode cX12_summer 23 = .ok (.istore_n 3, 1) := by decide +kernel
theorem dX12_summer_24 : decode cX12_summer 24 = .ok (.aload_n 0, 1) := by decide +kernel
theorem dX12_summer_25 : decode cX12_summer 25 = .ok (.iload_n 2, 1) := by decide +kernel
theorem dX12_summer_26 : decode cX12_summer 26 = .ok (.iload_n 3, 1) := by decide +kernel
theorem dX12_summer_27 : decode cX12_summer 27 = .ok (.iload_n 1, 1) := by decide +kernel
theorem dX12_summer_28 : decode cX12_summer 28 = .ok (.invokevirtual 404, 3) := by decide +kernel
theorem dX12_summer_31 : decode cX12_summer 31 = .ok (.istore 4, 2) := by decide +kernel
theorem dX12_summer_33 : decode cX12_summer 33 = .ok (.iload 4, 2) := by decide +kernel
theorem dX12_summer_35 : decode cX12_summer 35 = .ok (.aload_n 0, 1) := by decide +kernel
theorem dX12_summer_36 : decode cX12_summer 36 = .ok (.iload_n 2, 1) := by decide +kernel
theorem dX12_summer_37 : decode cX12_summer 37 = .ok (.bipush 6, 2) := by decide +kernel
theorem dX12_summer_39 : decode cX12_summer 39 = .ok (.invokevirtual 79, 3) := by decide +kernel
theorem dX12_summer_42 : decode cX12_summer 42 = .ok (.iconst 4, 1) := by decide +kernel
theorem dX12_summer_43 : decode cX12_summer 43 = .ok (.idiv, 1) := by decide +kernel
theorem dX12_summer_44 : decode cX12_summer 44 = .ok (.invokestatic 358, 3) := by decide +kernel
theorem dX12_summer_47 : decode cX12_summer 47 = .ok (.istore 5, 2) := by decide +kernel
theorem dX12_summer_49 : decode cX12_summer 49 = .ok (.aload_n 0, 1) := by decide +kernel
theorem dX12_summer_50 : decode cX12_summer 50 = .ok (.getfield 27, 3) := by decide +kernel
theorem dX12_summer_53 : decode cX12_summer 53 = .ok (.iload_n 2, 1) := by decide +kernel
theorem dX12_summer_54 : decode cX12_summer 54 = .ok (.bipush 9, 2) := by decide +kernel
theorem dX12_summer_56 : decode cX12_summer 56 = .ok (.invokestatic 59, 3) := by decide +kernel
theorem dX12_summer_59 : decode cX12_summer 59 = .ok (.iload 4, 2) := by decide +kernel
theorem dX12_summer_61 : decode cX12_summer 61 = .ok (.iload 5, 2) := by decide +kernel
theorem dX12_summer_63 : decode cX12_summer 63 = .ok (.isub, 1) := by decide +kernel
theorem dX12_summer_64 : decode cX12_summer 64 = .ok (.iastore, 1) := by decide +kernel
theorem dX12_summer_65 : decode cX12_summer 65 = .ok (.aload_n 0, 1) := by decide +kernel
theorem dX12_summer_66 : decode cX12_summer 66 = .ok (.getfield 27, 3) := by decide +kernel
theorem dX12_summer_69 : decode cX12_summer 69 = .ok (.iload_n 2, 1) := by decide +kernel
theorem dX12_summer_70 : decode cX12_summer 70 = .ok (.bipush 12, 2) := by decide +kernel
theorem dX12_summer_72 : decode cX12_summer 72 = .ok (.invokestatic 59, 3) := by decide +kernel
theorem dX12_summer_75 : decode cX12_summer 75 = .ok (.iload 5, 2) := by decide +kernel
theorem dX12_summer_77 : decode cX12_summer 77 = .ok (.iastore, 1) := by decide +kernel
theorem dX12_summer_78 : decode cX12_summer 78 = .ok (.aload_n 0, 1) := by decide +kernel
theorem dX12_summer_79 : decode cX12_summer 79 = .ok (.getfield 27, 3) := by decide +kernel
theorem dX12_summer_82 : decode cX12_summer 82 = .ok (.iload_n 2, 1) := by decide +kernel
theorem dX12_summer_83 : decode cX12_summer 83 = .ok (.bipush 13, 2) := by decide +kernel
theorem dX12_summer_85 : decode cX12_summer 85 = .ok (.invokestatic 59, 3) := by decide +kernel
theorem dX12_summer_88 : decode cX12_summer 88 = .ok (.iload_n 3, 1) := by decide +kernel
theorem dX12_summer_89 : decode cX12_summer 89 = .ok (.iastore, 1) := by decide +kernel
theorem dX12_summer_90 : decode cX12_summer 90 = .ok (.iload_n 3, 1) := by decide +kernel
theorem dX12_summer_91 : decode cX12_summer 91 = .ok (.ifCond .ne 6, 3) := by decide +kernel
theorem dX12_summer_94 : decode cX12_summer 94 = .ok (.goto 171, 3) := by decide +kernel
theorem dX12_summer_97 : decode cX12_summer 97 = .ok (.iload_n 3, 1) := by decide +kernel
theorem dX12_summer_98 : decode cX12_summer 98 = .ok (.iconst 1, 1) := by decide +kernel
theorem dX12_summer_99 : decode cX12_summer 99 = .ok (.if_icmp .ne 7, 3) := by decide +kernel
theorem dX12_summer_102 : decode cX12_summer 102 = .ok (.iconst 2, 1) := by decide +kernel
theorem dX12_summer_103 : decode cX12_summer 103 = .ok (.goto 33, 3) := by decide +kernel
theorem dX12_summer_106 : decode cX12_summer 106 = .ok (.iload_n 3, 1) := by decide +kernel
theorem dX12_summer_107 : decode cX12_summer 107 = .ok (.iconst 2, 1) := by decide +kernel
theorem dX12_summer_108 : decode cX12_summer 108 = .ok (.if_icmp .ne 7, 3) := by decide +kernel
theorem dX12_summer_111 : decode cX12_summer 111 = .ok (.iconst 1, 1) := by decide +kernel
theorem dX12_summer_112 : decode cX12_summer 112 = .ok (.goto 24, 3) := by decide +kernel
theorem dX12_summer_115 : decode cX12_summer 115 = .ok (.iload_n 3, 1) := by decide +kernel
theorem dX12_summer_116 : decode cX12_summer 116 = .ok (.iconst 3, 1) := by decide +kernel
theorem dX12_summer_117 : decode cX12_summer 117 = .ok (.if_icmp .ne 7, 3) := by decide +kernel
theorem dX12_summer_120 : decode cX12_summer 120 = .ok (.iconst (-1), 1) := by decide +kernel
theorem dX12_summer_121 : decode cX12_summer 121 = .ok (.goto 15, 3) := by decide +kernel
theorem dX12_summer_124 : decode cX12_summer 124 = .ok (.iload_n 3, 1) := by decide +kernel
theorem dX12_summer_125 : decode cX12_summer 125 = .ok (.iconst 4, 1) := by decide +kernel
theorem dX12_summer_126 : decode cX12_summer 126 = .ok (.if_icmp .ne 8, 3) := by decide +kernel
theorem dX12_summer_129 : decode cX12_summer 129 = .ok (.bipush (-2), 2) := by decide +kernel
theorem dX12_summer_131 : decode cX12_summer 131 = .ok (.goto 5, 3) := by decide +kernel
theorem dX12_summer_134 : decode cX12_summer 134 = .ok (.bipush (-3), 2) := by decide +kernel
theorem dX12_summer_136 : decode cX12_summer 136 = .ok (.istore 6, 2) := by decide +kernel
theorem dX12_summer_138 : decode cX12_summer 138 = .ok (.aload_n 0, 1) := by decide +kernel
theorem dX12_summer_139 : decode cX12_summer 139 = .ok (.getfield 27, 3) := by decide +kernel
theorem dX12_summer_142 : decode cX12_summer 142 = .ok (.iload_n 2, 1) := by decide +kernel
theorem dX12_summer_143 : decode cX12_summer 143 = .ok (.iconst 2, 1) := by decide +kernel
theorem dX12_summer_144 : decode cX12_summer 144 = .ok (.invokestatic 59, 3) := by decide +kernel
theorem dX12_summer_147 : decode cX12_summer 147 = .ok (.iconst 0, 1) := by decide +kernel
theorem dX12_summer_148 : decode cX12_summer 148 = .ok (.bipush 20, 2) := by decide +kernel
theorem dX12_summer_150 : decode cX12_summer 150 = .ok (.aload_n 0, 1) := by decide +kernel
theorem dX12_summer_151 : decode cX12_summer 151 = .ok (.iload_n 2, 1) := by decide +kernel
theorem dX12_summer_152 : decode cX12_summer 152 = .ok (.iconst 2, 1) := by decide +kernel
theorem dX12_summer_153 : decode cX12_summer 153 = .ok (.invokevirtual 79, 3) := by decide +kernel
theorem dX12_summer_156 : decode cX12_summer 156 = .ok (.iload 6, 2) := by decide +kernel
theorem dX12_summer_158 : decode cX12_summer 158 = .ok (.iadd, 1) := by decide +kernel
theorem dX12_summer_159 : decode cX12_summer 159 = .ok (.invokestatic 358, 3) := by decide +kernel
theorem dX12_summer_162 : decode cX12_summer 162 = .ok (.invokestatic 100, 3) := by decide +kernel
theorem dX12_summer_165 : decode cX12_summer 165 = .ok (.iastore, 1) := by decide +kernel
theorem dX12_summer_166 : decode cX12_summer 166 = .ok (.aload_n 0, 1) := by decide +kernel
theorem dX12_summer_167 : decode cX12_summer 167 = .ok (.iload_n 2, 1) := by decide +kernel
theorem dX12_summer_168 : decode cX12_summer 168 = .ok (.bipush 10, 2) := by decide +kernel
theorem dX12_summer_170 : decode cX12_summer 170 = .ok (.invokevirtual 79, 3) := by decide +kernel
theorem dX12_summer_173 : decode cX12_summer 173 = .ok (.istore 7, 2) := by decide +kernel
theorem dX12_summer_175 : decode cX12_summer 175 = .ok (.iload 4, 2) := by decide +kernel
theorem dX12_summer_177 : decode cX12_summer 177 = .ok (.iload 5, 2) := by decide +kernel
theorem dX12_summer_179 : decode cX12_summer 179 = .ok (.isub, 1) := by decide +kernel
theorem dX12_summer_180 : decode cX12_summer 180 = .ok (.aload_n 0, 1) := by decide +kernel
theorem dX12_summer_181 : decode cX12_summer 181 = .ok (.iload_n 3, 1) := by decide +kernel
theorem dX12_summer_182 : decode cX12_summer 182 = .ok (.invokevirtual 290, 3) := by decide +kernel
theorem dX12_summer_185 : decode cX12_summer 185 = .ok (.imul, 1) := by decide +kernel
theorem dX12_summer_186 : decode cX12_summer 186 = .ok (.istore 8, 2) := by decide +kernel
theorem dX12_summer_188 : decode cX12_summer 188 = .ok (.aload_n 0, 1) := by decide +kernel
theorem dX12_summer_189 : decode cX12_summer 189 = .ok (.getfield 27, 3) := by decide +kernel
theorem dX12_summer_192 : decode cX12_summer 192 = .ok (.iconst 3, 1) := by decide +kernel
theorem dX12_summer_193 : decode cX12_summer 193 = .ok (.aload_n 0, 1) := by decide +kernel
theorem dX12_summer_194 : decode cX12_summer 194 = .ok (.getfield 27, 3) := by decide +kernel
theorem dX12_summer_197 : decode cX12_summer 197 = .ok (.iconst 3, 1) := by decide +kernel
theorem dX12_summer_198 : decode cX12_summer 198 = .ok (.iaload, 1) := by decide +kernel
theorem dX12_summer_199 : decode cX12_summer 199 = .ok (.i2l, 1) := by decide +kernel
theorem dX12_summer_200 : decode cX12_summer 200 = .ok (.iload 8, 2) := by decide +kernel
theorem dX12_summer_202 : decode cX12_summer 202 = .ok (.i2l, 1) := by decide +kernel
theorem dX12_summer_203 : decode cX12_summer 203 = .ok (.ladd, 1) := by decide +kernel
theorem dX12_summer_204 : decode cX12_summer 204 = .ok (.invokestatic 345, 3) := by decide +kernel
theorem dX12_summer_207 : decode cX12_summer 207 = .ok (.iastore, 1) := by decide +kernel
theorem dX12_summer_208 : decode cX12_summer 208 = .ok (.aload_n 0, 1) := by decide +kernel
theorem dX12_summer_209 : decode cX12_summer 209 = .ok (.iload 7, 2) := by decide +kernel
theorem dX12_summer_211 : decode cX12_summer 211 = .ok (.invokevirtual 389, 3) := by decide +kernel
theorem dX12_summer_214 : decode cX12_summer 214 = .ok (.ifCond .eq 25, 3) := by decide +kernel
theorem dX12_summer_217 : decode cX12_summer 217 = .ok (.aload_n 0, 1) := by decide +kernel
theorem dX12_summer_218 : decode cX12_summer 218 = .ok (.iload 7, 2) := by decide +kernel
theorem dX12_summer_220 : decode cX12_summer 220 = .ok (.iconst 1, 1) := by decide +kernel
theorem dX12_summer_221 : decode cX12_summer 221 = .ok (.aload_n 0, 1) := by decide +kernel
theorem dX12_summer_222 : decode cX12_summer 222 = .ok (.iload 7, 2) := by decide +kernel
theorem dX12_summer_224 : decode cX12_summer 224 = .ok (.iconst 1, 1) := by decide +kernel
theorem dX12_summer_225 : decode cX12_summer 225 = .ok (.invokevirtual 293, 3) := by decide +kernel
theorem dX12_summer_228 : decode cX12_summer 228 = .ok (.i2l, 1) := by decide +kernel
theorem dX12_summer_229 : decode cX12_summer 229 = .ok (.iload 8, 2) := by decide +kernel
theorem dX12_summer_231 : decode cX12_summer 231 = .ok (.i2l, 1) := by decide +kernel
theorem dX12_summer_232 : decode cX12_summer 232 = .ok (.ladd, 1) := by decide +kernel
theorem dX12_summer_233 : decode cX12_summer 233 = .ok (.invokevirtual 373, 3) := by decide +kernel
theorem dX12_summer_236 : decode cX12_summer 236 = .ok (.goto 29, 3) := by decide +kernel
theorem dX12_summer_239 : decode cX12_summer 239 = .ok (.aload_n 0, 1) := by decide +kernel
theorem dX12_summer_240 : decode cX12_summer 240 = .ok (.iload 8, 2) := by decide +kernel
theorem dX12_summer_242 : decode cX12_summer 242 = .ok (.i2l, 1) := by decide +kernel
theorem dX12_summer_243 : decode cX12_summer 243 = .ok (.invokevirtual 355, 3) := by decide +kernel
theorem dX12_summer_246 : decode cX12_summer 246 = .ok (.aload_n 0, 1) := by decide +kernel
theorem dX12_summer_247 : decode cX12_summer 247 = .ok (.iload 7, 2) := by decide +kernel
theorem dX12_summer_249 : decode cX12_summer 249 = .ok (.iconst 5, 1) := by decide +kernel
theorem dX12_summer_250 : decode cX12_summer 250 = .ok (.aload_n 0, 1) := by decide +kernel
theorem dX12_summer_251 : decode cX12_summer 251 = .ok (.iload 7, 2) := by decide +kernel
theorem dX12_summer_253 : decode cX12_summer 253 = .ok (.iconst 5, 1) := by decide +kernel
theorem dX12_summer_254 : decode cX12_summer 254 = .ok (.invokevirtual 293, 3) := by decide +kernel
theorem dX12_summer_257 : decode cX12_summer 257 = .ok (.i2l, 1) := by decide +kernel
theorem dX12_summer_258 : decode cX12_summer 258 = .ok (.iload 8, 2) := by decide +kernel
theorem dX12_summer_260 : decode cX12_summer 260 = .ok (.i2l, 1) := by decide +kernel
theorem dX12_summer_261 : decode cX12_summer 261 = .ok (.ladd, 1) := by decide +kernel
theorem dX12_summer_262 : decode cX12_summer 262 = .ok (.invokevirtual 373, 3) := by decide +kernel
theorem dX12_summer_265 : decode cX12_summer 265 = .ok (.iinc 2 1, 3) := by decide +kernel
theorem dX12_summer_268 : decode cX12_summer 268 = .ok (.goto (-257), 3) := by decide +kernel
theorem dX12_summer_271 : decode cX12_summer 271 = .ok (.aload_n 0, 1) := by decide +kernel
theorem dX12_summer_272 : decode cX12_summer 272 = .ok (.invokevirtual 407, 3) := by decide +kernel
theorem dX12_summer_275 : decode cX12_summer 275 = .ok (.return_, 1) := by decide +kernel
noncomputable def E_X12_summer : mE := (mX12_summer, [(36, [(0, (.aload_n 0, 1, false, false, 0, 0, 0, 0, 0, 0, [])), (1, (.aload_n 0, 2, false, false, 0, 0, 0, 0, 0, 0, [])), (2, (.invokevirtual 97, 5, false, false, 152, 0, 1, 15, 0, 0, [])), (5, (.invokevirtual 86, 8, false, false, 43, 1, 1, 15, 0, 0, [])), (8, (.istore_n 1, 9, false, false, 1, 0, 0, 0, 0, 0, [])), (9, (.iconst 0, 10, false, false, 0, 0, 0, 0, 0, 0, [])), (10, (.istore_n 2, 11, true, false, 2, 0, 0, 0, 0, 0, [])), (11, (.iload_n 2, 12, false, false, 2, 0, 0, 0, 0, 0, [])), (12, (.bipush 48, 14, false, false, 0, 0, 0, 0, 48, 0, [])), (14, (.if_icmp .ge 257, 17, false, false, 271, 0, 0, 0, 0, 0, [])), (17, (.aload_n 0, 18, false, false, 0, 0, 0, 0, 0, 0, [])), (18, (.iload_n 2, 19, false, false, 2, 0, 0, 0, 0, 0, [])), (19, (.iconst 3, 20, false, false, 0, 0, 0, 0, 3, 0, [])), (20, (.invokevirtual 79, 23, false, false, 31, 2, 1, 15, 0, 0, [])), (23, (.istore_n 3, 24, false, false, 3, 0, 0, 0, 0, 0, [])), (24, (.aload_n 0, 25, false, false, 0, 0, 0, 0, 0, 0, [])), (25, (.iload_n 2, 26, false, false, 2, 0, 0, 0, 0, 0, [])), (26, (.iload_n 3, 27, false, false, 3, 0, 0, 0, 0, 0, [])), (27, (.iload_n 1, 28, false, false, 1, 0, 0, 0, 0, 0, [])), (28, (.invokevirtual 404, 31, false, false, 233, 3, 1, 15, 0, 0, [])), (31, (.istore 4, 33, false, false, 4, 0, 0, 0, 0, 0, [])), (33, (.iload 4, 35, false, false, 4, 0, 0, 0, 0, 0, [])), (35, (.aload_n 0, 36, false, false, 0, 0, 0, 0, 0, 0, [])), (36, (.iload_n 2, 37, false, false, 2, 0, 0, 0, 0, 0, []))]),
  (79, [(37, (.bipush 6, 39, false, false, 0, 0, 0, 0, 6, 0, [])), (39, (.invokevirtual 79, 42, false, false, 31, 2, 1, 15, 0, 0, [])), (42, (.iconst 4, 43, false, false, 0, 0, 0, 0, 4, 0, [])), (43, (.idiv, 44, false, false, 0, 0, 0, 0, 0, 0, [])), (44, (.invokestatic 358, 47, false, false, 0, 2, 1, 6, 0, 0, [])), (47, (.istore 5, 49, false, false, 5, 0, 0, 0, 0, 0, [])), (49, (.aload_n 0, 50, false, false, 0, 0, 0, 0, 0, 0, [])), (50, (.getfield 27, 53, false, false, 15, 1, 1, 0, 0, 0, [])), (53, (.iload_n 2, 54, false, false, 2, 0, 0, 0, 0, 0, [])), (54, (.bipush 9, 56, false, false, 0, 0, 0, 0, 9, 0, [])), (56, (.invokestatic 59, 59, false, false, 12, 2, 1, 0, 0, 0, [])), (59, (.iload 4, 61, false, false, 4, 0, 0, 0, 0, 0, [])), (61, (.iload 5, 63, false, false, 5, 0, 0, 0, 0, 0, [])), (63, (.isub, 64, false, false, 0, 0, 0, 0, 0, 0, [])), (64, (.iastore, 65, false, false, 0, 0, 0, 0, 0, 0, [])), (65, (.aload_n 0, 66, false, false, 0, 0, 0, 0, 0, 0, [])), (66, (.getfield 27, 69, false, false, 15, 1, 1, 0, 0, 0, [])), (69, (.iload_n 2, 70, false, false, 2, 0, 0, 0, 0, 0, [])), (70, (.bipush 12, 72, false, false, 0, 0, 0, 0, 12, 0, [])), (72, (.invokestatic 59, 75, false, false, 12, 2, 1, 0, 0, 0, [])), (75, (.iload 5, 77, false, false, 5, 0, 0, 0, 0, 0, [])), (77, (.iastore, 78, false, false, 0, 0, 0, 0, 0, 0, [])), (78, (.aload_n 0, 79, false, false, 0, 0, 0, 0, 0, 0, [])), (79, (.getfield 27, 82, false, false, 15, 1, 1, 0, 0, 0, []))]),
  (124, [(82, (.iload_n 2, 83, false, false, 2, 0, 0, 0, 0, 0, [])), (83, (.bipush 13, 85, false, false, 0, 0, 0, 0, 13, 0, [])), (85, (.invokestatic 59, 88, false, false, 12, 2, 1, 0, 0, 0, [])), (88, (.iload_n 3, 89, false, false, 3, 0, 0, 0, 0, 0, [])), (89, (.iastore, 90, false, false, 0, 0, 0, 0, 0, 0, [])), (90, (.iload_n 3, 91, false, false, 3, 0, 0, 0, 0, 0, [])), (91, (.ifCond .ne 6, 94, false, false, 97, 0, 0, 0, 0, 0, [])), (94, (.goto 171, 97, false, false, 265, 0, 0, 0, 0, 0, [])), (97, (.iload_n 3, 98, false, false, 3, 0, 0, 0, 0, 0, [])), (98, (.iconst 1, 99, false, false, 0, 0, 0, 0, 1, 0, [])), (99, (.if_icmp .ne 7, 102, false, false, 106, 0, 0, 0, 0, 0, [])), (102, (.iconst 2, 103, false, false, 0, 0, 0, 0, 2, 0, [])), (103, (.goto 33, 106, false, true, 136, 0, 0, 0, 0, 0, [])), (106, (.iload_n 3, 107, false, false, 3, 0, 0, 0, 0, 0, [])), (107, (.iconst 2, 108, false, false, 0, 0, 0, 0, 2, 0, [])), (108, (.if_icmp .ne 7, 111, false, false, 115, 0, 0, 0, 0, 0, [])), (111, (.iconst 1, 112, false, false, 0, 0, 0, 0, 1, 0, [])), (112, (.goto 24, 115, false, true, 136, 0, 0, 0, 0, 0, [])), (115, (.iload_n 3, 116, false, false, 3, 0, 0, 0, 0, 0, [])), (116, (.iconst 3, 117, false, false, 0, 0, 0, 0, 3, 0, [])), (117, (.if_icmp .ne 7, 120, false, false, 124, 0, 0, 0, 0, 0, [])), (120, (.iconst (-1), 121, false, false, 0, 0, 0, 0, -1, 0, [])), (121, (.goto 15, 124, false, true, 136, 0, 0, 0, 0, 0, [])), (124, (.iload_n 3, 125, false, false, 3, 0, 0, 0, 0, 0, []))]),
  (167, [(125, (.iconst 4, 126, false, false, 0, 0, 0, 0, 4, 0, [])), (126, (.if_icmp .ne 8, 129, false, false, 134, 0, 0, 0, 0, 0, [])), (129, (.bipush (-2), 131, false, false, 0, 0, 0, 0, -2, 0, [])), (131, (.goto 5, 134, false, true, 136, 0, 0, 0, 0, 0, [])), (134, (.bipush (-3), 136, true, false, 0, 0, 0, 0, -3, 0, [])), (136, (.istore 6, 138, false, false, 6, 0, 0, 0, 0, 0, [])), (138, (.aload_n 0, 139, false, false, 0, 0, 0, 0, 0, 0, [])), (139, (.getfield 27, 142, false, false, 15, 1, 1, 0, 0, 0, [])), (142, (.iload_n 2, 143, false, false, 2, 0, 0, 0, 0, 0, [])), (143, (.iconst 2, 144, false, false, 0, 0, 0, 0, 2, 0, [])), (144, (.invokestatic 59, 147, false, false, 12, 2, 1, 0, 0, 0, [])), (147, (.iconst 0, 148, false, false, 0, 0, 0, 0, 0, 0, [])), (148, (.bipush 20, 150, false, false, 0, 0, 0, 0, 20, 0, [])), (150, (.aload_n 0, 151, false, false, 0, 0, 0, 0, 0, 0, [])), (151, (.iload_n 2, 152, false, false, 2, 0, 0, 0, 0, 0, [])), (152, (.iconst 2, 153, false, false, 0, 0, 0, 0, 2, 0, [])), (153, (.invokevirtual 79, 156, false, false, 31, 2, 1, 15, 0, 0, [])), (156, (.iload 6, 158, false, false, 6, 0, 0, 0, 0, 0, [])), (158, (.iadd, 159, false, false, 0, 0, 0, 0, 0, 0, [])), (159, (.invokestatic 358, 162, false, false, 0, 2, 1, 6, 0, 0, [])), (162, (.invokestatic 100, 165, false, false, 0, 2, 1, 5, 0, 0, [])), (165, (.iastore, 166, false, false, 0, 0, 0, 0, 0, 0, [])), (166, (.aload_n 0, 167, false, false, 0, 0, 0, 0, 0, 0, [])), (167, (.iload_n 2, 168, false, false, 2, 0, 0, 0, 0, 0, []))]),
  (207, [(168, (.bipush 10, 170, false, false, 0, 0, 0, 0, 10, 0, [])), (170, (.invokevirtual 79, 173, false, false, 31, 2, 1, 15, 0, 0, [])), (173, (.istore 7, 175, false, false, 7, 0, 0, 0, 0, 0, [])), (175, (.iload 4, 177, false, false, 4, 0, 0, 0, 0, 0, [])), (177, (.iload 5, 179, false, false, 5, 0, 0, 0, 0, 0, [])), (179, (.isub, 180, false, false, 0, 0, 0, 0, 0, 0, [])), (180, (.aload_n 0, 181, false, false, 0, 0, 0, 0, 0, 0, [])), (181, (.iload_n 3, 182, false, false, 3, 0, 0, 0, 0, 0, [])), (182, (.invokevirtual 290, 185, false, false, 232, 1, 1, 15, 0, 0, [])), (185, (.imul, 186, false, false, 0, 0, 0, 0, 0, 0, [])), (186, (.istore 8, 188, false, false, 8, 0, 0, 0, 0, 0, [])), (188, (.aload_n 0, 189, false, false, 0, 0, 0, 0, 0, 0, [])), (189, (.getfield 27, 192, false, false, 15, 1, 1, 0, 0, 0, [])), (192, (.iconst 3, 193, false, false, 0, 0, 0, 0, 3, 0, [])), (193, (.aload_n 0, 194, false, false, 0, 0, 0, 0, 0, 0, [])), (194, (.getfield 27, 197, false, false, 15, 1, 1, 0, 0, 0, [])), (197, (.iconst 3, 198, false, false, 0, 0, 0, 0, 3, 0, [])), (198, (.iaload, 199, false, false, 0, 0, 0, 0, 0, 0, [])), (199, (.i2l, 200, false, false, 0, 0, 0, 0, 0, 0, [])), (200, (.iload 8, 202, false, false, 8, 0, 0, 0, 0, 0, [])), (202, (.i2l, 203, false, false, 0, 0, 0, 0, 0, 0, [])), (203, (.ladd, 204, false, false, 0, 0, 0, 0, 0, 0, [])), (204, (.invokestatic 345, 207, false, false, 150, 1, 1, 0, 0, 0, [])), (207, (.iastore, 208, false, false, 0, 0, 0, 0, 0, 0, []))]),
  (249, [(208, (.aload_n 0, 209, false, false, 0, 0, 0, 0, 0, 0, [])), (209, (.iload 7, 211, false, false, 7, 0, 0, 0, 0, 0, [])), (211, (.invokevirtual 389, 214, false, false, 178, 1, 1, 15, 0, 0, [])), (214, (.ifCond .eq 25, 217, false, false, 239, 0, 0, 0, 0, 0, [])), (217, (.aload_n 0, 218, false, false, 0, 0, 0, 0, 0, 0, [])), (218, (.iload 7, 220, false, false, 7, 0, 0, 0, 0, 0, [])), (220, (.iconst 1, 221, false, false, 0, 0, 0, 0, 1, 0, [])), (221, (.aload_n 0, 222, false, false, 0, 0, 0, 0, 0, 0, [])), (222, (.iload 7, 224, false, false, 7, 0, 0, 0, 0, 0, [])), (224, (.iconst 1, 225, false, false, 0, 0, 0, 0, 1, 0, [])), (225, (.invokevirtual 293, 228, false, false, 165, 2, 1, 15, 0, 0, [])), (228, (.i2l, 229, false, false, 0, 0, 0, 0, 0, 0, [])), (229, (.iload 8, 231, false, false, 8, 0, 0, 0, 0, 0, [])), (231, (.i2l, 232, false, false, 0, 0, 0, 0, 0, 0, [])), (232, (.ladd, 233, false, false, 0, 0, 0, 0, 0, 0, [])), (233, (.invokevirtual 373, 236, false, false, 151, 3, 0, 15, 0, 0, [])), (236, (.goto 29, 239, false, false, 265, 0, 0, 0, 0, 0, [])), (239, (.aload_n 0, 240, false, false, 0, 0, 0, 0, 0, 0, [])), (240, (.iload 8, 242, false, false, 8, 0, 0, 0, 0, 0, [])), (242, (.i2l, 243, false, false, 0, 0, 0, 0, 0, 0, [])), (243, (.invokevirtual 355, 246, false, false, 235, 1, 0, 15, 0, 0, [])), (246, (.aload_n 0, 247, false, false, 0, 0, 0, 0, 0, 0, [])), (247, (.iload 7, 249, false, false, 7, 0, 0, 0, 0, 0, [])), (249, (.iconst 5, 250, false, false, 0, 0, 0, 0, 5, 0, []))]),
  (275, [(250, (.aload_n 0, 251, false, false, 0, 0, 0, 0, 0, 0, [])), (251, (.iload 7, 253, false, false, 7, 0, 0, 0, 0, 0, [])), (253, (.iconst 5, 254, false, false, 0, 0, 0, 0, 5, 0, [])), (254, (.invokevirtual 293, 257, false, false, 165, 2, 1, 15, 0, 0, [])), (257, (.i2l, 258, false, false, 0, 0, 0, 0, 0, 0, [])), (258, (.iload 8, 260, false, false, 8, 0, 0, 0, 0, 0, [])), (260, (.i2l, 261, false, false, 0, 0, 0, 0, 0, 0, [])), (261, (.ladd, 262, false, false, 0, 0, 0, 0, 0, 0, [])), (262, (.invokevirtual 373, 265, false, false, 151, 3, 0, 15, 0, 0, [])), (265, (.iinc 2 1, 268, false, false, 2, 0, 0, 0, 1, 0, [])), (268, (.goto (-257), 271, false, true, 11, 0, 0, 0, 0, 0, [])), (271, (.aload_n 0, 272, false, false, 0, 0, 0, 0, 0, 0, [])), (272, (.invokevirtual 407, 275, false, false, 236, 0, 0, 15, 0, 0, [])), (275, (.return_, 276, false, false, 0, 0, 0, 0, 0, 0, []))])], 0, [])
set_option maxRecDepth 100000 in
theorem v_X12_summer : VE MYT dflT E_X12_summer := ⟨⟨⟨⟨⟨dX12_summer_0, rfl⟩, rfl⟩, ⟨⟨dX12_summer_1, rfl⟩, rfl⟩, ⟨⟨dX12_summer_2, rfl⟩, Or.inr ⟨by decide, ⟨_, my_152, sX12_97⟩, fun q => absurd q (by decide)⟩⟩, ⟨⟨dX12_summer_5, rfl⟩, Or.inr ⟨by decide, ⟨_, my_43, sX12_86⟩, fun q => absurd q (by decide)⟩⟩, ⟨⟨dX12_summer_8, rfl⟩, rfl⟩, ⟨⟨dX12_summer_9, rfl⟩, rfl⟩, ⟨⟨dX12_summer_10, rfl⟩, rfl⟩, ⟨⟨dX12_summer_11, rfl⟩, rfl⟩, ⟨⟨dX12_summer_12, rfl⟩, rfl⟩, ⟨⟨dX12_summer_14, rfl⟩, rfl⟩, ⟨⟨dX12_summer_17, rfl⟩, rfl⟩, ⟨⟨dX12_summer_18, rfl⟩, rfl⟩, ⟨⟨dX12_summer_19, rfl⟩, rfl⟩, ⟨⟨dX12_summer_20, rfl⟩, Or.inr ⟨by decide, ⟨_, my_31, sX12_79⟩, fun q => absurd q (by decide)⟩⟩, ⟨⟨dX12_summer_23, rfl⟩, rfl⟩, ⟨⟨dX12_summer_24, rfl⟩, rfl⟩, ⟨⟨dX12_summer_25, rfl⟩, rfl⟩, ⟨⟨dX12_summer_26, rfl⟩, rfl⟩, ⟨⟨dX12_summer_27, rfl⟩, rfl⟩, ⟨⟨dX12_summer_28, rfl⟩, Or.inr ⟨by decide, ⟨_, my_233, sX12_404⟩, fun q => absurd q (by decide)⟩⟩, ⟨⟨dX12_summer_31, rfl⟩, rfl⟩, ⟨⟨dX12_summer_33, rfl⟩, rfl⟩, ⟨⟨dX12_summer_35, rfl⟩, rfl⟩, ⟨⟨dX12_summer_36, rfl⟩, rfl⟩, trivial⟩,
  ⟨⟨⟨dX12_summer_37, rfl⟩, rfl⟩, ⟨⟨dX12_summer_39, rfl⟩, Or.inr ⟨by decide, ⟨_, my_31, sX12_79⟩, fun q => absurd q (by decide)⟩⟩, ⟨⟨dX12_summer_42, rfl⟩, rfl⟩, ⟨⟨dX12_summer_43, rfl⟩, trivial⟩, ⟨⟨dX12_summer_44, rfl⟩, Or.inr (Or.inr (Or.inr (Or.inr (Or.inr (Or.inl ⟨rfl, sX12_358⟩)))))⟩, ⟨⟨dX12_summer_47, rfl⟩, rfl⟩, ⟨⟨dX12_summer_49, rfl⟩, rfl⟩, ⟨⟨dX12_summer_50, rfl⟩, Or.inl ⟨by decide, _, _, fX12_27⟩⟩, ⟨⟨dX12_summer_53, rfl⟩, rfl⟩, ⟨⟨dX12_summer_54, rfl⟩, rfl⟩, ⟨⟨dX12_summer_56, rfl⟩, Or.inl ⟨rfl, _, my_12, sX12_59⟩⟩, ⟨⟨dX12_summer_59, rfl⟩, rfl⟩, ⟨⟨dX12_summer_61, rfl⟩, rfl⟩, ⟨⟨dX12_summer_63, rfl⟩, trivial⟩, ⟨⟨dX12_summer_64, rfl⟩, trivial⟩, ⟨⟨dX12_summer_65, rfl⟩, rfl⟩, ⟨⟨dX12_summer_66, rfl⟩, Or.inl ⟨by decide, _, _, fX12_27⟩⟩, ⟨⟨dX12_summer_69, rfl⟩, rfl⟩, ⟨⟨dX12_summer_70, rfl⟩, rfl⟩, ⟨⟨dX12_summer_72, rfl⟩, Or.inl ⟨rfl, _, my_12, sX12_59⟩⟩, ⟨⟨dX12_summer_75, rfl⟩, rfl⟩, ⟨⟨dX12_summer_77, rfl⟩, trivial⟩, ⟨⟨dX12_summer_78, rfl⟩, rfl⟩, ⟨⟨dX12_summer_79, rfl⟩, Or.inl ⟨by decide, _, _, fX12_27⟩⟩, trivial⟩,
  ⟨⟨⟨dX12_summer_82, rfl⟩, rfl⟩, ⟨⟨dX12_summer_83, rfl⟩, rfl⟩, ⟨⟨dX12_summer_85, rfl⟩, Or.inl ⟨rfl, _, my_12, sX12_59⟩⟩, ⟨⟨dX12_summer_88, rfl⟩, rfl⟩, ⟨⟨dX12_summer_89, rfl⟩, trivial⟩, ⟨⟨dX12_summer_90, rfl⟩, rfl⟩, ⟨⟨dX12_summer_91, rfl⟩, rfl⟩, ⟨⟨dX12_summer_94, rfl⟩, rfl⟩, ⟨⟨dX12_summer_97, rfl⟩, rfl⟩, ⟨⟨dX12_summer_98, rfl⟩, rfl⟩, ⟨⟨dX12_summer_99, rfl⟩, rfl⟩, ⟨⟨dX12_summer_102, rfl⟩, rfl⟩, ⟨⟨dX12_summer_103, rfl⟩, rfl⟩, ⟨⟨dX12_summer_106, rfl⟩, rfl⟩, ⟨⟨dX12_summer_107, rfl⟩, rfl⟩, ⟨⟨dX12_summer_108, rfl⟩, rfl⟩, ⟨⟨dX12_summer_111, rfl⟩, rfl⟩, ⟨⟨dX12_summer_112, rfl⟩, rfl⟩, ⟨⟨dX12_summer_115, rfl⟩, rfl⟩, ⟨⟨dX12_summer_116, rfl⟩, rfl⟩, ⟨⟨dX12_summer_117, rfl⟩, rfl⟩, ⟨⟨dX12_summer_120, rfl⟩, rfl⟩, ⟨⟨dX12_summer_121, rfl⟩, rfl⟩, ⟨⟨dX12_summer_124, rfl⟩, rfl⟩, trivial⟩,
  ⟨⟨⟨dX12_summer_125, rfl⟩, rfl⟩, ⟨⟨dX12_summer_126, rfl⟩, rfl⟩, ⟨⟨dX12_summer_129, rfl⟩, rfl⟩, ⟨⟨dX12_summer_131, rfl⟩, rfl⟩, ⟨⟨dX12_summer_134, rfl⟩, rfl⟩, ⟨⟨dX12_summer_136, rfl⟩, rfl⟩, ⟨⟨dX12_summer_138, rfl⟩, rfl⟩, ⟨⟨dX12_summer_139, rfl⟩, Or.inl ⟨by decide, _, _, fX12_27⟩⟩, ⟨⟨dX12_summer_142, rfl⟩, rfl⟩, ⟨⟨dX12_summer_143, rfl⟩, rfl⟩, ⟨⟨dX12_summer_144, rfl⟩, Or.inl ⟨rfl, _, my_12, sX12_59⟩⟩, ⟨⟨dX12_summer_147, rfl⟩, rfl⟩, ⟨⟨dX12_summer_148, rfl⟩, rfl⟩, ⟨⟨dX12_summer_150, rfl⟩, rfl⟩, ⟨⟨dX12_summer_151, rfl⟩, rfl⟩, ⟨⟨dX12_summer_152, rfl⟩, rfl⟩, ⟨⟨dX12_summer_153, rfl⟩, Or.inr ⟨by decide, ⟨_, my_31, sX12_79⟩, fun q => absurd q (by decide)⟩⟩, ⟨⟨dX12_summer_156, rfl⟩, rfl⟩, ⟨⟨dX12_summer_158, rfl⟩, trivial⟩, ⟨⟨dX12_summer_159, rfl⟩, Or.inr (Or.inr (Or.inr (Or.inr (Or.inr (Or.inl ⟨rfl, sX12_358⟩)))))⟩, ⟨⟨dX12_summer_162, rfl⟩, Or.inr (Or.inr (Or.inr (Or.inr (Or.inl ⟨rfl, sX12_100⟩))))⟩, ⟨⟨dX12_summer_165, rfl⟩, trivial⟩, ⟨⟨dX12_summer_166, rfl⟩, rfl⟩, ⟨⟨dX12_summer_167, rfl⟩, rfl⟩, trivial⟩,
  ⟨⟨⟨dX12_summer_168, rfl⟩, rfl⟩, ⟨⟨dX12_summer_170, rfl⟩, Or.inr ⟨by decide, ⟨_, my_31, sX12_79⟩, fun q => absurd q (by decide)⟩⟩, ⟨⟨dX12_summer_173, rfl⟩, rfl⟩, ⟨⟨dX12_summer_175, rfl⟩, rfl⟩, ⟨⟨dX12_summer_177, rfl⟩, rfl⟩, ⟨⟨dX12_summer_179, rfl⟩, trivial⟩, ⟨⟨dX12_summer_180, rfl⟩, rfl⟩, ⟨⟨dX12_summer_181, rfl⟩, rfl⟩, ⟨⟨dX12_summer_182, rfl⟩, Or.inr ⟨by decide, ⟨_, my_232, sX12_290⟩, fun q => absurd q (by decide)⟩⟩, ⟨⟨dX12_summer_185, rfl⟩, trivial⟩, ⟨⟨dX12_summer_186, rfl⟩, rfl⟩, ⟨⟨dX12_summer_188, rfl⟩, rfl⟩, ⟨⟨dX12_summer_189, rfl⟩, Or.inl ⟨by decide, _, _, fX12_27⟩⟩, ⟨⟨dX12_summer_192, rfl⟩, rfl⟩, ⟨⟨dX12_summer_193, rfl⟩, rfl⟩, ⟨⟨dX12_summer_194, rfl⟩, Or.inl ⟨by decide, _, _, fX12_27⟩⟩, ⟨⟨dX12_summer_197, rfl⟩, rfl⟩, ⟨⟨dX12_summer_198, rfl⟩, trivial⟩, ⟨⟨dX12_summer_199, rfl⟩, trivial⟩, ⟨⟨dX12_summer_200, rfl⟩, rfl⟩, ⟨⟨dX12_summer_202, rfl⟩, trivial⟩, ⟨⟨dX12_summer_203, rfl⟩, trivial⟩, ⟨⟨dX12_summer_204, rfl⟩, Or.inl ⟨rfl, _, my_150, sX12_345⟩⟩, ⟨⟨dX12_summer_207, rfl⟩, trivial⟩, trivial⟩,
  ⟨⟨⟨dX12_summer_208, rfl⟩, rfl⟩, ⟨⟨dX12_summer_209, rfl⟩, rfl⟩, ⟨⟨dX12_summer_211, rfl⟩, Or.inr ⟨by decide, ⟨_, my_178, sX12_389⟩, fun q => absurd q (by decide)⟩⟩, ⟨⟨dX12_summer_214, rfl⟩, rfl⟩, ⟨⟨dX12_summer_217, rfl⟩, rfl⟩, ⟨⟨dX12_summer_218, rfl⟩, rfl⟩, ⟨⟨dX12_summer_220, rfl⟩, rfl⟩, ⟨⟨dX12_summer_221, rfl⟩, rfl⟩, ⟨⟨dX12_summer_222, rfl⟩, rfl⟩, ⟨⟨dX12_summer_224, rfl⟩, rfl⟩, ⟨⟨dX12_summer_225, rfl⟩, Or.inr ⟨by decide, ⟨_, my_165, sX12_293⟩, fun q => absurd q (by decide)⟩⟩, ⟨⟨dX12_summer_228, rfl⟩, trivial⟩, ⟨⟨dX12_summer_229, rfl⟩, rfl⟩, ⟨⟨dX12_summer_231, rfl⟩, trivial⟩, ⟨⟨dX12_summer_232, rfl⟩, trivial⟩, ⟨⟨dX12_summer_233, rfl⟩, Or.inr ⟨by decide, ⟨_, my_151, sX12_373⟩, fun q => absurd q (by decide)⟩⟩, ⟨⟨dX12_summer_236, rfl⟩, rfl⟩, ⟨⟨dX12_summer_239, rfl⟩, rfl⟩, ⟨⟨dX12_summer_240, rfl⟩, rfl⟩, ⟨⟨dX12_summer_242, rfl⟩, trivial⟩, ⟨⟨dX12_summer_243, rfl⟩, Or.inr ⟨by decide, ⟨_, my_235, sX12_355⟩, fun q => absurd q (by decide)⟩⟩, ⟨⟨dX12_summer_246, rfl⟩, rfl⟩, ⟨⟨dX12_summer_247, rfl⟩, rfl⟩, ⟨⟨dX12_summer_249, rfl⟩, rfl⟩, trivial⟩,
  ⟨⟨⟨dX12_summer_250, rfl⟩, rfl⟩, ⟨⟨dX12_summer_251, rfl⟩, rfl⟩, ⟨⟨dX12_summer_253, rfl⟩, rfl⟩, ⟨⟨dX12_summer_254, rfl⟩, Or.inr ⟨by decide, ⟨_, my_165, sX12_293⟩, fun q => absurd q (by decide)⟩⟩, ⟨⟨dX12_summer_257, rfl⟩, trivial⟩, ⟨⟨dX12_summer_258, rfl⟩, rfl⟩, ⟨⟨dX12_summer_260, rfl⟩, trivial⟩, ⟨⟨dX12_summer_261, rfl⟩, trivial⟩, ⟨⟨dX12_summer_262, rfl⟩, Or.inr ⟨by decide, ⟨_, my_151, sX12_373⟩, fun q => absurd q (by decide)⟩⟩, ⟨⟨dX12_summer_265, rfl⟩, ⟨rfl, rfl⟩⟩, ⟨⟨dX12_summer_268, rfl⟩, rfl⟩, ⟨⟨dX12_summer_271, rfl⟩, rfl⟩, ⟨⟨dX12_summer_272, rfl⟩, Or.inr ⟨by decide, ⟨_, my_236, sX12_407⟩, fun q => absurd q (by decide)⟩⟩, ⟨⟨dX12_summer_275, rfl⟩, rfl⟩, trivial⟩, trivial⟩, by decide, Or.inl ⟨rfl, by decide, rfl⟩⟩
set_option maxRecDepth 100000 in
theorem g_X12_summer_0 (S : sT) (call : cT) (n : Nat) (a0 : Nat) (h : pH) : bd S call dflT E_X12_summer (n + 1) 0 [some (.ref a0), none, none, none, none, none, none, none, none] [] h = (rC h (.ref a0) 15 (cI (call 152 [.ref a0] h) (fun y2 h1 => rC h1 (.ref a0) 15 (cI (call 43 [.ref a0, .int y2] h1) (fun y4 h3 => bd S call dflT E_X12_summer n 11 [some (.ref a0), some (.int y4), some (.int 0), none, none, none, none, none, none] [] h3))))) := rfl
set_option maxRecDepth 100000 in
theorem g_X12_summer_11 (S : sT) (call : cT) (n : Nat) (a0 : Nat) (x1 : Int32) (x2 : Int32) (o3 : Option Value) (o4 : Option Value) (o5 : Option Value) (o6 : Option Value) (o7 : Option Value) (o8 : Option Value) (h : pH) : bd S call dflT E_X12_summer (n + 1) 11 [some (.ref a0), some (.int x1), some (.int x2), o3, o4, o5, o6, o7, o8] [] h = ((if 48 ≤ x2 then rC h (.ref a0) 15 (cU (call 236 [.ref a0] h) (fun h1 => some (.inl none, h1))) else rC h (.ref a0) 15 (cI (call 31 [.ref a0, .int x2, .int 3] h) (fun y3 h2 => rC h2 (.ref a0) 15 (cI (call 233 [.ref a0, .int x2, .int y3, .int x1] h2) (fun y5 h4 => rC h4 (.ref a0) 15 (cI (call 31 [.ref a0, .int x2, .int 6] h4) (fun y7 h6 => dv 4 (gV h6 (.ref a0) 15 1 (fun w8 => cI (call 12 [.int x2, .int 9] h6) (fun y10 h9 => sI h9 w8 0 y10 (y5 - (if (y7 / 4) < y5 then (y7 / 4) else y5)) (fun h11 => gV h11 (.ref a0) 15 1 (fun w12 => cI (call 12 [.int x2, .int 12] h11) (fun y14 h13 => sI h13 w12 0 y14 (if (y7 / 4) < y5 then (y7 / 4) else y5) (fun h15 => gV h15 (.ref a0) 15 1 (fun w16 => cI (call 12 [.int x2, .int 13] h15) (fun y18 h17 => sI h17 w16 0 y18 y3 (fun h19 => (if y3 = 0 then bd S call dflT E_X12_summer n 11 [some (.ref a0), some (.int x1), some (.int (x2 + 1)), some (.int y3), some (.int y5), some (.int (if (y7 / 4) < y5 then (y7 / 4) else y5)), o6, o7, o8] [] h19 else (if y3 = 1 then bd S call dflT E_X12_summer n 136 [some (.ref a0), some (.int x1), some (.int x2), some (.int y3), some (.int y5), some (.int (if (y7 / 4) < y5 then (y7 / 4) else y5)), o6, o7, o8] [.int 2] h19 else (if y3 = 2 then bd S call dflT E_X12_summer n 136 [some (.ref a0), some (.int x1), some (.int x2), some (.int y3), some (.int y5), some (.int (if (y7 / 4) < y5 then (y7 / 4) else y5)), o6, o7, o8] [.int 1] h19 else (if y3 = 3 then bd S call dflT E_X12_summer n 136 [some (.ref a0), some (.int x1), some (.int x2), some (.int y3), some (.int y5), some (.int (if (y7 / 4) < y5 then (y7 / 4) else y5)), o6, o7, o8] [.int (-1)] h19 else (if y3 = 4 then bd S call dflT E_X12_summer n 136 [some (.ref a0), some (.int x1), some (.int x2), some (.int y3), some (.int y5), some (.int (if (y7 / 4) < y5 then (y7 / 4) else y5)), o6, o7, o8] [.int (-2)] h19 else bd S call dflT E_X12_summer n 136 [some (.ref a0), some (.int x1), some (.int x2), some (.int y3), some (.int y5), some (.int (if (y7 / 4) < y5 then (y7 / 4) else y5)), o6, o7, o8] [.int (-3)] h19))))))))))))))))))))))) := rfl
set_option maxRecDepth 100000 in
theorem g_X12_summer_136 (S : sT) (call : cT) (n : Nat) (a0 : Nat) (x1 : Int32) (x2 : Int32) (x3 : Int32) (x4 : Int32) (x5 : Int32) (o6 : Option Value) (o7 : Option Value) (o8 : Option Value) (y0 : Int32) (h : pH) : bd S call dflT E_X12_summer (n + 1) 136 [some (.ref a0), some (.int x1), some (.int x2), some (.int x3), some (.int x4), some (.int x5), o6, o7, o8] [.int y0] h = (gV h (.ref a0) 15 1 (fun w1 => cI (call 12 [.int x2, .int 2] h) (fun y3 h2 => rC h2 (.ref a0) 15 (cI (call 31 [.ref a0, .int x2, .int 2] h2) (fun y5 h4 => sI h4 w1 0 y3 (if (0 : Int32) < (if (y5 + y0) < (20 : Int32) then (y5 + y0) else (20 : Int32)) then (if (y5 + y0) < (20 : Int32) then (y5 + y0) else (20 : Int32)) else (0 : Int32)) (fun h6 => rC h6 (.ref a0) 15 (cI (call 31 [.ref a0, .int x2, .int 10] h6) (fun y8 h7 => rC h7 (.ref a0) 15 (cI (call 232 [.ref a0, .int x3] h7) (fun y10 h9 => gV h9 (.ref a0) 15 1 (fun w11 => gV h9 (.ref a0) 15 1 (fun w12 => aI h9 w12 0 3 (fun y13 => cI (call 150 [.long (y13.toInt64 + ((x4 - x5) * y10).toInt64)] h9) (fun y15 h14 => sI h14 w11 0 3 y15 (fun h16 => rC h16 (.ref a0) 15 (cI (call 178 [.ref a0, .int y8] h16) (fun y18 h17 => (if y18 = 0 then rC h17 (.ref a0) 15 (cU (call 235 [.ref a0, .long ((x4 - x5) * y10).toInt64] h17) (fun h19 => rC h19 (.ref a0) 15 (cI (call 165 [.ref a0, .int y8, .int 5] h19) (fun y21 h20 => rC h20 (.ref a0) 15 (cU (call 151 [.ref a0, .int y8, .int 5, .long (y21.toInt64 + ((x4 - x5) * y10).toInt64)] h20) (fun h22 => bd S call dflT E_X12_summer n 11 [some (.ref a0), some (.int x1), some (.int (x2 + 1)), some (.int x3), some (.int x4), some (.int x5), some (.int y0), some (.int y8), some (.int ((x4 - x5) * y10))] [] h22)))))) else rC h17 (.ref a0) 15 (cI (call 165 [.ref a0, .int y8, .int 1] h17) (fun y24 h23 => rC h23 (.ref a0) 15 (cU (call 151 [.ref a0, .int y8, .int 1, .long (y24.toInt64 + ((x4 - x5) * y10).toInt64)] h23) (fun h25 => bd S call dflT E_X12_summer n 11 [some (.ref a0), some (.int x1), some (.int (x2 + 1)), some (.int x3), some (.int x4), some (.int x5), some (.int y0), some (.int y8), some (.int ((x4 - x5) * y10))] [] h25)))))))))))))))))))))) := rfl
theorem dX12_looks_0 : decode cX12_looks 0 = .ok (.aload_n 0, 1) := by decide +kernel
theorem dX12_looks_1 : decode cX12_looks 1 = .ok (.getfield 49, 3) := by decide +kernel
theorem dX12_looks_4 : decode cX12_looks 4 = .ok (.iconst 0, 1) := by decide +kernel
theorem dX12_looks_5 : decode cX12_looks 5 = .ok (.aload_n 0, 1) := by decide +kernel
theorem dX12_looks_6 : decode cX12_looks 6 = .ok (.invokevirtual 97, 3) := by decide +kernel
theorem dX12_looks_9 : decode cX12_looks 9 = .ok (.i2l, 1) := by decide +kernel
theorem dX12_looks_10 : decode cX12_looks 10 = .ok (.lastore, 1) := by decide +kernel
theorem dX12_looks_11 : decode cX12_looks 11 = .ok (.iconst 1, 1) := by decide +kernel
theorem dX12_looks_12 : decode cX12_looks 12 = .ok (.istore_n 3, 1) := by decide +kernel
theorem dX12_looks_13 : decode cX12_looks 13 = .ok (.iload_n 3, 1) := by decide +kernel
theorem dX12_looks_14 : decode cX12_looks 14 = .ok (.iconst 5, 1) := by decide +kernel
theorem dX12_looks_15 : decode cX12_looks 15 = .ok (.if_icmp .ge 21, 3) := by decide +kernel
theorem dX12_looks_18 : decode cX12_looks 18 = .ok (.aload_n 0, 1) := by decide +kernel
theorem dX12_looks_19 : decode cX12_looks 19 = .ok (.getfield 49, 3) := by decide +kernel
theorem dX12_looks_22 : decode cX12_looks 22 = .ok (.iload_n 3, 1) := by decide +kernel
theorem dX12_looks_23 : decode cX12_looks 23 = .ok (.aload_n 0, 1) := by decide +kernel
theorem dX12_looks_24 : decode cX12_looks 24 = .ok (.iload_n 3, 1) := by decide +kernel
theorem dX12_looks_25 : decode cX12_looks 25 = .ok (.invokevirtual 290, 3) := by decide +kernel
theorem dX12_looks_28 : decode cX12_looks 28 = .ok (.i2l, 1) := by decide +kernel
theorem dX12_looks_29 : decode cX12_looks 29 = .ok (.lastore, 1) := by decide +kernel
theorem dX12_looks_30 : decode cX12_looks 30 = .ok (.iinc 3 1, 3) := by decide +kernel
theorem dX12_looks_33 : decode cX12_looks 33 = .ok (.goto (-20), 3) := by decide +kernel
theorem dX12_looks_36 : decode cX12_looks 36 = .ok (.aload_n 0, 1) := by decide +kernel
theorem dX12_looks_37 : decode cX12_looks 37 = .ok (.getfield 49, 3) := by decide +kernel
theorem dX12_looks_40 : decode cX12_looks 40 = .ok (.iconst 5, 1) := by decide +kernel
theorem dX12_looks_41 : decode cX12_looks 41 = .ok (.iload_n 1, 1) := by decide +kernel
theorem dX12_looks_42 : decode cX12_looks 42 = .ok (.ifCond .ge 7, 3) := by decide +kernel
theorem dX12_looks_45 : decode cX12_looks 45 = .ok (.lconst 0, 1) := by decide +kernel
theorem dX12_looks_46 : decode cX12_looks 46 = .ok (.goto 11, 3) := by decide +kernel
theorem dX12_looks_49 : decode cX12_looks 49 = .ok (.aload_n 0, 1) := by decide +kernel
theorem dX12_looks_50 : decode cX12_looks 50 = .ok (.iload_n 1, 1) := by decide +kernel
theorem dX12_looks_51 : decode cX12_looks 51 = .ok (.bipush 7, 2) := by decide +kernel
theorem dX12_looks_53 : decode cX12_looks 53 = .ok (.invokevirtual 79, 3) := by decide +kernel
theorem dX12_looks_56 : decode cX12_looks 56 = .ok (.i2l, 1) := by decide +kernel
theorem dX12_looks_57 : decode cX12_looks 57 = .ok (.lastore, 1) := by decide +kernel
theorem dX12_looks_58 : decode cX12_looks 58 = .ok (.aload_n 0, 1) := by decide +kernel
theorem dX12_looks_59 : decode cX12_looks 59 = .ok (.getfield 49, 3) := by decide +kernel
theorem dX12_looks_62 : decode cX12_looks 62 = .ok (.bipush 6, 2) := by decide +kernel
theorem dX12_looks_64 : decode cX12_looks 64 = .ok (.iload_n 1, 1) := by decide +kernel
theorem dX12_looks_65 : decode cX12_looks 65 = .ok (.ifCond .ge 7, 3) := by decide +kernel
theorem dX12_looks_68 : decode cX12_looks 68 = .ok (.lconst 0, 1) := by decide +kernel
theorem dX12_looks_69 : decode cX12_looks 69 = .ok (.goto 10, 3) := by decide +kernel
theorem dX12_looks_72 : decode cX12_looks 72 = .ok (.aload_n 0, 1) := by decide +kernel
theorem dX12_looks_73 : decode cX12_looks 73 = .ok (.iload_n 1, 1) := by decide +kernel
theorem dX12_looks_74 : decode cX12_looks 74 = .ok (.iconst 2, 1) := by decide +kernel
theorem dX12_looks_75 : decode cX12_looks 75 = .ok (.invokevirtual 79, 3) := by decide +kernel
theorem dX12_looks_78 : decode cX12_looks 78 = .ok (.i2l, 1) := by decide +kernel
theorem dX12_looks_79 : decode cX12_looks 79 = .ok (.lastore, 1) := by decide +kernel
theorem dX12_looks_80 : decode cX12_looks 80 = .ok (.aload_n 0, 1) := by decide +kernel
theorem dX12_looks_81 : decode cX12_looks 81 = .ok (.getfield 49, 3) := by decide +kernel
theorem dX12_looks_84 : decode cX12_looks 84 = .ok (.bipush 7, 2) := by decide +kernel
theorem dX12_looks_86 : decode cX12_looks 86 = .ok (.iload_n 1, 1) := by decide +kernel
theorem dX12_looks_87 : decode cX12_looks 87 = .ok (.ifCond .ge 7, 3) := by decide +kernel
theorem dX12_looks_90 : decode cX12_looks 90 = .ok (.lconst 0, 1) := by decide +kernel
theorem dX12_looks_91 : decode cX12_looks 91 = .ok (.goto 10, 3) := by decide +kernel
theorem dX12_looks_94 : decode cX12_looks 94 = .ok (.aload_n 0, 1) := by decide +kernel
theorem dX12_looks_95 : decode cX12_looks 95 = .ok (.iload_n 1, 1) := by decide +kernel
theorem dX12_looks_96 : decode cX12_looks 96 = .ok (.iconst 1, 1) := by decide +kernel
theorem dX12_looks_97 : decode cX12_looks 97 = .ok (.invokevirtual 79, 3) := by decide +kernel
theorem dX12_looks_100 : decode cX12_looks 100 = .ok (.i2l, 1) := by decide +kernel
theorem dX12_looks_101 : decode cX12_looks 101 = .ok (.lastore, 1) := by decide +kernel
theorem dX12_looks_102 : decode cX12_looks 102 = .ok (.aload_n 0, 1) := by decide +kernel
theorem dX12_looks_103 : decode cX12_looks 103 = .ok (.getfield 49, 3) := by decide +kernel
theorem dX12_looks_106 : decode cX12_looks 106 = .ok (.bipush 8, 2) := by decide +kernel
theorem dX12_looks_108 : decode cX12_looks 108 = .ok (.iload_n 1, 1) := by decide +kernel
theorem dX12_looks_109 : decode cX12_looks 109 = .ok (.ifCond .ge 7, 3) := by decide +kernel
theorem dX12_looks_112 : decode cX12_looks 112 = .ok (.lconst 0, 1) := by decide +kernel
theorem dX12_looks_113 : decode cX12_looks 113 = .ok (.goto 10, 3) := by decide +kernel
theorem dX12_looks_116 : decode cX12_looks 116 = .ok (.aload_n 0, 1) := by decide +kernel
theorem dX12_looks_117 : decode cX12_looks 117 = .ok (.iload_n 1, 1) := by decide +kernel
theorem dX12_looks_118 : decode cX12_looks 118 = .ok (.iconst 0, 1) := by decide +kernel
theorem dX12_looks_119 : decode cX12_looks 119 = .ok (.invokevirtual 79, 3) := by decide +kernel
theorem dX12_looks_122 : decode cX12_looks 122 = .ok (.i2l, 1) := by decide +kernel
theorem dX12_looks_123 : decode cX12_looks 123 = .ok (.lastore, 1) := by decide +kernel
theorem dX12_looks_124 : decode cX12_looks 124 = .ok (.aload_n 0, 1) := by decide +kernel
theorem dX12_looks_125 : decode cX12_looks 125 = .ok (.getfield 49, 3) := by decide +kernel
theorem dX12_looks_128 : decode cX12_looks 128 = .ok (.bipush 9, 2) := by decide +kernel
theorem dX12_looks_130 : decode cX12_looks 130 = .ok (.iload_n 2, 1) := by decide +kernel
theorem dX12_looks_131 : decode cX12_looks 131 = .ok (.ifCond .ge 13, 3) := by decide +kernel
theorem dX12_looks_134 : decode cX12_looks 134 = .ok (.aload_n 0, 1) := by decide +kernel
theorem dX12_looks_135 : decode cX12_looks 135 = .ok (.getfield 27, 3) := by decide +kernel
theorem dX12_looks_138 : decode cX12_looks 138 = .ok (.iconst 1, 1) := by decide +kernel
theorem dX12_looks_139 : decode cX12_looks 139 = .ok (.iaload, 1) := by decide +kernel
theorem dX12_looks_140 : decode cX12_looks 140 = .ok (.i2l, 1) := by decide +kernel
theorem dX12_looks_141 : decode cX12_looks 141 = .ok (.goto 10, 3) := by decide +kernel
theorem dX12_looks_144 : decode cX12_looks 144 = .ok (.aload_n 0, 1) := by decide +kernel
theorem dX12_looks_145 : decode cX12_looks 145 = .ok (.iload_n 2, 1) := by decide +kernel
theorem dX12_looks_146 : decode cX12_looks 146 = .ok (.iconst 1, 1) := by decide +kernel
theorem dX12_looks_147 : decode cX12_looks 147 = .ok (.invokevirtual 293, 3) := by decide +kernel
theorem dX12_looks_150 : decode cX12_looks 150 = .ok (.i2l, 1) := by decide +kernel
theorem dX12_looks_151 : decode cX12_looks 151 = .ok (.lastore, 1) := by decide +kernel
theorem dX12_looks_152 : decode cX12_looks 152 = .ok (.aload_n 0, 1) := by decide +kernel
theorem dX12_looks_153 : decode cX12_looks 153 = .ok (.getfield 49, 3) := by decide +kernel
theorem dX12_looks_156 : decode cX12_looks 156 = .ok (.bipush 10, 2) := by decide +kernel
theorem dX12_looks_158 : decode cX12_looks 158 = .ok (.iload_n 2, 1) := by decide +kernel
theorem dX12_looks_159 : decode cX12_looks 159 = .ok (.ifCond .ge 7, 3) := by decide +kernel
theorem dX12_looks_162 : decode cX12_looks 162 = .ok (.lconst 0, 1) := by decide +kernel
theorem dX12_looks_163 : decode cX12_looks 163 = .ok (.goto 10, 3) := by decide +kernel
theorem dX12_looks_166 : decode cX12_looks 166 = .ok (.aload_n 0, 1) := by decide +kernel
theorem dX12_looks_167 : decode cX12_looks 167 = .ok (.iload_n 2, 1) := by decide +kernel
theorem dX12_looks_168 : decode cX12_looks 168 = .ok (.iconst 2, 1) := by decide +kernel
theorem dX12_looks_169 : decode cX12_looks 169 = .ok (.invokevirtual 293, 3) := by decide +kernel
theorem dX12_looks_172 : decode cX12_looks 172 = .ok (.i2l, 1) := by decide +kernel
theorem dX12_looks_173 : decode cX12_looks 173 = .ok (.lastore, 1) := by decide +kernel
theorem dX12_looks_174 : decode cX12_looks 174 = .ok (.return_, 1) := by decide +kernel
noncomputable def E_X12_looks : mE := (mX12_looks, [(37, [(0, (.aload_n 0, 1, false, false, 0, 0, 0, 0, 0, 0, [])), (1, (.getfield 49, 4, false, false, 15, 14, 1, 0, 0, 0, [])), (4, (.iconst 0, 5, false, false, 0, 0, 0, 0, 0, 0, [])), (5, (.aload_n 0, 6, false, false, 0, 0, 0, 0, 0, 0, [])), (6, (.invokevirtual 97, 9, false, false, 152, 0, 1, 15, 0, 0, [])), (9, (.i2l, 10, false, false, 0, 0, 0, 0, 0, 0, [])), (10, (.lastore, 11, false, false, 0, 0, 0, 0, 0, 0, [])), (11, (.iconst 1, 12, false, false, 0, 0, 0, 0, 1, 0, [])), (12, (.istore_n 3, 13, true, false, 3, 0, 0, 0, 0, 0, [])), (13, (.iload_n 3, 14, false, false, 3, 0, 0, 0, 0, 0, [])), (14, (.iconst 5, 15, false, false, 0, 0, 0, 0, 5, 0, [])), (15, (.if_icmp .ge 21, 18, false, false, 36, 0, 0, 0, 0, 0, [])), (18, (.aload_n 0, 19, false, false, 0, 0, 0, 0, 0, 0, [])), (19, (.getfield 49, 22, false, false, 15, 14, 1, 0, 0, 0, [])), (22, (.iload_n 3, 23, false, false, 3, 0, 0, 0, 0, 0, [])), (23, (.aload_n 0, 24, false, false, 0, 0, 0, 0, 0, 0, [])), (24, (.iload_n 3, 25, false, false, 3, 0, 0, 0, 0, 0, [])), (25, (.invokevirtual 290, 28, false, false, 232, 1, 1, 15, 0, 0, [])), (28, (.i2l, 29, false, false, 0, 0, 0, 0, 0, 0, [])), (29, (.lastore, 30, false, false, 0, 0, 0, 0, 0, 0, [])), (30, (.iinc 3 1, 33, false, false, 3, 0, 0, 0, 1, 0, [])), (33, (.goto (-20), 36, false, true, 13, 0, 0, 0, 0, 0, [])), (36, (.aload_n 0, 37, false, false, 0, 0, 0, 0, 0, 0, [])), (37, (.getfield 49, 40, false, false, 15, 14, 1, 0, 0, 0, []))]),
  (79, [(40, (.iconst 5, 41, false, false, 0, 0, 0, 0, 5, 0, [])), (41, (.iload_n 1, 42, false, false, 1, 0, 0, 0, 0, 0, [])), (42, (.ifCond .ge 7, 45, false, false, 49, 0, 0, 0, 0, 0, [])), (45, (.lconst 0, 46, false, false, 0, 0, 0, 0, 0, 0, [])), (46, (.goto 11, 49, false, true, 57, 0, 0, 0, 0, 0, [])), (49, (.aload_n 0, 50, false, false, 0, 0, 0, 0, 0, 0, [])), (50, (.iload_n 1, 51, false, false, 1, 0, 0, 0, 0, 0, [])), (51, (.bipush 7, 53, false, false, 0, 0, 0, 0, 7, 0, [])), (53, (.invokevirtual 79, 56, false, false, 31, 2, 1, 15, 0, 0, [])), (56, (.i2l, 57, true, false, 0, 0, 0, 0, 0, 0, [])), (57, (.lastore, 58, false, false, 0, 0, 0, 0, 0, 0, [])), (58, (.aload_n 0, 59, false, false, 0, 0, 0, 0, 0, 0, [])), (59, (.getfield 49, 62, false, false, 15, 14, 1, 0, 0, 0, [])), (62, (.bipush 6, 64, false, false, 0, 0, 0, 0, 6, 0, [])), (64, (.iload_n 1, 65, false, false, 1, 0, 0, 0, 0, 0, [])), (65, (.ifCond .ge 7, 68, false, false, 72, 0, 0, 0, 0, 0, [])), (68, (.lconst 0, 69, false, false, 0, 0, 0, 0, 0, 0, [])), (69, (.goto 10, 72, false, true, 79, 0, 0, 0, 0, 0, [])), (72, (.aload_n 0, 73, false, false, 0, 0, 0, 0, 0, 0, [])), (73, (.iload_n 1, 74, false, false, 1, 0, 0, 0, 0, 0, [])), (74, (.iconst 2, 75, false, false, 0, 0, 0, 0, 2, 0, [])), (75, (.invokevirtual 79, 78, false, false, 31, 2, 1, 15, 0, 0, [])), (78, (.i2l, 79, true, false, 0, 0, 0, 0, 0, 0, [])), (79, (.lastore, 80, false, false, 0, 0, 0, 0, 0, 0, []))]),
  (119, [(80, (.aload_n 0, 81, false, false, 0, 0, 0, 0, 0, 0, [])), (81, (.getfield 49, 84, false, false, 15, 14, 1, 0, 0, 0, [])), (84, (.bipush 7, 86, false, false, 0, 0, 0, 0, 7, 0, [])), (86, (.iload_n 1, 87, false, false, 1, 0, 0, 0, 0, 0, [])), (87, (.ifCond .ge 7, 90, false, false, 94, 0, 0, 0, 0, 0, [])), (90, (.lconst 0, 91, false, false, 0, 0, 0, 0, 0, 0, [])), (91, (.goto 10, 94, false, true, 101, 0, 0, 0, 0, 0, [])), (94, (.aload_n 0, 95, false, false, 0, 0, 0, 0, 0, 0, [])), (95, (.iload_n 1, 96, false, false, 1, 0, 0, 0, 0, 0, [])), (96, (.iconst 1, 97, false, false, 0, 0, 0, 0, 1, 0, [])), (97, (.invokevirtual 79, 100, false, false, 31, 2, 1, 15, 0, 0, [])), (100, (.i2l, 101, true, false, 0, 0, 0, 0, 0, 0, [])), (101, (.lastore, 102, false, false, 0, 0, 0, 0, 0, 0, [])), (102, (.aload_n 0, 103, false, false, 0, 0, 0, 0, 0, 0, [])), (103, (.getfield 49, 106, false, false, 15, 14, 1, 0, 0, 0, [])), (106, (.bipush 8, 108, false, false, 0, 0, 0, 0, 8, 0, [])), (108, (.iload_n 1, 109, false, false, 1, 0, 0, 0, 0, 0, [])), (109, (.ifCond .ge 7, 112, false, false, 116, 0, 0, 0, 0, 0, [])), (112, (.lconst 0, 113, false, false, 0, 0, 0, 0, 0, 0, [])), (113, (.goto 10, 116, false, true, 123, 0, 0, 0, 0, 0, [])), (116, (.aload_n 0, 117, false, false, 0, 0, 0, 0, 0, 0, [])), (117, (.iload_n 1, 118, false, false, 1, 0, 0, 0, 0, 0, [])), (118, (.iconst 0, 119, false, false, 0, 0, 0, 0, 0, 0, [])), (119, (.invokevirtual 79, 122, false, false, 31, 2, 1, 15, 0, 0, []))]),
  (159, [(122, (.i2l, 123, true, false, 0, 0, 0, 0, 0, 0, [])), (123, (.lastore, 124, false, false, 0, 0, 0, 0, 0, 0, [])), (124, (.aload_n 0, 125, false, false, 0, 0, 0, 0, 0, 0, [])), (125, (.getfield 49, 128, false, false, 15, 14, 1, 0, 0, 0, [])), (128, (.bipush 9, 130, false, false, 0, 0, 0, 0, 9, 0, [])), (130, (.iload_n 2, 131, false, false, 2, 0, 0, 0, 0, 0, [])), (131, (.ifCond .ge 13, 134, false, false, 144, 0, 0, 0, 0, 0, [])), (134, (.aload_n 0, 135, false, false, 0, 0, 0, 0, 0, 0, [])), (135, (.getfield 27, 138, false, false, 15, 1, 1, 0, 0, 0, [])), (138, (.iconst 1, 139, false, false, 0, 0, 0, 0, 1, 0, [])), (139, (.iaload, 140, false, false, 0, 0, 0, 0, 0, 0, [])), (140, (.i2l, 141, false, false, 0, 0, 0, 0, 0, 0, [])), (141, (.goto 10, 144, false, true, 151, 0, 0, 0, 0, 0, [])), (144, (.aload_n 0, 145, false, false, 0, 0, 0, 0, 0, 0, [])), (145, (.iload_n 2, 146, false, false, 2, 0, 0, 0, 0, 0, [])), (146, (.iconst 1, 147, false, false, 0, 0, 0, 0, 1, 0, [])), (147, (.invokevirtual 293, 150, false, false, 165, 2, 1, 15, 0, 0, [])), (150, (.i2l, 151, true, false, 0, 0, 0, 0, 0, 0, [])), (151, (.lastore, 152, false, false, 0, 0, 0, 0, 0, 0, [])), (152, (.aload_n 0, 153, false, false, 0, 0, 0, 0, 0, 0, [])), (153, (.getfield 49, 156, false, false, 15, 14, 1, 0, 0, 0, [])), (156, (.bipush 10, 158, false, false, 0, 0, 0, 0, 10, 0, [])), (158, (.iload_n 2, 159, false, false, 2, 0, 0, 0, 0, 0, [])), (159, (.ifCond .ge 7, 162, false, false, 166, 0, 0, 0, 0, 0, []))]),
  (174, [(162, (.lconst 0, 163, false, false, 0, 0, 0, 0, 0, 0, [])), (163, (.goto 10, 166, false, false, 173, 0, 0, 0, 0, 0, [])), (166, (.aload_n 0, 167, false, false, 0, 0, 0, 0, 0, 0, [])), (167, (.iload_n 2, 168, false, false, 2, 0, 0, 0, 0, 0, [])), (168, (.iconst 2, 169, false, false, 0, 0, 0, 0, 2, 0, [])), (169, (.invokevirtual 293, 172, false, false, 165, 2, 1, 15, 0, 0, [])), (172, (.i2l, 173, false, false, 0, 0, 0, 0, 0, 0, [])), (173, (.lastore, 174, false, false, 0, 0, 0, 0, 0, 0, [])), (174, (.return_, 175, false, false, 0, 0, 0, 0, 0, 0, []))])], 0, [])
set_option maxRecDepth 100000 in
theorem v_X12_looks : VE MYT dflT E_X12_looks := ⟨⟨⟨⟨⟨dX12_looks_0, rfl⟩, rfl⟩, ⟨⟨dX12_looks_1, rfl⟩, Or.inl ⟨by decide, _, _, fX12_49⟩⟩, ⟨⟨dX12_looks_4, rfl⟩, rfl⟩, ⟨⟨dX12_looks_5, rfl⟩, rfl⟩, ⟨⟨dX12_looks_6, rfl⟩, Or.inr ⟨by decide, ⟨_, my_152, sX12_97⟩, fun q => absurd q (by decide)⟩⟩, ⟨⟨dX12_looks_9, rfl⟩, trivial⟩, ⟨⟨dX12_looks_10, rfl⟩, trivial⟩, ⟨⟨dX12_looks_11, rfl⟩, rfl⟩, ⟨⟨dX12_looks_12, rfl⟩, rfl⟩, ⟨⟨dX12_looks_13, rfl⟩, rfl⟩, ⟨⟨dX12_looks_14, rfl⟩, rfl⟩, ⟨⟨dX12_looks_15, rfl⟩, rfl⟩, ⟨⟨dX12_looks_18, rfl⟩, rfl⟩, ⟨⟨dX12_looks_19, rfl⟩, Or.inl ⟨by decide, _, _, fX12_49⟩⟩, ⟨⟨dX12_looks_22, rfl⟩, rfl⟩, ⟨⟨dX12_looks_23, rfl⟩, rfl⟩, ⟨⟨dX12_looks_24, rfl⟩, rfl⟩, ⟨⟨dX12_looks_25, rfl⟩, Or.inr ⟨by decide, ⟨_, my_232, sX12_290⟩, fun q => absurd q (by decide)⟩⟩, ⟨⟨dX12_looks_28, rfl⟩, trivial⟩, ⟨⟨dX12_looks_29, rfl⟩, trivial⟩, ⟨⟨dX12_looks_30, rfl⟩, ⟨rfl, rfl⟩⟩, ⟨⟨dX12_looks_33, rfl⟩, rfl⟩, ⟨⟨dX12_looks_36, rfl⟩, rfl⟩, ⟨⟨dX12_looks_37, rfl⟩, Or.inl ⟨by decide, _, _, fX12_49⟩⟩, trivial⟩,
  ⟨⟨⟨dX12_looks_40, rfl⟩, rfl⟩, ⟨⟨dX12_looks_41, rfl⟩, rfl⟩, ⟨⟨dX12_looks_42, rfl⟩, rfl⟩, ⟨⟨dX12_looks_45, rfl⟩, rfl⟩, ⟨⟨dX12_looks_46, rfl⟩, rfl⟩, ⟨⟨dX12_looks_49, rfl⟩, rfl⟩, ⟨⟨dX12_looks_50, rfl⟩, rfl⟩, ⟨⟨dX12_looks_51, rfl⟩, rfl⟩, ⟨⟨dX12_looks_53, rfl⟩, Or.inr ⟨by decide, ⟨_, my_31, sX12_79⟩, fun q => absurd q (by decide)⟩⟩, ⟨⟨dX12_looks_56, rfl⟩, trivial⟩, ⟨⟨dX12_looks_57, rfl⟩, trivial⟩, ⟨⟨dX12_looks_58, rfl⟩, rfl⟩, ⟨⟨dX12_looks_59, rfl⟩, Or.inl ⟨by decide, _, _, fX12_49⟩⟩, ⟨⟨dX12_looks_62, rfl⟩, rfl⟩, ⟨⟨dX12_looks_64, rfl⟩, rfl⟩, ⟨⟨dX12_looks_65, rfl⟩, rfl⟩, ⟨⟨dX12_looks_68, rfl⟩, rfl⟩, ⟨⟨dX12_looks_69, rfl⟩, rfl⟩, ⟨⟨dX12_looks_72, rfl⟩, rfl⟩, ⟨⟨dX12_looks_73, rfl⟩, rfl⟩, ⟨⟨dX12_looks_74, rfl⟩, rfl⟩, ⟨⟨dX12_looks_75, rfl⟩, Or.inr ⟨by decide, ⟨_, my_31, sX12_79⟩, fun q => absurd q (by decide)⟩⟩, ⟨⟨dX12_looks_78, rfl⟩, trivial⟩, ⟨⟨dX12_looks_79, rfl⟩, trivial⟩, trivial⟩,
  ⟨⟨⟨dX12_looks_80, rfl⟩, rfl⟩, ⟨⟨dX12_looks_81, rfl⟩, Or.inl ⟨by decide, _, _, fX12_49⟩⟩, ⟨⟨dX12_looks_84, rfl⟩, rfl⟩, ⟨⟨dX12_looks_86, rfl⟩, rfl⟩, ⟨⟨dX12_looks_87, rfl⟩, rfl⟩, ⟨⟨dX12_looks_90, rfl⟩, rfl⟩, ⟨⟨dX12_looks_91, rfl⟩, rfl⟩, ⟨⟨dX12_looks_94, rfl⟩, rfl⟩, ⟨⟨dX12_looks_95, rfl⟩, rfl⟩, ⟨⟨dX12_looks_96, rfl⟩, rfl⟩, ⟨⟨dX12_looks_97, rfl⟩, Or.inr ⟨by decide, ⟨_, my_31, sX12_79⟩, fun q => absurd q (by decide)⟩⟩, ⟨⟨dX12_looks_100, rfl⟩, trivial⟩, ⟨⟨dX12_looks_101, rfl⟩, trivial⟩, ⟨⟨dX12_looks_102, rfl⟩, rfl⟩, ⟨⟨dX12_looks_103, rfl⟩, Or.inl ⟨by decide, _, _, fX12_49⟩⟩, ⟨⟨dX12_looks_106, rfl⟩, rfl⟩, ⟨⟨dX12_looks_108, rfl⟩, rfl⟩, ⟨⟨dX12_looks_109, rfl⟩, rfl⟩, ⟨⟨dX12_looks_112, rfl⟩, rfl⟩, ⟨⟨dX12_looks_113, rfl⟩, rfl⟩, ⟨⟨dX12_looks_116, rfl⟩, rfl⟩, ⟨⟨dX12_looks_117, rfl⟩, rfl⟩, ⟨⟨dX12_looks_118, rfl⟩, rfl⟩, ⟨⟨dX12_looks_119, rfl⟩, Or.inr ⟨by decide, ⟨_, my_31, sX12_79⟩, fun q => absurd q (by decide)⟩⟩, trivial⟩,
  ⟨⟨⟨dX12_looks_122, rfl⟩, trivial⟩, ⟨⟨dX12_looks_123, rfl⟩, trivial⟩, ⟨⟨dX12_looks_124, rfl⟩, rfl⟩, ⟨⟨dX12_looks_125, rfl⟩, Or.inl ⟨by decide, _, _, fX12_49⟩⟩, ⟨⟨dX12_looks_128, rfl⟩, rfl⟩, ⟨⟨dX12_looks_130, rfl⟩, rfl⟩, ⟨⟨dX12_looks_131, rfl⟩, rfl⟩, ⟨⟨dX12_looks_134, rfl⟩, rfl⟩, ⟨⟨dX12_looks_135, rfl⟩, Or.inl ⟨by decide, _, _, fX12_27⟩⟩, ⟨⟨dX12_looks_138, rfl⟩, rfl⟩, ⟨⟨dX12_looks_139, rfl⟩, trivial⟩, ⟨⟨dX12_looks_140, rfl⟩, trivial⟩, ⟨⟨dX12_looks_141, rfl⟩, rfl⟩, ⟨⟨dX12_looks_144, rfl⟩, rfl⟩, ⟨⟨dX12_looks_145, rfl⟩, rfl⟩, ⟨⟨dX12_looks_146, rfl⟩, rfl⟩, ⟨⟨dX12_looks_147, rfl⟩, Or.inr ⟨by decide, ⟨_, my_165, sX12_293⟩, fun q => absurd q (by decide)⟩⟩, ⟨⟨dX12_looks_150, rfl⟩, trivial⟩, ⟨⟨dX12_looks_151, rfl⟩, trivial⟩, ⟨⟨dX12_looks_152, rfl⟩, rfl⟩, ⟨⟨dX12_looks_153, rfl⟩, Or.inl ⟨by decide, _, _, fX12_49⟩⟩, ⟨⟨dX12_looks_156, rfl⟩, rfl⟩, ⟨⟨dX12_looks_158, rfl⟩, rfl⟩, ⟨⟨dX12_looks_159, rfl⟩, rfl⟩, trivial⟩,
  ⟨⟨⟨dX12_looks_162, rfl⟩, rfl⟩, ⟨⟨dX12_looks_163, rfl⟩, rfl⟩, ⟨⟨dX12_looks_166, rfl⟩, rfl⟩, ⟨⟨dX12_looks_167, rfl⟩, rfl⟩, ⟨⟨dX12_looks_168, rfl⟩, rfl⟩, ⟨⟨dX12_looks_169, rfl⟩, Or.inr ⟨by decide, ⟨_, my_165, sX12_293⟩, fun q => absurd q (by decide)⟩⟩, ⟨⟨dX12_looks_172, rfl⟩, trivial⟩, ⟨⟨dX12_looks_173, rfl⟩, trivial⟩, ⟨⟨dX12_looks_174, rfl⟩, rfl⟩, trivial⟩, trivial⟩, by decide, Or.inl ⟨rfl, by decide, rfl⟩⟩
set_option maxRecDepth 100000 in
theorem g_X12_looks_0 (S : sT) (call : cT) (n : Nat) (a0 : Nat) (x1 : Int32) (x2 : Int32) (h : pH) : bd S call dflT E_X12_looks (n + 1) 0 [some (.ref a0), some (.int x1), some (.int x2), none] [] h = (gV h (.ref a0) 15 14 (fun w1 => rC h (.ref a0) 15 (cI (call 152 [.ref a0] h) (fun y3 h2 => sJ h2 w1 0 y3.toInt64 (fun h4 => bd S call dflT E_X12_looks n 13 [some (.ref a0), some (.int x1), some (.int x2), some (.int 1)] [] h4))))) := rfl
set_option maxRecDepth 100000 in
theorem g_X12_looks_13 (S : sT) (call : cT) (n : Nat) (a0 : Nat) (x1 : Int32) (x2 : Int32) (x3 : Int32) (h : pH) : bd S call dflT E_X12_looks (n + 1) 13 [some (.ref a0), some (.int x1), some (.int x2), some (.int x3)] [] h = ((if 5 ≤ x3 then gV h (.ref a0) 15 14 (fun w1 => (if 0 ≤ x1 then rC h (.ref a0) 15 (cI (call 31 [.ref a0, .int x1, .int 7] h) (fun y3 h2 => bd S call dflT E_X12_looks n 57 [some (.ref a0), some (.int x1), some (.int x2), some (.int x3)] [.long y3.toInt64, .int 5, w1] h2)) else bd S call dflT E_X12_looks n 57 [some (.ref a0), some (.int x1), some (.int x2), some (.int x3)] [.long 0, .int 5, w1] h)) else gV h (.ref a0) 15 14 (fun w4 => rC h (.ref a0) 15 (cI (call 232 [.ref a0, .int x3] h) (fun y6 h5 => sJ h5 w4 x3 y6.toInt64 (fun h7 => bd S call dflT E_X12_looks n 13 [some (.ref a0), some (.int x1), some (.int x2), some (.int (x3 + 1))] [] h7)))))) := rfl
set_option maxRecDepth 100000 in
theorem g_X12_looks_57 (S : sT) (call : cT) (n : Nat) (a0 : Nat) (x1 : Int32) (x2 : Int32) (x3 : Int32) (u0 : Value) (y1 : Int32) (k2 : Int64) (h : pH) : bd S call dflT E_X12_looks (n + 1) 57 [some (.ref a0), some (.int x1), some (.int x2), some (.int x3)] [.long k2, .int y1, u0] h = (sJ h u0 y1 k2 (fun h1 => gV h1 (.ref a0) 15 14 (fun w2 => (if 0 ≤ x1 then rC h1 (.ref a0) 15 (cI (call 31 [.ref a0, .int x1, .int 2] h1) (fun y4 h3 => bd S call dflT E_X12_looks n 79 [some (.ref a0), some (.int x1), some (.int x2), some (.int x3)] [.long y4.toInt64, .int 6, w2] h3)) else bd S call dflT E_X12_looks n 79 [some (.ref a0), some (.int x1), some (.int x2), some (.int x3)] [.long 0, .int 6, w2] h1)))) := rfl
set_option maxRecDepth 100000 in
theorem g_X12_looks_79 (S : sT) (call : cT) (n : Nat) (a0 : Nat) (x1 : Int32) (x2 : Int32) (x3 : Int32) (u0 : Value) (y1 : Int32) (k2 : Int64) (h : pH) : bd S call dflT E_X12_looks (n + 1) 79 [some (.ref a0), some (.int x1), some (.int x2), some (.int x3)] [.long k2, .int y1, u0] h = (sJ h u0 y1 k2 (fun h1 => gV h1 (.ref a0) 15 14 (fun w2 => (if 0 ≤ x1 then rC h1 (.ref a0) 15 (cI (call 31 [.ref a0, .int x1, .int 1] h1) (fun y4 h3 => bd S call dflT E_X12_looks n 101 [some (.ref a0), some (.int x1), some (.int x2), some (.int x3)] [.long y4.toInt64, .int 7, w2] h3)) else bd S call dflT E_X12_looks n 101 [some (.ref a0), some (.int x1), some (.int x2), some (.int x3)] [.long 0, .int 7, w2] h1)))) := rfl
set_option maxRecDepth 100000 in
theorem g_X12_looks_101 (S : sT) (call : cT) (n : Nat) (a0 : Nat) (x1 : Int32) (x2 : Int32) (x3 : Int32) (u0 : Value) (y1 : Int32) (k2 : Int64) (h : pH) : bd S call dflT E_X12_looks (n + 1) 101 [some (.ref a0), some (.int x1), some (.int x2), some (.int x3)] [.long k2, .int y1, u0] h = (sJ h u0 y1 k2 (fun h1 => gV h1 (.ref a0) 15 14 (fun w2 => (if 0 ≤ x1 then rC h1 (.ref a0) 15 (cI (call 31 [.ref a0, .int x1, .int 0] h1) (fun y4 h3 => bd S call dflT E_X12_looks n 123 [some (.ref a0), some (.int x1), some (.int x2), some (.int x3)] [.long y4.toInt64, .int 8, w2] h3)) else bd S call dflT E_X12_looks n 123 [some (.ref a0), some (.int x1), some (.int x2), some (.int x3)] [.long 0, .int 8, w2] h1)))) := rfl
set_option maxRecDepth 100000 in
theorem g_X12_looks_123 (S : sT) (call : cT) (n : Nat) (a0 : Nat) (x1 : Int32) (x2 : Int32) (x3 : Int32) (u0 : Value) (y1 : Int32) (k2 : Int64) (h : pH) : bd S call dflT E_X12_looks (n + 1) 123 [some (.ref a0), some (.int x1), some (.int x2), some (.int x3)] [.long k2, .int y1, u0] h = (sJ h u0 y1 k2 (fun h1 => gV h1 (.ref a0) 15 14 (fun w2 => (if 0 ≤ x2 then rC h1 (.ref a0) 15 (cI (call 165 [.ref a0, .int x2, .int 1] h1) (fun y4 h3 => bd S call dflT E_X12_looks n 151 [some (.ref a0), some (.int x1), some (.int x2), some (.int x3)] [.long y4.toInt64, .int 9, w2] h3)) else gV h1 (.ref a0) 15 1 (fun w5 => aI h1 w5 0 1 (fun y6 => bd S call dflT E_X12_looks n 151 [some (.ref a0), some (.int x1), some (.int x2), some (.int x3)] [.long y6.toInt64, .int 9, w2] h1)))))) := rfl
set_option maxRecDepth 100000 in
theorem g_X12_looks_151 (S : sT) (call : cT) (n : Nat) (a0 : Nat) (x1 : Int32) (x2 : Int32) (x3 : Int32) (u0 : Value) (y1 : Int32) (k2 : Int64) (h : pH) : bd S call dflT E_X12_looks (n + 1) 151 [some (.ref a0), some (.int x1), some (.int x2), some (.int x3)] [.long k2, .int y1, u0] h = (sJ h u0 y1 k2 (fun h1 => gV h1 (.ref a0) 15 14 (fun w2 => (if 0 ≤ x2 then rC h1 (.ref a0) 15 (cI (call 165 [.ref a0, .int x2, .int 2] h1) (fun y4 h3 => sJ h3 w2 10 y4.toInt64 (fun h5 => some (.inl none, h5)))) else sJ h1 w2 10 0 (fun h6 => some (.inl none, h6)))))) := rfl
theorem dX12_holds_0 : decode cX12_holds 0 = .ok (.iload_n 1, 1) := by decide +kernel
theorem dX12_holds_1 : decode cX12_holds 1 = .ok (.iload_n 2, 1) := by decide +kernel
theorem dX12_holds_2 : decode cX12_holds 2 = .ok (.invokestatic 275, 3) := by decide +kernel
theorem dX12_holds_5 : decode cX12_holds 5 = .ok (.istore_n 3, 1) := by decide +kernel
theorem dX12_holds_6 : decode cX12_holds 6 = .ok (.iconst 0, 1) := by decide +kernel
theorem dX12_holds_7 : decode cX12_holds 7 = .ok (.istore 4, 2) := by decide +kernel
theorem dX12_holds_9 : decode cX12_holds 9 = .ok (.aload_n 0, 1) := by decide +kernel
theorem dX12_holds_10 : decode cX12_holds 10 = .ok (.getfield 27, 3) := by decide +kernel
theorem dX12_holds_13 : decode cX12_holds 13 = .ok (.iload_n 3, 1) := by decide +kernel
theorem dX12_holds_14 : decode cX12_holds 14 = .ok (.iconst 4, 1) := by decide +kernel
theorem dX12_holds_15 : decode cX12_holds 15 = .ok (.iadd, 1) := by decide +kernel
theorem dX12_holds_16 : decode cX12_holds 16 = .ok (.iaload, 1) := by decide +kernel
theorem dX12_holds_17 : decode cX12_holds 17 = .ok (.istore 5, 2) := by decide +kernel
theorem dX12_holds_19 : decode cX12_holds 19 = .ok (.iload 5, 2) := by decide +kernel
theorem dX12_holds_21 : decode cX12_holds 21 = .ok (.aload_n 0, 1) := by decide +kernel
theorem dX12_holds_22 : decode cX12_holds 22 = .ok (.getfield 27, 3) := by decide +kernel
theorem dX12_holds_25 : decode cX12_holds 25 = .ok (.iload_n 3, 1) := by decide +kernel
theorem dX12_holds_26 : decode cX12_holds 26 = .ok (.iconst 5, 1) := by decide +kernel
theorem dX12_holds_27 : decode cX12_holds 27 = .ok (.iadd, 1) := by decide +kernel
theorem dX12_holds_28 : decode cX12_holds 28 = .ok (.iaload, 1) := by decide +kernel
theorem dX12_holds_29 : decode cX12_holds 29 = .ok (.if_icmp .ge 230, 3) := by decide +kernel
theorem dX12_holds_32 : decode cX12_holds 32 = .ok (.aload_n 0, 1) := by decide +kernel
theorem dX12_holds_33 : decode cX12_holds 33 = .ok (.getfield 27, 3) := by decide +kernel
theorem dX12_holds_36 : decode cX12_holds 36 = .ok (.iload_n 1, 1) := by decide +kernel
theorem dX12_holds_37 : decode cX12_holds 37 = .ok (.invokestatic 140, 3) := by decide +kernel
theorem dX12_holds_40 : decode cX12_holds 40 = .ok (.bipush 98, 2) := by decide +kernel
theorem dX12_holds_42 : decode cX12_holds 42 = .ok (.iadd, 1) := by decide +kernel
theorem dX12_holds_43 : decode cX12_holds 43 = .ok (.iconst 2, 1) := by decide +kernel
theorem dX12_holds_44 : decode cX12_holds 44 = .ok (.iload 5, 2) := by decide +kernel
theorem dX12_holds_46 : decode cX12_holds 46 = .ok (.imul, 1) := by decide +kernel
theorem dX12_holds_47 : decode cX12_holds 47 = .ok (.iadd, 1) := by decide +kernel
theorem dX12_holds_48 : decode cX12_holds 48 = .ok (.iaload, 1) := by decide +kernel
theorem dX12_holds_49 : decode cX12_holds 49 = .ok (.istore 6, 2) := by decide +kernel
theorem dX12_holds_51 : decode cX12_holds 51 = .ok (.iload 6, 2) := by decide +kernel
theorem dX12_holds_53 : decode cX12_holds 53 = .ok (.bipush 100, 2) := by decide +kernel
theorem dX12_holds_55 : decode cX12_holds 55 = .ok (.if_icmp .gt 53, 3) := by decide +kernel
theorem dX12_holds_58 : decode cX12_holds 58 = .ok (.aload_n 0, 1) := by decide +kernel
theorem dX12_holds_59 : decode cX12_holds 59 = .ok (.getfield 45, 3) := by decide +kernel
theorem dX12_holds_62 : decode cX12_holds 62 = .ok (.iload 4, 2) := by decide +kernel
theorem dX12_holds_64 : decode cX12_holds 64 = .ok (.iload 6, 2) := by decide +kernel
theorem dX12_holds_66 : decode cX12_holds 66 = .ok (.bipush 100, 2) := by decide +kernel
theorem dX12_holds_68 : decode cX12_holds 68 = .ok (.if_icmp .ne 26, 3) := by decide +kernel
theorem dX12_holds_71 : decode cX12_holds 71 = .ok (.aload_n 0, 1) := by decide +kernel
theorem dX12_holds_72 : decode cX12_holds 72 = .ok (.getfield 27, 3) := by decide +kernel
theorem dX12_holds_75 : decode cX12_holds 75 = .ok (.iload_n 1, 1) := by decide +kernel
theorem dX12_holds_76 : decode cX12_holds 76 = .ok (.invokestatic 140, 3) := by decide +kernel
theorem dX12_holds_79 : decode cX12_holds 79 = .ok (.bipush 98, 2) := by decide +kernel
theorem dX12_holds_81 : decode cX12_holds 81 = .ok (.iadd, 1) := by decide +kernel
theorem dX12_holds_82 : decode cX12_holds 82 = .ok (.iconst 2, 1) := by decide +kernel
theorem dX12_holds_83 : decode cX12_holds 83 = .ok (.iload 5, 2) := by decide +kernel
theorem dX12_holds_85 : decode cX12_holds 85 = .ok (.imul, 1) := by decide +kernel
theorem dX12_holds_86 : decode cX12_holds 86 = .ok (.iadd, 1) := by decide +kernel
theorem dX12_holds_87 : decode cX12_holds 87 = .ok (.iconst 1, 1) := by decide +kernel
theorem dX12_holds_88 : decode cX12_holds 88 = .ok (.iadd, 1) := by decide +kernel
theorem dX12_holds_89 : decode cX12_holds 89 = .ok (.iaload, 1) := by decide +kernel
theorem dX12_holds_90 : decode cX12_holds 90 = .ok (.i2l, 1) := by decide +kernel
theorem dX12_holds_91 : decode cX12_holds 91 = .ok (.goto 10, 3) := by decide +kernel
theorem dX12_holds_94 : decode cX12_holds 94 = .ok (.aload_n 0, 1) := by decide +kernel
theorem dX12_holds_95 : decode cX12_holds 95 = .ok (.getfield 49, 3) := by decide +kernel
theorem dX12_holds_98 : decode cX12_holds 98 = .ok (.iload 6, 2) := by decide +kernel
theorem dX12_holds_100 : decode cX12_holds 100 = .ok (.laload, 1) := by decide +kernel
theorem dX12_holds_101 : decode cX12_holds 101 = .ok (.lastore, 1) := by decide +kernel
theorem dX12_holds_102 : decode cX12_holds 102 = .ok (.iinc 4 1, 3) := by decide +kernel
theorem dX12_holds_105 : decode cX12_holds 105 = .ok (.goto 148, 3) := by decide +kernel
theorem dX12_holds_108 : decode cX12_holds 108 = .ok (.iload 6, 2) := by decide +kernel
theorem dX12_holds_110 : decode cX12_holds 110 = .ok (.bipush 104, 2) := by decide +kernel
theorem dX12_holds_112 : decode cX12_holds 112 = .ok (.if_icmp .ne 26, 3) := by decide +kernel
theorem dX12_holds_115 : decode cX12_holds 115 = .ok (.aload_n 0, 1) := by decide +kernel
theorem dX12_holds_116 : decode cX12_holds 116 = .ok (.getfield 45, 3) := by decide +kernel
theorem dX12_holds_119 : decode cX12_holds 119 = .ok (.iload 4, 2) := by decide +kernel
theorem dX12_holds_121 : decode cX12_holds 121 = .ok (.iconst 1, 1) := by decide +kernel
theorem dX12_holds_122 : decode cX12_holds 122 = .ok (.isub, 1) := by decide +kernel
theorem dX12_holds_123 : decode cX12_holds 123 = .ok (.lconst 1, 1) := by decide +kernel
theorem dX12_holds_124 : decode cX12_holds 124 = .ok (.aload_n 0, 1) := by decide +kernel
theorem dX12_holds_125 : decode cX12_holds 125 = .ok (.getfield 45, 3) := by decide +kernel
theorem dX12_holds_128 : decode cX12_holds 128 = .ok (.iload 4, 2) := by decide +kernel
theorem dX12_holds_130 : decode cX12_holds 130 = .ok (.iconst 1, 1) := by decide +kernel
theorem dX12_holds_131 : decode cX12_holds 131 = .ok (.isub, 1) := by decide +kernel
theorem dX12_holds_132 : decode cX12_holds 132 = .ok (.laload, 1) := by decide +kernel
theorem dX12_holds_133 : decode cX12_holds 133 = .ok (.lsub, 1) := by decide +kernel
theorem dX12_holds_134 : decode cX12_holds 134 = .ok (.lastore, 1) := by decide +kernel
theorem dX12_holds_135 : decode cX12_holds 135 = .ok (.goto 118, 3) := by decide +kernel
theorem dX12_holds_138 : decode cX12_holds 138 = .ok (.iinc 4 (-1), 3) := by decide +kernel
theorem dX12_holds_141 : decode cX12_holds 141 = .ok (.aload_n 0, 1) := by decide +kernel
theorem dX12_holds_142 : decode cX12_holds 142 = .ok (.getfield 45, 3) := by decide +kernel
theorem dX12_holds_145 : decode cX12_holds 145 = .ok (.iload 4, 2) := by decide +kernel
theorem dX12_holds_147 : decode cX12_holds 147 = .ok (.iconst 1, 1) := by decide +kernel
theorem dX12_holds_148 : decode cX12_holds 148 = .ok (.isub, 1) := by decide +kernel
theorem dX12_holds_149 : decode cX12_holds 149 = .ok (.laload, 1) := by decide +kernel
theorem dX12_holds_150 : decode cX12_holds 150 = .ok (.lstore 7, 2) := by decide +kernel
theorem dX12_holds_152 : decode cX12_holds 152 = .ok (.aload_n 0, 1) := by decide +kernel
theorem dX12_holds_153 : decode cX12_holds 153 = .ok (.getfield 45, 3) := by decide +kernel
theorem dX12_holds_156 : decode cX12_holds 156 = .ok (.iload 4, 2) := by decide +kernel
theorem dX12_holds_158 : decode cX12_holds 158 = .ok (.laload, 1) := by decide +kernel
theorem dX12_holds_159 : decode cX12_holds 159 = .ok (.lstore 9, 2) := by decide +kernel
theorem dX12_holds_161 : decode cX12_holds 161 = .ok (.aload_n 0, 1) := by decide +kernel
theorem dX12_holds_162 : decode cX12_holds 162 = .ok (.getfield 45, 3) := by decide +kernel
theorem dX12_holds_165 : decode cX12_holds 165 = .ok (.iload 4, 2) := by decide +kernel
theorem dX12_holds_167 : decode cX12_holds 167 = .ok (.iconst 1, 1) := by decide +kernel
theorem dX12_holds_168 : decode cX12_holds 168 = .ok (.isub, 1) := by decide +kernel
theorem dX12_holds_169 : decode cX12_holds 169 = .ok (.iload 6, 2) := by decide +kernel
theorem dX12_holds_171 : decode cX12_holds 171 = .ok (.bipush 101, 2) := by decide +kernel
theorem dX12_holds_173 : decode cX12_holds 173 = .ok (.if_icmp .ne 11, 3) := by decide +kernel
theorem dX12_holds_176 : decode cX12_holds 176 = .ok (.lload 7, 2) := by decide +kernel
theorem dX12_holds_178 : decode cX12_holds 178 = .ok (.lload 9, 2) := by decide +kernel
theorem dX12_holds_180 : decode cX12_holds 180 = .ok (.ladd, 1) := by decide +kernel
theorem dX12_holds_181 : decode cX12_holds 181 = .ok (.goto 71, 3) := by decide +kernel
theorem dX12_holds_184 : decode cX12_holds 184 = .ok (.iload 6, 2) := by decide +kernel
theorem dX12_holds_186 : decode cX12_holds 186 = .ok (.bipush 102, 2) := by decide +kernel
theorem dX12_holds_188 : decode cX12_holds 188 = .ok (.if_icmp .ne 19, 3) := by decide +kernel
theorem dX12_holds_191 : decode cX12_holds 191 = .ok (.lload 7, 2) := by decide +kernel
theorem dX12_holds_193 : decode cX12_holds 193 = .ok (.lload 9, 2) := by decide +kernel
theorem dX12_holds_195 : decode cX12_holds 195 = .ok (.lcmp, 1) := by decide +kernel
theorem dX12_holds_196 : decode cX12_holds 196 = .ok (.ifCond .ge 7, 3) := by decide +kernel
theorem dX12_holds_199 : decode cX12_holds 199 = .ok (.lconst 1, 1) := by decide +kernel
theorem dX12_holds_200 : decode cX12_holds 200 = .ok (.goto 52, 3) := by decide +kernel
theorem dX12_holds_203 : decode cX12_holds 203 = .ok (.lconst 0, 1) := by decide +kernel
theorem dX12_holds_204 : decode cX12_holds 204 = .ok (.goto 48, 3) := by decide +kernel
theorem dX12_holds_207 : decode cX12_holds 207 = .ok (.iload 6, 2) := by decide +kernel
theorem dX12_holds_209 : decode cX12_holds 209 = .ok (.bipush 103, 2) := by decide +kernel
theorem dX12_holds_211 : decode cX12_holds 211 = .ok (.if_icmp .ne 19, 3) := by decide +kernel
theorem dX12_holds_214 : decode cX12_holds 214 = .ok (.lload 7, 2) := by decide +kernel
theorem dX12_holds_216 : decode cX12_holds 216 = .ok (.lload 9, 2) := by decide +kernel
theorem dX12_holds_218 : decode cX12_holds 218 = .ok (.lcmp, 1) := by decide +kernel
theorem dX12_holds_219 : decode cX12_holds 219 = .ok (.ifCond .le 7, 3) := by decide +kernel
theorem dX12_holds_222 : decode cX12_holds 222 = .ok (.lconst 1, 1) := by decide +kernel
theorem dX12_holds_223 : decode cX12_holds 223 = .ok (.goto 29, 3) := by decide +kernel
theorem dX12_holds_226 : decode cX12_holds 226 = .ok (.lconst 0, 1) := by decide +kernel
theorem dX12_holds_227 : decode cX12_holds 227 = .ok (.goto 25, 3) := by decide +kernel
theorem dX12_holds_230 : decode cX12_holds 230 = .ok (.iload 6, 2) := by decide +kernel
theorem dX12_holds_232 : decode cX12_holds 232 = .ok (.bipush 105, 2) := by decide +kernel
theorem dX12_holds_234 : decode cX12_holds 234 = .ok (.if_icmp .ne 11, 3) := by decide +kernel
theorem dX12_holds_237 : decode cX12_holds 237 = .ok (.lload 7, 2) := by decide +kernel
theorem dX12_holds_239 : decode cX12_holds 239 = .ok (.lload 9, 2) := by decide +kernel
theorem dX12_holds_241 : decode cX12_holds 241 = .ok (.lmul, 1) := by decide +kernel
theorem dX12_holds_242 : decode cX12_holds 242 = .ok (.goto 10, 3) := by decide +kernel
theorem dX12_holds_245 : decode cX12_holds 245 = .ok (.lload 7, 2) := by decide +kernel
theorem dX12_holds_247 : decode cX12_holds 247 = .ok (.lload 9, 2) := by decide +kernel
theorem dX12_holds_249 : decode cX12_holds 249 = .ok (.invokestatic 17, 3) := by decide +kernel
theorem dX12_holds_252 : decode cX12_holds 252 = .ok (.lastore, 1) := by decide +kernel
theorem dX12_holds_253 : decode cX12_holds 253 = .ok (.iinc 5 1, 3) := by decide +kernel
theorem dX12_holds_256 : decode cX12_holds 256 = .ok (.goto (-237), 3) := by decide +kernel
theorem dX12_holds_259 : decode cX12_holds 259 = .ok (.iload 4, 2) := by decide +kernel
theorem dX12_holds_261 : decode cX12_holds 261 = .ok (.ifCond .eq 14, 3) := by decide +kernel
theorem dX12_holds_264 : decode cX12_holds 264 = .ok (.aload_n 0, 1) := by decide +kernel
theorem dX12_holds_265 : decode cX12_holds 265 = .ok (.getfield 45, 3) := by decide +kernel
theorem dX12_holds_268 : decode cX12_holds 268 = .ok (.iconst 0, 1) := by decide +kernel
theorem dX12_holds_269 : decode cX12_holds 269 = .ok (.laload, 1) := by decide +kernel
theorem dX12_holds_270 : decode cX12_holds 270 = .ok (.lconst 1, 1) := by decide +kernel
theorem dX12_holds_271 : decode cX12_holds 271 = .ok (.lcmp, 1) := by decide +kernel
theorem dX12_holds_272 : decode cX12_holds 272 = .ok (.ifCond .ne 7, 3) := by decide +kernel
theorem dX12_holds_275 : decode cX12_holds 275 = .ok (.iconst 1, 1) := by decide +kernel
theorem dX12_holds_276 : decode cX12_holds 276 = .ok (.goto 4, 3) := by decide +kernel
theorem dX12_holds_279 : decode cX12_holds 279 = .ok (.iconst 0, 1) := by decide +kernel
theorem dX12_holds_280 : decode cX12_holds 280 = .ok (.ireturn, 1) := by decide +kernel
noncomputable def E_X12_holds : mE := (mX12_holds, [(36, [(0, (.iload_n 1, 1, false, false, 1, 0, 0, 0, 0, 0, [])), (1, (.iload_n 2, 2, false, false, 2, 0, 0, 0, 0, 0, [])), (2, (.invokestatic 275, 5, false, false, 117, 2, 1, 0, 0, 0, [])), (5, (.istore_n 3, 6, false, false, 3, 0, 0, 0, 0, 0, [])), (6, (.iconst 0, 7, false, false, 0, 0, 0, 0, 0, 0, [])), (7, (.istore 4, 9, false, false, 4, 0, 0, 0, 0, 0, [])), (9, (.aload_n 0, 10, false, false, 0, 0, 0, 0, 0, 0, [])), (10, (.getfield 27, 13, false, false, 15, 1, 1, 0, 0, 0, [])), (13, (.iload_n 3, 14, false, false, 3, 0, 0, 0, 0, 0, [])), (14, (.iconst 4, 15, false, false, 0, 0, 0, 0, 4, 0, [])), (15, (.iadd, 16, false, false, 0, 0, 0, 0, 0, 0, [])), (16, (.iaload, 17, false, false, 0, 0, 0, 0, 0, 0, [])), (17, (.istore 5, 19, true, false, 5, 0, 0, 0, 0, 0, [])), (19, (.iload 5, 21, false, false, 5, 0, 0, 0, 0, 0, [])), (21, (.aload_n 0, 22, false, false, 0, 0, 0, 0, 0, 0, [])), (22, (.getfield 27, 25, false, false, 15, 1, 1, 0, 0, 0, [])), (25, (.iload_n 3, 26, false, false, 3, 0, 0, 0, 0, 0, [])), (26, (.iconst 5, 27, false, false, 0, 0, 0, 0, 5, 0, [])), (27, (.iadd, 28, false, false, 0, 0, 0, 0, 0, 0, [])), (28, (.iaload, 29, false, false, 0, 0, 0, 0, 0, 0, [])), (29, (.if_icmp .ge 230, 32, false, false, 259, 0, 0, 0, 0, 0, [])), (32, (.aload_n 0, 33, false, false, 0, 0, 0, 0, 0, 0, [])), (33, (.getfield 27, 36, false, false, 15, 1, 1, 0, 0, 0, [])), (36, (.iload_n 1, 37, false, false, 1, 0, 0, 0, 0, 0, []))]),
  (81, [(37, (.invokestatic 140, 40, false, false, 116, 1, 1, 0, 0, 0, [])), (40, (.bipush 98, 42, false, false, 0, 0, 0, 0, 98, 0, [])), (42, (.iadd, 43, false, false, 0, 0, 0, 0, 0, 0, [])), (43, (.iconst 2, 44, false, false, 0, 0, 0, 0, 2, 0, [])), (44, (.iload 5, 46, false, false, 5, 0, 0, 0, 0, 0, [])), (46, (.imul, 47, false, false, 0, 0, 0, 0, 0, 0, [])), (47, (.iadd, 48, false, false, 0, 0, 0, 0, 0, 0, [])), (48, (.iaload, 49, false, false, 0, 0, 0, 0, 0, 0, [])), (49, (.istore 6, 51, false, false, 6, 0, 0, 0, 0, 0, [])), (51, (.iload 6, 53, false, false, 6, 0, 0, 0, 0, 0, [])), (53, (.bipush 100, 55, false, false, 0, 0, 0, 0, 100, 0, [])), (55, (.if_icmp .gt 53, 58, false, false, 108, 0, 0, 0, 0, 0, [])), (58, (.aload_n 0, 59, false, false, 0, 0, 0, 0, 0, 0, [])), (59, (.getfield 45, 62, false, false, 15, 13, 1, 0, 0, 0, [])), (62, (.iload 4, 64, false, false, 4, 0, 0, 0, 0, 0, [])), (64, (.iload 6, 66, false, false, 6, 0, 0, 0, 0, 0, [])), (66, (.bipush 100, 68, false, false, 0, 0, 0, 0, 100, 0, [])), (68, (.if_icmp .ne 26, 71, false, false, 94, 0, 0, 0, 0, 0, [])), (71, (.aload_n 0, 72, false, false, 0, 0, 0, 0, 0, 0, [])), (72, (.getfield 27, 75, false, false, 15, 1, 1, 0, 0, 0, [])), (75, (.iload_n 1, 76, false, false, 1, 0, 0, 0, 0, 0, [])), (76, (.invokestatic 140, 79, false, false, 116, 1, 1, 0, 0, 0, [])), (79, (.bipush 98, 81, false, false, 0, 0, 0, 0, 98, 0, [])), (81, (.iadd, 82, false, false, 0, 0, 0, 0, 0, 0, []))]),
  (122, [(82, (.iconst 2, 83, false, false, 0, 0, 0, 0, 2, 0, [])), (83, (.iload 5, 85, false, false, 5, 0, 0, 0, 0, 0, [])), (85, (.imul, 86, false, false, 0, 0, 0, 0, 0, 0, [])), (86, (.iadd, 87, false, false, 0, 0, 0, 0, 0, 0, [])), (87, (.iconst 1, 88, false, false, 0, 0, 0, 0, 1, 0, [])), (88, (.iadd, 89, false, false, 0, 0, 0, 0, 0, 0, [])), (89, (.iaload, 90, false, false, 0, 0, 0, 0, 0, 0, [])), (90, (.i2l, 91, false, false, 0, 0, 0, 0, 0, 0, [])), (91, (.goto 10, 94, false, false, 101, 0, 0, 0, 0, 0, [])), (94, (.aload_n 0, 95, false, false, 0, 0, 0, 0, 0, 0, [])), (95, (.getfield 49, 98, false, false, 15, 14, 1, 0, 0, 0, [])), (98, (.iload 6, 100, false, false, 6, 0, 0, 0, 0, 0, [])), (100, (.laload, 101, false, false, 0, 0, 0, 0, 0, 0, [])), (101, (.lastore, 102, false, false, 0, 0, 0, 0, 0, 0, [])), (102, (.iinc 4 1, 105, false, false, 4, 0, 0, 0, 1, 0, [])), (105, (.goto 148, 108, false, false, 253, 0, 0, 0, 0, 0, [])), (108, (.iload 6, 110, false, false, 6, 0, 0, 0, 0, 0, [])), (110, (.bipush 104, 112, false, false, 0, 0, 0, 0, 104, 0, [])), (112, (.if_icmp .ne 26, 115, false, false, 138, 0, 0, 0, 0, 0, [])), (115, (.aload_n 0, 116, false, false, 0, 0, 0, 0, 0, 0, [])), (116, (.getfield 45, 119, false, false, 15, 13, 1, 0, 0, 0, [])), (119, (.iload 4, 121, false, false, 4, 0, 0, 0, 0, 0, [])), (121, (.iconst 1, 122, false, false, 0, 0, 0, 0, 1, 0, [])), (122, (.isub, 123, false, false, 0, 0, 0, 0, 0, 0, []))]),
  (161, [(123, (.lconst 1, 124, false, false, 0, 0, 0, 0, 0, 1, [])), (124, (.aload_n 0, 125, false, false, 0, 0, 0, 0, 0, 0, [])), (125, (.getfield 45, 128, false, false, 15, 13, 1, 0, 0, 0, [])), (128, (.iload 4, 130, false, false, 4, 0, 0, 0, 0, 0, [])), (130, (.iconst 1, 131, false, false, 0, 0, 0, 0, 1, 0, [])), (131, (.isub, 132, false, false, 0, 0, 0, 0, 0, 0, [])), (132, (.laload, 133, false, false, 0, 0, 0, 0, 0, 0, [])), (133, (.lsub, 134, false, false, 0, 0, 0, 0, 0, 0, [])), (134, (.lastore, 135, false, false, 0, 0, 0, 0, 0, 0, [])), (135, (.goto 118, 138, false, false, 253, 0, 0, 0, 0, 0, [])), (138, (.iinc 4 (-1), 141, false, false, 4, 0, 0, 0, -1, 0, [])), (141, (.aload_n 0, 142, false, false, 0, 0, 0, 0, 0, 0, [])), (142, (.getfield 45, 145, false, false, 15, 13, 1, 0, 0, 0, [])), (145, (.iload 4, 147, false, false, 4, 0, 0, 0, 0, 0, [])), (147, (.iconst 1, 148, false, false, 0, 0, 0, 0, 1, 0, [])), (148, (.isub, 149, false, false, 0, 0, 0, 0, 0, 0, [])), (149, (.laload, 150, false, false, 0, 0, 0, 0, 0, 0, [])), (150, (.lstore 7, 152, false, false, 7, 8, 0, 0, 0, 0, [])), (152, (.aload_n 0, 153, false, false, 0, 0, 0, 0, 0, 0, [])), (153, (.getfield 45, 156, false, false, 15, 13, 1, 0, 0, 0, [])), (156, (.iload 4, 158, false, false, 4, 0, 0, 0, 0, 0, [])), (158, (.laload, 159, false, false, 0, 0, 0, 0, 0, 0, [])), (159, (.lstore 9, 161, false, false, 9, 10, 0, 0, 0, 0, [])), (161, (.aload_n 0, 162, false, false, 0, 0, 0, 0, 0, 0, []))]),
  (209, [(162, (.getfield 45, 165, false, false, 15, 13, 1, 0, 0, 0, [])), (165, (.iload 4, 167, false, false, 4, 0, 0, 0, 0, 0, [])), (167, (.iconst 1, 168, false, false, 0, 0, 0, 0, 1, 0, [])), (168, (.isub, 169, false, false, 0, 0, 0, 0, 0, 0, [])), (169, (.iload 6, 171, false, false, 6, 0, 0, 0, 0, 0, [])), (171, (.bipush 101, 173, false, false, 0, 0, 0, 0, 101, 0, [])), (173, (.if_icmp .ne 11, 176, false, false, 184, 0, 0, 0, 0, 0, [])), (176, (.lload 7, 178, false, false, 7, 0, 0, 0, 0, 0, [])), (178, (.lload 9, 180, false, false, 9, 0, 0, 0, 0, 0, [])), (180, (.ladd, 181, false, false, 0, 0, 0, 0, 0, 0, [])), (181, (.goto 71, 184, false, false, 252, 0, 0, 0, 0, 0, [])), (184, (.iload 6, 186, false, false, 6, 0, 0, 0, 0, 0, [])), (186, (.bipush 102, 188, false, false, 0, 0, 0, 0, 102, 0, [])), (188, (.if_icmp .ne 19, 191, false, false, 207, 0, 0, 0, 0, 0, [])), (191, (.lload 7, 193, false, false, 7, 0, 0, 0, 0, 0, [])), (193, (.lload 9, 195, false, false, 9, 0, 0, 0, 0, 0, [])), (195, (.lcmp, 196, false, false, 0, 0, 0, 0, 0, 0, [])), (196, (.ifCond .ge 7, 199, false, false, 203, 0, 0, 0, 0, 0, [])), (199, (.lconst 1, 200, false, false, 0, 0, 0, 0, 0, 1, [])), (200, (.goto 52, 203, false, false, 252, 0, 0, 0, 0, 0, [])), (203, (.lconst 0, 204, false, false, 0, 0, 0, 0, 0, 0, [])), (204, (.goto 48, 207, false, false, 252, 0, 0, 0, 0, 0, [])), (207, (.iload 6, 209, false, false, 6, 0, 0, 0, 0, 0, [])), (209, (.bipush 103, 211, false, false, 0, 0, 0, 0, 103, 0, []))]),
  (261, [(211, (.if_icmp .ne 19, 214, false, false, 230, 0, 0, 0, 0, 0, [])), (214, (.lload 7, 216, false, false, 7, 0, 0, 0, 0, 0, [])), (216, (.lload 9, 218, false, false, 9, 0, 0, 0, 0, 0, [])), (218, (.lcmp, 219, false, false, 0, 0, 0, 0, 0, 0, [])), (219, (.ifCond .le 7, 222, false, false, 226, 0, 0, 0, 0, 0, [])), (222, (.lconst 1, 223, false, false, 0, 0, 0, 0, 0, 1, [])), (223, (.goto 29, 226, false, false, 252, 0, 0, 0, 0, 0, [])), (226, (.lconst 0, 227, false, false, 0, 0, 0, 0, 0, 0, [])), (227, (.goto 25, 230, false, false, 252, 0, 0, 0, 0, 0, [])), (230, (.iload 6, 232, false, false, 6, 0, 0, 0, 0, 0, [])), (232, (.bipush 105, 234, false, false, 0, 0, 0, 0, 105, 0, [])), (234, (.if_icmp .ne 11, 237, false, false, 245, 0, 0, 0, 0, 0, [])), (237, (.lload 7, 239, false, false, 7, 0, 0, 0, 0, 0, [])), (239, (.lload 9, 241, false, false, 9, 0, 0, 0, 0, 0, [])), (241, (.lmul, 242, false, false, 0, 0, 0, 0, 0, 0, [])), (242, (.goto 10, 245, false, false, 252, 0, 0, 0, 0, 0, [])), (245, (.lload 7, 247, false, false, 7, 0, 0, 0, 0, 0, [])), (247, (.lload 9, 249, false, false, 9, 0, 0, 0, 0, 0, [])), (249, (.invokestatic 17, 252, false, false, 0, 2, 2, 7, 0, 0, [])), (252, (.lastore, 253, false, false, 0, 0, 0, 0, 0, 0, [])), (253, (.iinc 5 1, 256, false, false, 5, 0, 0, 0, 1, 0, [])), (256, (.goto (-237), 259, false, true, 19, 0, 0, 0, 0, 0, [])), (259, (.iload 4, 261, false, false, 4, 0, 0, 0, 0, 0, [])), (261, (.ifCond .eq 14, 264, false, false, 275, 0, 0, 0, 0, 0, []))]),
  (280, [(264, (.aload_n 0, 265, false, false, 0, 0, 0, 0, 0, 0, [])), (265, (.getfield 45, 268, false, false, 15, 13, 1, 0, 0, 0, [])), (268, (.iconst 0, 269, false, false, 0, 0, 0, 0, 0, 0, [])), (269, (.laload, 270, false, false, 0, 0, 0, 0, 0, 0, [])), (270, (.lconst 1, 271, false, false, 0, 0, 0, 0, 0, 1, [])), (271, (.lcmp, 272, false, false, 0, 0, 0, 0, 0, 0, [])), (272, (.ifCond .ne 7, 275, false, false, 279, 0, 0, 0, 0, 0, [])), (275, (.iconst 1, 276, false, false, 0, 0, 0, 0, 1, 0, [])), (276, (.goto 4, 279, false, false, 280, 0, 0, 0, 0, 0, [])), (279, (.iconst 0, 280, false, false, 0, 0, 0, 0, 0, 0, [])), (280, (.ireturn, 281, false, false, 0, 0, 1, 0, 0, 0, []))])], 0, [])
set_option maxRecDepth 100000 in
theorem v_X12_holds : VE MYT dflT E_X12_holds := ⟨⟨⟨⟨⟨dX12_holds_0, rfl⟩, rfl⟩, ⟨⟨dX12_holds_1, rfl⟩, rfl⟩, ⟨⟨dX12_holds_2, rfl⟩, Or.inl ⟨rfl, _, my_117, sX12_275⟩⟩, ⟨⟨dX12_holds_5, rfl⟩, rfl⟩, ⟨⟨dX12_holds_6, rfl⟩, rfl⟩, ⟨⟨dX12_holds_7, rfl⟩, rfl⟩, ⟨⟨dX12_holds_9, rfl⟩, rfl⟩, ⟨⟨dX12_holds_10, rfl⟩, Or.inl ⟨by decide, _, _, fX12_27⟩⟩, ⟨⟨dX12_holds_13, rfl⟩, rfl⟩, ⟨⟨dX12_holds_14, rfl⟩, rfl⟩, ⟨⟨dX12_holds_15, rfl⟩, trivial⟩, ⟨⟨dX12_holds_16, rfl⟩, trivial⟩, ⟨⟨dX12_holds_17, rfl⟩, rfl⟩, ⟨⟨dX12_holds_19, rfl⟩, rfl⟩, ⟨⟨dX12_holds_21, rfl⟩, rfl⟩, ⟨⟨dX12_holds_22, rfl⟩, Or.inl ⟨by decide, _, _, fX12_27⟩⟩, ⟨⟨dX12_holds_25, rfl⟩, rfl⟩, ⟨⟨dX12_holds_26, rfl⟩, rfl⟩, ⟨⟨dX12_holds_27, rfl⟩, trivial⟩, ⟨⟨dX12_holds_28, rfl⟩, trivial⟩, ⟨⟨dX12_holds_29, rfl⟩, rfl⟩, ⟨⟨dX12_holds_32, rfl⟩, rfl⟩, ⟨⟨dX12_holds_33, rfl⟩, Or.inl ⟨by decide, _, _, fX12_27⟩⟩, ⟨⟨dX12_holds_36, rfl⟩, rfl⟩, trivial⟩,
  ⟨⟨⟨dX12_holds_37, rfl⟩, Or.inl ⟨rfl, _, my_116, sX12_140⟩⟩, ⟨⟨dX12_holds_40, rfl⟩, rfl⟩, ⟨⟨dX12_holds_42, rfl⟩, trivial⟩, ⟨⟨dX12_holds_43, rfl⟩, rfl⟩, ⟨⟨dX12_holds_44, rfl⟩, rfl⟩, ⟨⟨dX12_holds_46, rfl⟩, trivial⟩, ⟨⟨dX12_holds_47, rfl⟩, trivial⟩, ⟨⟨dX12_holds_48, rfl⟩, trivial⟩, ⟨⟨dX12_holds_49, rfl⟩, rfl⟩, ⟨⟨dX12_holds_51, rfl⟩, rfl⟩, ⟨⟨dX12_holds_53, rfl⟩, rfl⟩, ⟨⟨dX12_holds_55, rfl⟩, rfl⟩, ⟨⟨dX12_holds_58, rfl⟩, rfl⟩, ⟨⟨dX12_holds_59, rfl⟩, Or.inl ⟨by decide, _, _, fX12_45⟩⟩, ⟨⟨dX12_holds_62, rfl⟩, rfl⟩, ⟨⟨dX12_holds_64, rfl⟩, rfl⟩, ⟨⟨dX12_holds_66, rfl⟩, rfl⟩, ⟨⟨dX12_holds_68, rfl⟩, rfl⟩, ⟨⟨dX12_holds_71, rfl⟩, rfl⟩, ⟨⟨dX12_holds_72, rfl⟩, Or.inl ⟨by decide, _, _, fX12_27⟩⟩, ⟨⟨dX12_holds_75, rfl⟩, rfl⟩, ⟨⟨dX12_holds_76, rfl⟩, Or.inl ⟨rfl, _, my_116, sX12_140⟩⟩, ⟨⟨dX12_holds_79, rfl⟩, rfl⟩, ⟨⟨dX12_holds_81, rfl⟩, trivial⟩, trivial⟩,
  ⟨⟨⟨dX12_holds_82, rfl⟩, rfl⟩, ⟨⟨dX12_holds_83, rfl⟩, rfl⟩, ⟨⟨dX12_holds_85, rfl⟩, trivial⟩, ⟨⟨dX12_holds_86, rfl⟩, trivial⟩, ⟨⟨dX12_holds_87, rfl⟩, rfl⟩, ⟨⟨dX12_holds_88, rfl⟩, trivial⟩, ⟨⟨dX12_holds_89, rfl⟩, trivial⟩, ⟨⟨dX12_holds_90, rfl⟩, trivial⟩, ⟨⟨dX12_holds_91, rfl⟩, rfl⟩, ⟨⟨dX12_holds_94, rfl⟩, rfl⟩, ⟨⟨dX12_holds_95, rfl⟩, Or.inl ⟨by decide, _, _, fX12_49⟩⟩, ⟨⟨dX12_holds_98, rfl⟩, rfl⟩, ⟨⟨dX12_holds_100, rfl⟩, trivial⟩, ⟨⟨dX12_holds_101, rfl⟩, trivial⟩, ⟨⟨dX12_holds_102, rfl⟩, ⟨rfl, rfl⟩⟩, ⟨⟨dX12_holds_105, rfl⟩, rfl⟩, ⟨⟨dX12_holds_108, rfl⟩, rfl⟩, ⟨⟨dX12_holds_110, rfl⟩, rfl⟩, ⟨⟨dX12_holds_112, rfl⟩, rfl⟩, ⟨⟨dX12_holds_115, rfl⟩, rfl⟩, ⟨⟨dX12_holds_116, rfl⟩, Or.inl ⟨by decide, _, _, fX12_45⟩⟩, ⟨⟨dX12_holds_119, rfl⟩, rfl⟩, ⟨⟨dX12_holds_121, rfl⟩, rfl⟩, ⟨⟨dX12_holds_122, rfl⟩, trivial⟩, trivial⟩,
  ⟨⟨⟨dX12_holds_123, rfl⟩, rfl⟩, ⟨⟨dX12_holds_124, rfl⟩, rfl⟩, ⟨⟨dX12_holds_125, rfl⟩, Or.inl ⟨by decide, _, _, fX12_45⟩⟩, ⟨⟨dX12_holds_128, rfl⟩, rfl⟩, ⟨⟨dX12_holds_130, rfl⟩, rfl⟩, ⟨⟨dX12_holds_131, rfl⟩, trivial⟩, ⟨⟨dX12_holds_132, rfl⟩, trivial⟩, ⟨⟨dX12_holds_133, rfl⟩, trivial⟩, ⟨⟨dX12_holds_134, rfl⟩, trivial⟩, ⟨⟨dX12_holds_135, rfl⟩, rfl⟩, ⟨⟨dX12_holds_138, rfl⟩, ⟨rfl, rfl⟩⟩, ⟨⟨dX12_holds_141, rfl⟩, rfl⟩, ⟨⟨dX12_holds_142, rfl⟩, Or.inl ⟨by decide, _, _, fX12_45⟩⟩, ⟨⟨dX12_holds_145, rfl⟩, rfl⟩, ⟨⟨dX12_holds_147, rfl⟩, rfl⟩, ⟨⟨dX12_holds_148, rfl⟩, trivial⟩, ⟨⟨dX12_holds_149, rfl⟩, trivial⟩, ⟨⟨dX12_holds_150, rfl⟩, ⟨rfl, rfl⟩⟩, ⟨⟨dX12_holds_152, rfl⟩, rfl⟩, ⟨⟨dX12_holds_153, rfl⟩, Or.inl ⟨by decide, _, _, fX12_45⟩⟩, ⟨⟨dX12_holds_156, rfl⟩, rfl⟩, ⟨⟨dX12_holds_158, rfl⟩, trivial⟩, ⟨⟨dX12_holds_159, rfl⟩, ⟨rfl, rfl⟩⟩, ⟨⟨dX12_holds_161, rfl⟩, rfl⟩, trivial⟩,
  ⟨⟨⟨dX12_holds_162, rfl⟩, Or.inl ⟨by decide, _, _, fX12_45⟩⟩, ⟨⟨dX12_holds_165, rfl⟩, rfl⟩, ⟨⟨dX12_holds_167, rfl⟩, rfl⟩, ⟨⟨dX12_holds_168, rfl⟩, trivial⟩, ⟨⟨dX12_holds_169, rfl⟩, rfl⟩, ⟨⟨dX12_holds_171, rfl⟩, rfl⟩, ⟨⟨dX12_holds_173, rfl⟩, rfl⟩, ⟨⟨dX12_holds_176, rfl⟩, rfl⟩, ⟨⟨dX12_holds_178, rfl⟩, rfl⟩, ⟨⟨dX12_holds_180, rfl⟩, trivial⟩, ⟨⟨dX12_holds_181, rfl⟩, rfl⟩, ⟨⟨dX12_holds_184, rfl⟩, rfl⟩, ⟨⟨dX12_holds_186, rfl⟩, rfl⟩, ⟨⟨dX12_holds_188, rfl⟩, rfl⟩, ⟨⟨dX12_holds_191, rfl⟩, rfl⟩, ⟨⟨dX12_holds_193, rfl⟩, rfl⟩, ⟨⟨dX12_holds_195, rfl⟩, trivial⟩, ⟨⟨dX12_holds_196, rfl⟩, rfl⟩, ⟨⟨dX12_holds_199, rfl⟩, rfl⟩, ⟨⟨dX12_holds_200, rfl⟩, rfl⟩, ⟨⟨dX12_holds_203, rfl⟩, rfl⟩, ⟨⟨dX12_holds_204, rfl⟩, rfl⟩, ⟨⟨dX12_holds_207, rfl⟩, rfl⟩, ⟨⟨dX12_holds_209, rfl⟩, rfl⟩, trivial⟩,
  ⟨⟨⟨dX12_holds_211, rfl⟩, rfl⟩, ⟨⟨dX12_holds_214, rfl⟩, rfl⟩, ⟨⟨dX12_holds_216, rfl⟩, rfl⟩, ⟨⟨dX12_holds_218, rfl⟩, trivial⟩, ⟨⟨dX12_holds_219, rfl⟩, rfl⟩, ⟨⟨dX12_holds_222, rfl⟩, rfl⟩, ⟨⟨dX12_holds_223, rfl⟩, rfl⟩, ⟨⟨dX12_holds_226, rfl⟩, rfl⟩, ⟨⟨dX12_holds_227, rfl⟩, rfl⟩, ⟨⟨dX12_holds_230, rfl⟩, rfl⟩, ⟨⟨dX12_holds_232, rfl⟩, rfl⟩, ⟨⟨dX12_holds_234, rfl⟩, rfl⟩, ⟨⟨dX12_holds_237, rfl⟩, rfl⟩, ⟨⟨dX12_holds_239, rfl⟩, rfl⟩, ⟨⟨dX12_holds_241, rfl⟩, trivial⟩, ⟨⟨dX12_holds_242, rfl⟩, rfl⟩, ⟨⟨dX12_holds_245, rfl⟩, rfl⟩, ⟨⟨dX12_holds_247, rfl⟩, rfl⟩, ⟨⟨dX12_holds_249, rfl⟩, Or.inr (Or.inr (Or.inr (Or.inr (Or.inr (Or.inr (Or.inl ⟨rfl, sX12_17⟩))))))⟩, ⟨⟨dX12_holds_252, rfl⟩, trivial⟩, ⟨⟨dX12_holds_253, rfl⟩, ⟨rfl, rfl⟩⟩, ⟨⟨dX12_holds_256, rfl⟩, rfl⟩, ⟨⟨dX12_holds_259, rfl⟩, rfl⟩, ⟨⟨dX12_holds_261, rfl⟩, rfl⟩, trivial⟩,
  ⟨⟨⟨dX12_holds_264, rfl⟩, rfl⟩, ⟨⟨dX12_holds_265, rfl⟩, Or.inl ⟨by decide, _, _, fX12_45⟩⟩, ⟨⟨dX12_holds_268, rfl⟩, rfl⟩, ⟨⟨dX12_holds_269, rfl⟩, trivial⟩, ⟨⟨dX12_holds_270, rfl⟩, rfl⟩, ⟨⟨dX12_holds_271, rfl⟩, trivial⟩, ⟨⟨dX12_holds_272, rfl⟩, rfl⟩, ⟨⟨dX12_holds_275, rfl⟩, rfl⟩, ⟨⟨dX12_holds_276, rfl⟩, rfl⟩, ⟨⟨dX12_holds_279, rfl⟩, rfl⟩, ⟨⟨dX12_holds_280, rfl⟩, Or.inr (Or.inl ⟨rfl, rfl⟩)⟩, trivial⟩, trivial⟩, by decide, Or.inl ⟨rfl, by decide, rfl⟩⟩
set_option maxRecDepth 100000 in
theorem g_X12_holds_0 (S : sT) (call : cT) (n : Nat) (a0 : Nat) (x1 : Int32) (x2 : Int32) (h : pH) : bd S call dflT E_X12_holds (n + 1) 0 [some (.ref a0), some (.int x1), some (.int x2), none, none, none, none, none, none, none, none] [] h = (cI (call 117 [.int x1, .int x2] h) (fun y2 h1 => gV h1 (.ref a0) 15 1 (fun w3 => aI h1 w3 0 (y2 + 4) (fun y4 => bd S call dflT E_X12_holds n 19 [some (.ref a0), some (.int x1), some (.int x2), some (.int y2), some (.int 0), some (.int y4), none, none, none, none, none] [] h1)))) := rfl
set_option maxRecDepth 100000 in
theorem g_X12_holds_19 (S : sT) (call : cT) (n : Nat) (a0 : Nat) (x1 : Int32) (x2 : Int32) (x3 : Int32) (x4 : Int32) (x5 : Int32) (o6 : Option Value) (o7 : Option Value) (o8 : Option Value) (o9 : Option Value) (o10 : Option Value) (h : pH) : bd S call dflT E_X12_holds (n + 1) 19 [some (.ref a0), some (.int x1), some (.int x2), some (.int x3), some (.int x4), some (.int x5), o6, o7, o8, o9, o10] [] h = (gV h (.ref a0) 15 1 (fun w1 => aI h w1 0 (x3 + 5) (fun y2 => (if y2 ≤ x5 then (if x4 = 0 then zR 1 (some (.inl (some (.int 1)), h)) else gV h (.ref a0) 15 13 (fun w3 => aJ h w3 0 (fun y4 => (if (lg_cmp y4 1) = 0 then zR 1 (some (.inl (some (.int 1)), h)) else zR 0 (some (.inl (some (.int 0)), h)))))) else gV h (.ref a0) 15 1 (fun w5 => cI (call 116 [.int x1] h) (fun y7 h6 => aI h6 w5 0 ((y7 + 98) + (2 * x5)) (fun y8 => (if 100 < y8 then (if y8 = 104 then gV h6 (.ref a0) 15 13 (fun w21 => gV h6 (.ref a0) 15 13 (fun w22 => aJ h6 w22 (x4 - 1) (fun y23 => sJ h6 w21 (x4 - 1) (1 - y23) (fun h24 => bd S call dflT E_X12_holds n 19 [some (.ref a0), some (.int x1), some (.int x2), some (.int x3), some (.int x4), some (.int (x5 + 1)), some (.int y8), o7, o8, o9, o10] [] h24)))) else gV h6 (.ref a0) 15 13 (fun w9 => aJ h6 w9 ((x4 + (-1)) - 1) (fun y10 => gV h6 (.ref a0) 15 13 (fun w11 => aJ h6 w11 (x4 + (-1)) (fun y12 => gV h6 (.ref a0) 15 13 (fun w13 => (if y8 = 101 then sJ h6 w13 ((x4 + (-1)) - 1) (y10 + y12) (fun h20 => bd S call dflT E_X12_holds n 19 [some (.ref a0), some (.int x1), some (.int x2), some (.int x3), some (.int (x4 + (-1))), some (.int (x5 + 1)), some (.int y8), some (.long y10), none, some (.long y12), none] [] h20) else (if y8 = 102 then (if 0 ≤ (lg_cmp y10 y12) then sJ h6 w13 ((x4 + (-1)) - 1) 0 (fun h18 => bd S call dflT E_X12_holds n 19 [some (.ref a0), some (.int x1), some (.int x2), some (.int x3), some (.int (x4 + (-1))), some (.int (x5 + 1)), some (.int y8), some (.long y10), none, some (.long y12), none] [] h18) else sJ h6 w13 ((x4 + (-1)) - 1) 1 (fun h19 => bd S call dflT E_X12_holds n 19 [some (.ref a0), some (.int x1), some (.int x2), some (.int x3), some (.int (x4 + (-1))), some (.int (x5 + 1)), some (.int y8), some (.long y10), none, some (.long y12), none] [] h19)) else (if y8 = 103 then (if (lg_cmp y10 y12) ≤ 0 then sJ h6 w13 ((x4 + (-1)) - 1) 0 (fun h16 => bd S call dflT E_X12_holds n 19 [some (.ref a0), some (.int x1), some (.int x2), some (.int x3), some (.int (x4 + (-1))), some (.int (x5 + 1)), some (.int y8), some (.long y10), none, some (.long y12), none] [] h16) else sJ h6 w13 ((x4 + (-1)) - 1) 1 (fun h17 => bd S call dflT E_X12_holds n 19 [some (.ref a0), some (.int x1), some (.int x2), some (.int x3), some (.int (x4 + (-1))), some (.int (x5 + 1)), some (.int y8), some (.long y10), none, some (.long y12), none] [] h17)) else (if y8 = 105 then sJ h6 w13 ((x4 + (-1)) - 1) (y10 * y12) (fun h15 => bd S call dflT E_X12_holds n 19 [some (.ref a0), some (.int x1), some (.int x2), some (.int x3), some (.int (x4 + (-1))), some (.int (x5 + 1)), some (.int y8), some (.long y10), none, some (.long y12), none] [] h15) else sJ h6 w13 ((x4 + (-1)) - 1) (if y12 < y10 then y10 else y12) (fun h14 => bd S call dflT E_X12_holds n 19 [some (.ref a0), some (.int x1), some (.int x2), some (.int x3), some (.int (x4 + (-1))), some (.int (x5 + 1)), some (.int y8), some (.long y10), none, some (.long y12), none] [] h14))))))))))) else gV h6 (.ref a0) 15 13 (fun w25 => (if y8 = 100 then gV h6 (.ref a0) 15 1 (fun w29 => cI (call 116 [.int x1] h6) (fun y31 h30 => aI h30 w29 0 (((y31 + 98) + (2 * x5)) + 1) (fun y32 => sJ h30 w25 x4 y32.toInt64 (fun h33 => bd S call dflT E_X12_holds n 19 [some (.ref a0), some (.int x1), some (.int x2), some (.int x3), some (.int (x4 + 1)), some (.int (x5 + 1)), some (.int y8), o7, o8, o9, o10] [] h33)))) else gV h6 (.ref a0) 15 14 (fun w26 => aJ h6 w26 y8 (fun y27 => sJ h6 w25 x4 y27 (fun h28 => bd S call dflT E_X12_holds n 19 [some (.ref a0), some (.int x1), some (.int x2), some (.int x3), some (.int (x4 + 1)), some (.int (x5 + 1)), some (.int y8), o7, o8, o9, o10] [] h28))))))))))))) := rfl
theorem dX12_rentOf_0 : decode cX12_rentOf 0 = .ok (.aload_n 0, 1) := by decide +kernel
theorem dX12_rentOf_1 : decode cX12_rentOf 1 = .ok (.iconst (-1), 1) := by decide +kernel
theorem dX12_rentOf_2 : decode cX12_rentOf 2 = .ok (.iload_n 1, 1) := by decide +kernel
theorem dX12_rentOf_3 : decode cX12_rentOf 3 = .ok (.invokevirtual 317, 3) := by decide +kernel
theorem dX12_rentOf_6 : decode cX12_rentOf 6 = .ok (.lconst 0, 1) := by decide +kernel
theorem dX12_rentOf_7 : decode cX12_rentOf 7 = .ok (.lstore_n 2, 1) := by decide +kernel
theorem dX12_rentOf_8 : decode cX12_rentOf 8 = .ok (.iconst 0, 1) := by decide +kernel
theorem dX12_rentOf_9 : decode cX12_rentOf 9 = .ok (.istore 4, 2) := by decide +kernel
theorem dX12_rentOf_11 : decode cX12_rentOf 11 = .ok (.iload 4, 2) := by decide +kernel
theorem dX12_rentOf_13 : decode cX12_rentOf 13 = .ok (.aload_n 0, 1) := by decide +kernel
theorem dX12_rentOf_14 : decode cX12_rentOf 14 = .ok (.bipush 12, 2) := by decide +kernel
theorem dX12_rentOf_16 : decode cX12_rentOf 16 = .ok (.iload_n 1, 1) := by decide +kernel
theorem dX12_rentOf_17 : decode cX12_rentOf 17 = .ok (.iadd, 1) := by decide +kernel
theorem dX12_rentOf_18 : decode cX12_rentOf 18 = .ok (.invokevirtual 299, 3) := by decide +kernel
theorem dX12_rentOf_21 : decode cX12_rentOf 21 = .ok (.if_icmp .ge 95, 3) := by decide +kernel
theorem dX12_rentOf_24 : decode cX12_rentOf 24 = .ok (.bipush 12, 2) := by decide +kernel
theorem dX12_rentOf_26 : decode cX12_rentOf 26 = .ok (.iload_n 1, 1) := by decide +kernel
theorem dX12_rentOf_27 : decode cX12_rentOf 27 = .ok (.iadd, 1) := by decide +kernel
theorem dX12_rentOf_28 : decode cX12_rentOf 28 = .ok (.iload 4, 2) := by decide +kernel
theorem dX12_rentOf_30 : decode cX12_rentOf 30 = .ok (.invokestatic 275, 3) := by decide +kernel
theorem dX12_rentOf_33 : decode cX12_rentOf 33 = .ok (.istore 5, 2) := by decide +kernel
theorem dX12_rentOf_35 : decode cX12_rentOf 35 = .ok (.aload_n 0, 1) := by decide +kernel
theorem dX12_rentOf_36 : decode cX12_rentOf 36 = .ok (.getfield 27, 3) := by decide +kernel
theorem dX12_rentOf_39 : decode cX12_rentOf 39 = .ok (.iload 5, 2) := by decide +kernel
theorem dX12_rentOf_41 : decode cX12_rentOf 41 = .ok (.iaload, 1) := by decide +kernel
theorem dX12_rentOf_42 : decode cX12_rentOf 42 = .ok (.ifCond .ne 29, 3) := by decide +kernel
theorem dX12_rentOf_45 : decode cX12_rentOf 45 = .ok (.aload_n 0, 1) := by decide +kernel
theorem dX12_rentOf_46 : decode cX12_rentOf 46 = .ok (.bipush 12, 2) := by decide +kernel
theorem dX12_rentOf_48 : decode cX12_rentOf 48 = .ok (.iload_n 1, 1) := by decide +kernel
theorem dX12_rentOf_49 : decode cX12_rentOf 49 = .ok (.iadd, 1) := by decide +kernel
theorem dX12_rentOf_50 : decode cX12_rentOf 50 = .ok (.iload 4, 2) := by decide +kernel
theorem dX12_rentOf_52 : decode cX12_rentOf 52 = .ok (.invokevirtual 320, 3) := by decide +kernel
theorem dX12_rentOf_55 : decode cX12_rentOf 55 = .ok (.ifCond .eq 16, 3) := by decide +kernel
theorem dX12_rentOf_58 : decode cX12_rentOf 58 = .ok (.lload_n 2, 1) := by decide +kernel
theorem dX12_rentOf_59 : decode cX12_rentOf 59 = .ok (.aload_n 0, 1) := by decide +kernel
theorem dX12_rentOf_60 : decode cX12_rentOf 60 = .ok (.getfield 27, 3) := by decide +kernel
theorem dX12_rentOf_63 : decode cX12_rentOf 63 = .ok (.iload 5, 2) := by decide +kernel
theorem dX12_rentOf_65 : decode cX12_rentOf 65 = .ok (.iconst 1, 1) := by decide +kernel
theorem dX12_rentOf_66 : decode cX12_rentOf 66 = .ok (.iadd, 1) := by decide +kernel
theorem dX12_rentOf_67 : decode cX12_rentOf 67 = .ok (.iaload, 1) := by decide +kernel
theorem dX12_rentOf_68 : decode cX12_rentOf 68 = .ok (.i2l, 1) := by decide +kernel
theorem dX12_rentOf_69 : decode cX12_rentOf 69 = .ok (.ladd, 1) := by decide +kernel
theorem dX12_rentOf_70 : decode cX12_rentOf 70 = .ok (.lstore_n 2, 1) := by decide +kernel
theorem dX12_rentOf_71 : decode cX12_rentOf 71 = .ok (.aload_n 0, 1) := by decide +kernel
theorem dX12_rentOf_72 : decode cX12_rentOf 72 = .ok (.getfield 27, 3) := by decide +kernel
theorem dX12_rentOf_75 : decode cX12_rentOf 75 = .ok (.iload 5, 2) := by decide +kernel
theorem dX12_rentOf_77 : decode cX12_rentOf 77 = .ok (.iaload, 1) := by decide +kernel
theorem dX12_rentOf_78 : decode cX12_rentOf 78 = .ok (.iconst 1, 1) := by decide +kernel
theorem dX12_rentOf_79 : decode cX12_rentOf 79 = .ok (.if_icmp .ne 31, 3) := by decide +kernel
theorem dX12_rentOf_82 : decode cX12_rentOf 82 = .ok (.lload_n 2, 1) := by decide +kernel
theorem dX12_rentOf_83 : decode cX12_rentOf 83 = .ok (.aload_n 0, 1) := by decide +kernel
theorem dX12_rentOf_84 : decode cX12_rentOf 84 = .ok (.getfield 27, 3) := by decide +kernel
theorem dX12_rentOf_87 : decode cX12_rentOf 87 = .ok (.iload 5, 2) := by decide +kernel
theorem dX12_rentOf_89 : decode cX12_rentOf 89 = .ok (.iconst 1, 1) := by decide +kernel
theorem dX12_rentOf_90 : decode cX12_rentOf 90 = .ok (.iadd, 1) := by decide +kernel
theorem dX12_rentOf_91 : decode cX12_rentOf 91 = .ok (.iaload, 1) := by decide +kernel
theorem dX12_rentOf_92 : decode cX12_rentOf 92 = .ok (.i2l, 1) := by decide +kernel
theorem dX12_rentOf_93 : decode cX12_rentOf 93 = .ok (.aload_n 0, 1) := by decide +kernel
theorem dX12_rentOf_94 : decode cX12_rentOf 94 = .ok (.aload_n 0, 1) := by decide +kernel
theorem dX12_rentOf_95 : decode cX12_rentOf 95 = .ok (.getfield 27, 3) := by decide +kernel
theorem dX12_rentOf_98 : decode cX12_rentOf 98 = .ok (.iload 5, 2) := by decide +kernel
theorem dX12_rentOf_100 : decode cX12_rentOf 100 = .ok (.iconst 2, 1) := by decide +kernel
theorem dX12_rentOf_101 : decode cX12_rentOf 101 = .ok (.iadd, 1) := by decide +kernel
theorem dX12_rentOf_102 : decode cX12_rentOf 102 = .ok (.iaload, 1) := by decide +kernel
theorem dX12_rentOf_103 : decode cX12_rentOf 103 = .ok (.invokevirtual 290, 3) := by decide +kernel
theorem dX12_rentOf_106 : decode cX12_rentOf 106 = .ok (.i2l, 1) := by decide +kernel
theorem dX12_rentOf_107 : decode cX12_rentOf 107 = .ok (.lmul, 1) := by decide +kernel
theorem dX12_rentOf_108 : decode cX12_rentOf 108 = .ok (.ladd, 1) := by decide +kernel
theorem dX12_rentOf_109 : decode cX12_rentOf 109 = .ok (.lstore_n 2, 1) := by decide +kernel
theorem dX12_rentOf_110 : decode cX12_rentOf 110 = .ok (.iinc 4 1, 3) := by decide +kernel
theorem dX12_rentOf_113 : decode cX12_rentOf 113 = .ok (.goto (-102), 3) := by decide +kernel
theorem dX12_rentOf_116 : decode cX12_rentOf 116 = .ok (.lload_n 2, 1) := by decide +kernel
theorem dX12_rentOf_117 : decode cX12_rentOf 117 = .ok (.l2i, 1) := by decide +kernel
theorem dX12_rentOf_118 : decode cX12_rentOf 118 = .ok (.ireturn, 1) := by decide +kernel
noncomputable def E_X12_rentOf : mE := (mX12_rentOf, [(39, [(0, (.aload_n 0, 1, false, false, 0, 0, 0, 0, 0, 0, [])), (1, (.iconst (-1), 2, false, false, 0, 0, 0, 0, -1, 0, [])), (2, (.iload_n 1, 3, false, false, 1, 0, 0, 0, 0, 0, [])), (3, (.invokevirtual 317, 6, false, false, 238, 2, 0, 15, 0, 0, [])), (6, (.lconst 0, 7, false, false, 0, 0, 0, 0, 0, 0, [])), (7, (.lstore_n 2, 8, false, false, 2, 3, 0, 0, 0, 0, [])), (8, (.iconst 0, 9, false, false, 0, 0, 0, 0, 0, 0, [])), (9, (.istore 4, 11, true, false, 4, 0, 0, 0, 0, 0, [])), (11, (.iload 4, 13, false, false, 4, 0, 0, 0, 0, 0, [])), (13, (.aload_n 0, 14, false, false, 0, 0, 0, 0, 0, 0, [])), (14, (.bipush 12, 16, false, false, 0, 0, 0, 0, 12, 0, [])), (16, (.iload_n 1, 17, false, false, 1, 0, 0, 0, 0, 0, [])), (17, (.iadd, 18, false, false, 0, 0, 0, 0, 0, 0, [])), (18, (.invokevirtual 299, 21, false, false, 141, 1, 1, 15, 0, 0, [])), (21, (.if_icmp .ge 95, 24, false, false, 116, 0, 0, 0, 0, 0, [])), (24, (.bipush 12, 26, false, false, 0, 0, 0, 0, 12, 0, [])), (26, (.iload_n 1, 27, false, false, 1, 0, 0, 0, 0, 0, [])), (27, (.iadd, 28, false, false, 0, 0, 0, 0, 0, 0, [])), (28, (.iload 4, 30, false, false, 4, 0, 0, 0, 0, 0, [])), (30, (.invokestatic 275, 33, false, false, 117, 2, 1, 0, 0, 0, [])), (33, (.istore 5, 35, false, false, 5, 0, 0, 0, 0, 0, [])), (35, (.aload_n 0, 36, false, false, 0, 0, 0, 0, 0, 0, [])), (36, (.getfield 27, 39, false, false, 15, 1, 1, 0, 0, 0, [])), (39, (.iload 5, 41, false, false, 5, 0, 0, 0, 0, 0, []))]),
  (78, [(41, (.iaload, 42, false, false, 0, 0, 0, 0, 0, 0, [])), (42, (.ifCond .ne 29, 45, false, true, 71, 0, 0, 0, 0, 0, [])), (45, (.aload_n 0, 46, false, false, 0, 0, 0, 0, 0, 0, [])), (46, (.bipush 12, 48, false, false, 0, 0, 0, 0, 12, 0, [])), (48, (.iload_n 1, 49, false, false, 1, 0, 0, 0, 0, 0, [])), (49, (.iadd, 50, false, false, 0, 0, 0, 0, 0, 0, [])), (50, (.iload 4, 52, false, false, 4, 0, 0, 0, 0, 0, [])), (52, (.invokevirtual 320, 55, false, false, 239, 2, 1, 15, 0, 0, [])), (55, (.ifCond .eq 16, 58, false, true, 71, 0, 0, 0, 0, 0, [])), (58, (.lload_n 2, 59, false, false, 2, 0, 0, 0, 0, 0, [])), (59, (.aload_n 0, 60, false, false, 0, 0, 0, 0, 0, 0, [])), (60, (.getfield 27, 63, false, false, 15, 1, 1, 0, 0, 0, [])), (63, (.iload 5, 65, false, false, 5, 0, 0, 0, 0, 0, [])), (65, (.iconst 1, 66, false, false, 0, 0, 0, 0, 1, 0, [])), (66, (.iadd, 67, false, false, 0, 0, 0, 0, 0, 0, [])), (67, (.iaload, 68, false, false, 0, 0, 0, 0, 0, 0, [])), (68, (.i2l, 69, false, false, 0, 0, 0, 0, 0, 0, [])), (69, (.ladd, 70, false, false, 0, 0, 0, 0, 0, 0, [])), (70, (.lstore_n 2, 71, true, false, 2, 3, 0, 0, 0, 0, [])), (71, (.aload_n 0, 72, false, false, 0, 0, 0, 0, 0, 0, [])), (72, (.getfield 27, 75, false, false, 15, 1, 1, 0, 0, 0, [])), (75, (.iload 5, 77, false, false, 5, 0, 0, 0, 0, 0, [])), (77, (.iaload, 78, false, false, 0, 0, 0, 0, 0, 0, [])), (78, (.iconst 1, 79, false, false, 0, 0, 0, 0, 1, 0, []))]),
  (116, [(79, (.if_icmp .ne 31, 82, false, false, 110, 0, 0, 0, 0, 0, [])), (82, (.lload_n 2, 83, false, false, 2, 0, 0, 0, 0, 0, [])), (83, (.aload_n 0, 84, false, false, 0, 0, 0, 0, 0, 0, [])), (84, (.getfield 27, 87, false, false, 15, 1, 1, 0, 0, 0, [])), (87, (.iload 5, 89, false, false, 5, 0, 0, 0, 0, 0, [])), (89, (.iconst 1, 90, false, false, 0, 0, 0, 0, 1, 0, [])), (90, (.iadd, 91, false, false, 0, 0, 0, 0, 0, 0, [])), (91, (.iaload, 92, false, false, 0, 0, 0, 0, 0, 0, [])), (92, (.i2l, 93, false, false, 0, 0, 0, 0, 0, 0, [])), (93, (.aload_n 0, 94, false, false, 0, 0, 0, 0, 0, 0, [])), (94, (.aload_n 0, 95, false, false, 0, 0, 0, 0, 0, 0, [])), (95, (.getfield 27, 98, false, false, 15, 1, 1, 0, 0, 0, [])), (98, (.iload 5, 100, false, false, 5, 0, 0, 0, 0, 0, [])), (100, (.iconst 2, 101, false, false, 0, 0, 0, 0, 2, 0, [])), (101, (.iadd, 102, false, false, 0, 0, 0, 0, 0, 0, [])), (102, (.iaload, 103, false, false, 0, 0, 0, 0, 0, 0, [])), (103, (.invokevirtual 290, 106, false, false, 232, 1, 1, 15, 0, 0, [])), (106, (.i2l, 107, false, false, 0, 0, 0, 0, 0, 0, [])), (107, (.lmul, 108, false, false, 0, 0, 0, 0, 0, 0, [])), (108, (.ladd, 109, false, false, 0, 0, 0, 0, 0, 0, [])), (109, (.lstore_n 2, 110, false, false, 2, 3, 0, 0, 0, 0, [])), (110, (.iinc 4 1, 113, false, false, 4, 0, 0, 0, 1, 0, [])), (113, (.goto (-102), 116, false, true, 11, 0, 0, 0, 0, 0, [])), (116, (.lload_n 2, 117, false, false, 2, 0, 0, 0, 0, 0, []))]),
  (118, [(117, (.l2i, 118, false, false, 0, 0, 0, 0, 0, 0, [])), (118, (.ireturn, 119, false, false, 0, 0, 0, 0, 0, 0, []))])], 0, [])
set_option maxRecDepth 100000 in
theorem v_X12_rentOf : VE MYT dflT E_X12_rentOf := ⟨⟨⟨⟨⟨dX12_rentOf_0, rfl⟩, rfl⟩, ⟨⟨dX12_rentOf_1, rfl⟩, rfl⟩, ⟨⟨dX12_rentOf_2, rfl⟩, rfl⟩, ⟨⟨dX12_rentOf_3, rfl⟩, Or.inr ⟨by decide, ⟨_, my_238, sX12_317⟩, fun q => absurd q (by decide)⟩⟩, ⟨⟨dX12_rentOf_6, rfl⟩, rfl⟩, ⟨⟨dX12_rentOf_7, rfl⟩, ⟨rfl, rfl⟩⟩, ⟨⟨dX12_rentOf_8, rfl⟩, rfl⟩, ⟨⟨dX12_rentOf_9, rfl⟩, rfl⟩, ⟨⟨dX12_rentOf_11, rfl⟩, rfl⟩, ⟨⟨dX12_rentOf_13, rfl⟩, rfl⟩, ⟨⟨dX12_rentOf_14, rfl⟩, rfl⟩, ⟨⟨dX12_rentOf_16, rfl⟩, rfl⟩, ⟨⟨dX12_rentOf_17, rfl⟩, trivial⟩, ⟨⟨dX12_rentOf_18, rfl⟩, Or.inr ⟨by decide, ⟨_, my_141, sX12_299⟩, fun q => absurd q (by decide)⟩⟩, ⟨⟨dX12_rentOf_21, rfl⟩, rfl⟩, ⟨⟨dX12_rentOf_24, rfl⟩, rfl⟩, ⟨⟨dX12_rentOf_26, rfl⟩, rfl⟩, ⟨⟨dX12_rentOf_27, rfl⟩, trivial⟩, ⟨⟨dX12_rentOf_28, rfl⟩, rfl⟩, ⟨⟨dX12_rentOf_30, rfl⟩, Or.inl ⟨rfl, _, my_117, sX12_275⟩⟩, ⟨⟨dX12_rentOf_33, rfl⟩, rfl⟩, ⟨⟨dX12_rentOf_35, rfl⟩, rfl⟩, ⟨⟨dX12_rentOf_36, rfl⟩, Or.inl ⟨by decide, _, _, fX12_27⟩⟩, ⟨⟨dX12_rentOf_39, rfl⟩, rfl⟩, trivial⟩,
  ⟨⟨⟨dX12_rentOf_41, rfl⟩, trivial⟩, ⟨⟨dX12_rentOf_42, rfl⟩, rfl⟩, ⟨⟨dX12_rentOf_45, rfl⟩, rfl⟩, ⟨⟨dX12_rentOf_46, rfl⟩, rfl⟩, ⟨⟨dX12_rentOf_48, rfl⟩, rfl⟩, ⟨⟨dX12_rentOf_49, rfl⟩, trivial⟩, ⟨⟨dX12_rentOf_50, rfl⟩, rfl⟩, ⟨⟨dX12_rentOf_52, rfl⟩, Or.inr ⟨by decide, ⟨_, my_239, sX12_320⟩, fun q => absurd q (by decide)⟩⟩, ⟨⟨dX12_rentOf_55, rfl⟩, rfl⟩, ⟨⟨dX12_rentOf_58, rfl⟩, rfl⟩, ⟨⟨dX12_rentOf_59, rfl⟩, rfl⟩, ⟨⟨dX12_rentOf_60, rfl⟩, Or.inl ⟨by decide, _, _, fX12_27⟩⟩, ⟨⟨dX12_rentOf_63, rfl⟩, rfl⟩, ⟨⟨dX12_rentOf_65, rfl⟩, rfl⟩, ⟨⟨dX12_rentOf_66, rfl⟩, trivial⟩, ⟨⟨dX12_rentOf_67, rfl⟩, trivial⟩, ⟨⟨dX12_rentOf_68, rfl⟩, trivial⟩, ⟨⟨dX12_rentOf_69, rfl⟩, trivial⟩, ⟨⟨dX12_rentOf_70, rfl⟩, ⟨rfl, rfl⟩⟩, ⟨⟨dX12_rentOf_71, rfl⟩, rfl⟩, ⟨⟨dX12_rentOf_72, rfl⟩, Or.inl ⟨by decide, _, _, fX12_27⟩⟩, ⟨⟨dX12_rentOf_75, rfl⟩, rfl⟩, ⟨⟨dX12_rentOf_77, rfl⟩, trivial⟩, ⟨⟨dX12_rentOf_78, rfl⟩, rfl⟩, trivial⟩,
  ⟨⟨⟨dX12_rentOf_79, rfl⟩, rfl⟩, ⟨⟨dX12_rentOf_82, rfl⟩, rfl⟩, ⟨⟨dX12_rentOf_83, rfl⟩, rfl⟩, ⟨⟨dX12_rentOf_84, rfl⟩, Or.inl ⟨by decide, _, _, fX12_27⟩⟩, ⟨⟨dX12_rentOf_87, rfl⟩, rfl⟩, ⟨⟨dX12_rentOf_89, rfl⟩, rfl⟩, ⟨⟨dX12_rentOf_90, rfl⟩, trivial⟩, ⟨⟨dX12_rentOf_91, rfl⟩, trivial⟩, ⟨⟨dX12_rentOf_92, rfl⟩, trivial⟩, ⟨⟨dX12_rentOf_93, rfl⟩, rfl⟩, ⟨⟨dX12_rentOf_94, rfl⟩, rfl⟩, ⟨⟨dX12_rentOf_95, rfl⟩, Or.inl ⟨by decide, _, _, fX12_27⟩⟩, ⟨⟨dX12_rentOf_98, rfl⟩, rfl⟩, ⟨⟨dX12_rentOf_100, rfl⟩, rfl⟩, ⟨⟨dX12_rentOf_101, rfl⟩, trivial⟩, ⟨⟨dX12_rentOf_102, rfl⟩, trivial⟩, ⟨⟨dX12_rentOf_103, rfl⟩, Or.inr ⟨by decide, ⟨_, my_232, sX12_290⟩, fun q => absurd q (by decide)⟩⟩, ⟨⟨dX12_rentOf_106, rfl⟩, trivial⟩, ⟨⟨dX12_rentOf_107, rfl⟩, trivial⟩, ⟨⟨dX12_rentOf_108, rfl⟩, trivial⟩, ⟨⟨dX12_rentOf_109, rfl⟩, ⟨rfl, rfl⟩⟩, ⟨⟨dX12_rentOf_110, rfl⟩, ⟨rfl, rfl⟩⟩, ⟨⟨dX12_rentOf_113, rfl⟩, rfl⟩, ⟨⟨dX12_rentOf_116, rfl⟩, rfl⟩, trivial⟩,
  ⟨⟨⟨dX12_rentOf_117, rfl⟩, trivial⟩, ⟨⟨dX12_rentOf_118, rfl⟩, Or.inl ⟨rfl, rfl⟩⟩, trivial⟩, trivial⟩, by decide, Or.inl ⟨rfl, by decide, rfl⟩⟩
set_option maxRecDepth 100000 in
theorem g_X12_rentOf_0 (S : sT) (call : cT) (n : Nat) (a0 : Nat) (x1 : Int32) (h : pH) : bd S call dflT E_X12_rentOf (n + 1) 0 [some (.ref a0), some (.int x1), none, none, none, none] [] h = (rC h (.ref a0) 15 (cU (call 238 [.ref a0, .int (-1), .int x1] h) (fun h1 => bd S call dflT E_X12_rentOf n 11 [some (.ref a0), some (.int x1), some (.long 0), none, some (.int 0), none] [] h1))) := rfl
set_option maxRecDepth 100000 in
theorem g_X12_rentOf_11 (S : sT) (call : cT) (n : Nat) (a0 : Nat) (x1 : Int32) (j2 : Int64) (x4 : Int32) (o5 : Option Value) (h : pH) : bd S call dflT E_X12_rentOf (n + 1) 11 [some (.ref a0), some (.int x1), some (.long j2), none, some (.int x4), o5] [] h = (rC h (.ref a0) 15 (cI (call 141 [.ref a0, .int (12 + x1)] h) (fun y2 h1 => (if y2 ≤ x4 then some (.inl (some (.int j2.toInt32)), h1) else cI (call 117 [.int (12 + x1), .int x4] h1) (fun y4 h3 => gV h3 (.ref a0) 15 1 (fun w5 => aI h3 w5 0 y4 (fun y6 => (if y6 = 0 then rC h3 (.ref a0) 15 (cI (call 239 [.ref a0, .int (12 + x1), .int x4] h3) (fun y8 h7 => (if y8 = 0 then bd S call dflT E_X12_rentOf n 71 [some (.ref a0), some (.int x1), some (.long j2), none, some (.int x4), some (.int y4)] [] h7 else gV h7 (.ref a0) 15 1 (fun w9 => aI h7 w9 0 (y4 + 1) (fun y10 => bd S call dflT E_X12_rentOf n 71 [some (.ref a0), some (.int x1), some (.long (j2 + y10.toInt64)), none, some (.int x4), some (.int y4)] [] h7))))) else bd S call dflT E_X12_rentOf n 71 [some (.ref a0), some (.int x1), some (.long j2), none, some (.int x4), some (.int y4)] [] h3)))))))) := rfl
set_option maxRecDepth 100000 in
theorem g_X12_rentOf_71 (S : sT) (call : cT) (n : Nat) (a0 : Nat) (x1 : Int32) (j2 : Int64) (x4 : Int32) (x5 : Int32) (h : pH) : bd S call dflT E_X12_rentOf (n + 1) 71 [some (.ref a0), some (.int x1), some (.long j2), none, some (.int x4), some (.int x5)] [] h = (gV h (.ref a0) 15 1 (fun w1 => aI h w1 0 x5 (fun y2 => (if y2 = 1 then gV h (.ref a0) 15 1 (fun w3 => aI h w3 0 (x5 + 1) (fun y4 => gV h (.ref a0) 15 1 (fun w5 => aI h w5 0 (x5 + 2) (fun y6 => rC h (.ref a0) 15 (cI (call 232 [.ref a0, .int y6] h) (fun y8 h7 => bd S call dflT E_X12_rentOf n 11 [some (.ref a0), some (.int x1), some (.long (j2 + (y4.toInt64 * y8.toInt64))), none, some (.int (x4 + 1)), some (.int x5)] [] h7)))))) else bd S call dflT E_X12_rentOf n 11 [some (.ref a0), some (.int x1), some (.long j2), none, some (.int (x4 + 1)), some (.int x5)] [] h)))) := rfl
theorem dX12_rentLess_0 : decode cX12_rentLess 0 = .ok (.iconst 0, 1) := by decide +kernel
theorem dX12_rentLess_1 : decode cX12_rentLess 1 = .ok (.istore_n 2, 1) := by decide +kernel
theorem dX12_rentLess_2 : decode cX12_rentLess 2 = .ok (.iconst 0, 1) := by decide +kernel
theorem dX12_rentLess_3 : decode cX12_rentLess 3 = .ok (.istore_n 3, 1) := by decide +kernel
theorem dX12_rentLess_4 : decode cX12_rentLess 4 = .ok (.iload_n 3, 1) := by decide +kernel
theorem dX12_rentLess_5 : decode cX12_rentLess 5 = .ok (.aload_n 0, 1) := by decide +kernel
theorem dX12_rentLess_6 : decode cX12_rentLess 6 = .ok (.bipush 12, 2) := by decide +kernel
theorem dX12_rentLess_8 : decode cX12_rentLess 8 = .ok (.iload_n 1, 1) := by decide +kernel
theorem dX12_rentLess_9 : decode cX12_rentLess 9 = .ok (.iadd, 1) := by decide +kernel
theorem dX12_rentLess_10 : decode cX12_rentLess 10 = .ok (.invokevirtual 299, 3) := by decide +kernel
theorem dX12_rentLess_13 : decode cX12_rentLess 13 = .ok (.if_icmp .ge 43, 3) := by decide +kernel
theorem dX12_rentLess_16 : decode cX12_rentLess 16 = .ok (.aload_n 0, 1) := by decide +kernel
theorem dX12_rentLess_17 : decode cX12_rentLess 17 = .ok (.getfield 27, 3) := by decide +kernel
theorem dX12_rentLess_20 : decode cX12_rentLess 20 = .ok (.bipush 12, 2) := by decide +kernel
theorem dX12_rentLess_22 : decode cX12_rentLess 22 = .ok (.iload_n 1, 1) := by decide +kernel
theorem dX12_rentLess_23 : decode cX12_rentLess 23 = .ok (.iadd, 1) := by decide +kernel
theorem dX12_rentLess_24 : decode cX12_rentLess 24 = .ok (.iload_n 3, 1) := by decide +kernel
theorem dX12_rentLess_25 : decode cX12_rentLess 25 = .ok (.invokestatic 275, 3) := by decide +kernel
theorem dX12_rentLess_28 : decode cX12_rentLess 28 = .ok (.iaload, 1) := by decide +kernel
theorem dX12_rentLess_29 : decode cX12_rentLess 29 = .ok (.bipush 6, 2) := by decide +kernel
theorem dX12_rentLess_31 : decode cX12_rentLess 31 = .ok (.if_icmp .ne 19, 3) := by decide +kernel
theorem dX12_rentLess_34 : decode cX12_rentLess 34 = .ok (.aload_n 0, 1) := by decide +kernel
theorem dX12_rentLess_35 : decode cX12_rentLess 35 = .ok (.getfield 27, 3) := by decide +kernel
theorem dX12_rentLess_38 : decode cX12_rentLess 38 = .ok (.bipush 12, 2) := by decide +kernel
theorem dX12_rentLess_40 : decode cX12_rentLess 40 = .ok (.iload_n 1, 1) := by decide +kernel
theorem dX12_rentLess_41 : decode cX12_rentLess 41 = .ok (.iadd, 1) := by decide +kernel
theorem dX12_rentLess_42 : decode cX12_rentLess 42 = .ok (.iload_n 3, 1) := by decide +kernel
theorem dX12_rentLess_43 : decode cX12_rentLess 43 = .ok (.invokestatic 275, 3) := by decide +kernel
theorem dX12_rentLess_46 : decode cX12_rentLess 46 = .ok (.iconst 1, 1) := by decide +kernel
theorem dX12_rentLess_47 : decode cX12_rentLess 47 = .ok (.iadd, 1) := by decide +kernel
theorem dX12_rentLess_48 : decode cX12_rentLess 48 = .ok (.iaload, 1) := by decide +kernel
theorem dX12_rentLess_49 : decode cX12_rentLess 49 = .ok (.istore_n 2, 1) := by decide +kernel
theorem dX12_rentLess_50 : decode cX12_rentLess 50 = .ok (.iinc 3 1, 3) := by decide +kernel
theorem dX12_rentLess_53 : decode cX12_rentLess 53 = .ok (.goto (-49), 3) := by decide +kernel
theorem dX12_rentLess_56 : decode cX12_rentLess 56 = .ok (.lconst 0, 1) := by decide +kernel
theorem dX12_rentLess_57 : decode cX12_rentLess 57 = .ok (.lstore_n 3, 1) := by decide +kernel
theorem dX12_rentLess_58 : decode cX12_rentLess 58 = .ok (.iconst 0, 1) := by decide +kernel
theorem dX12_rentLess_59 : decode cX12_rentLess 59 = .ok (.istore 5, 2) := by decide +kernel
theorem dX12_rentLess_61 : decode cX12_rentLess 61 = .ok (.iload 5, 2) := by decide +kernel
theorem dX12_rentLess_63 : decode cX12_rentLess 63 = .ok (.bipush 48, 2) := by decide +kernel
theorem dX12_rentLess_65 : decode cX12_rentLess 65 = .ok (.if_icmp .ge 47, 3) := by decide +kernel
theorem dX12_rentLess_68 : decode cX12_rentLess 68 = .ok (.aload_n 0, 1) := by decide +kernel
theorem dX12_rentLess_69 : decode cX12_rentLess 69 = .ok (.iload 5, 2) := by decide +kernel
theorem dX12_rentLess_71 : decode cX12_rentLess 71 = .ok (.bipush 10, 2) := by decide +kernel
theorem dX12_rentLess_73 : decode cX12_rentLess 73 = .ok (.invokevirtual 79, 3) := by decide +kernel
theorem dX12_rentLess_76 : decode cX12_rentLess 76 = .ok (.iload_n 1, 1) := by decide +kernel
theorem dX12_rentLess_77 : decode cX12_rentLess 77 = .ok (.if_icmp .ne 29, 3) := by decide +kernel
theorem dX12_rentLess_80 : decode cX12_rentLess 80 = .ok (.lload_n 3, 1) := by decide +kernel
theorem dX12_rentLess_81 : decode cX12_rentLess 81 = .ok (.aload_n 0, 1) := by decide +kernel
theorem dX12_rentLess_82 : decode cX12_rentLess 82 = .ok (.iload 5, 2) := by decide +kernel
theorem dX12_rentLess_84 : decode cX12_rentLess 84 = .ok (.bipush 12, 2) := by decide +kernel
theorem dX12_rentLess_86 : decode cX12_rentLess 86 = .ok (.invokevirtual 79, 3) := by decide +kernel
theorem dX12_rentLess_89 : decode cX12_rentLess 89 = .ok (.i2l, 1) := by decide +kernel
theorem dX12_rentLess_90 : decode cX12_rentLess 90 = .ok (.aload_n 0, 1) := by decide +kernel
theorem dX12_rentLess_91 : decode cX12_rentLess 91 = .ok (.aload_n 0, 1) := by decide +kernel
theorem dX12_rentLess_92 : decode cX12_rentLess 92 = .ok (.iload 5, 2) := by decide +kernel
theorem dX12_rentLess_94 : decode cX12_rentLess 94 = .ok (.bipush 13, 2) := by decide +kernel
theorem dX12_rentLess_96 : decode cX12_rentLess 96 = .ok (.invokevirtual 79, 3) := by decide +kernel
theorem dX12_rentLess_99 : decode cX12_rentLess 99 = .ok (.invokevirtual 290, 3) := by decide +kernel
theorem dX12_rentLess_102 : decode cX12_rentLess 102 = .ok (.i2l, 1) := by decide +kernel
theorem dX12_rentLess_103 : decode cX12_rentLess 103 = .ok (.lmul, 1) := by decide +kernel
theorem dX12_rentLess_104 : decode cX12_rentLess 104 = .ok (.ladd, 1) := by decide +kernel
theorem dX12_rentLess_105 : decode cX12_rentLess 105 = .ok (.lstore_n 3, 1) := by decide +kernel
theorem dX12_rentLess_106 : decode cX12_rentLess 106 = .ok (.iinc 5 1, 3) := by decide +kernel
theorem dX12_rentLess_109 : decode cX12_rentLess 109 = .ok (.goto (-48), 3) := by decide +kernel
theorem dX12_rentLess_112 : decode cX12_rentLess 112 = .ok (.lconst 0, 1) := by decide +kernel
theorem dX12_rentLess_113 : decode cX12_rentLess 113 = .ok (.aload_n 0, 1) := by decide +kernel
theorem dX12_rentLess_114 : decode cX12_rentLess 114 = .ok (.iload_n 1, 1) := by decide +kernel
theorem dX12_rentLess_115 : decode cX12_rentLess 115 = .ok (.invokevirtual 395, 3) := by decide +kernel
theorem dX12_rentLess_118 : decode cX12_rentLess 118 = .ok (.i2l, 1) := by decide +kernel
theorem dX12_rentLess_119 : decode cX12_rentLess 119 = .ok (.lload_n 3, 1) := by decide +kernel
theorem dX12_rentLess_120 : decode cX12_rentLess 120 = .ok (.iload_n 2, 1) := by decide +kernel
theorem dX12_rentLess_121 : decode cX12_rentLess 121 = .ok (.i2l, 1) := by decide +kernel
theorem dX12_rentLess_122 : decode cX12_rentLess 122 = .ok (.lmul, 1) := by decide +kernel
theorem dX12_rentLess_123 : decode cX12_rentLess 123 = .ok (.ldc2_w 349, 3) := by decide +kernel
theorem dX12_rentLess_126 : decode cX12_rentLess 126 = .ok (.ldiv, 1) := by decide +kernel
theorem dX12_rentLess_127 : decode cX12_rentLess 127 = .ok (.lsub, 1) := by decide +kernel
theorem dX12_rentLess_128 : decode cX12_rentLess 128 = .ok (.invokestatic 17, 3) := by decide +kernel
theorem dX12_rentLess_131 : decode cX12_rentLess 131 = .ok (.l2i, 1) := by decide +kernel
theorem dX12_rentLess_132 : decode cX12_rentLess 132 = .ok (.ireturn, 1) := by decide +kernel
noncomputable def E_X12_rentLess : mE := (mX12_rentLess, [(38, [(0, (.iconst 0, 1, false, false, 0, 0, 0, 0, 0, 0, [])), (1, (.istore_n 2, 2, false, false, 2, 0, 0, 0, 0, 0, [])), (2, (.iconst 0, 3, false, false, 0, 0, 0, 0, 0, 0, [])), (3, (.istore_n 3, 4, true, false, 3, 0, 0, 0, 0, 0, [])), (4, (.iload_n 3, 5, false, false, 3, 0, 0, 0, 0, 0, [])), (5, (.aload_n 0, 6, false, false, 0, 0, 0, 0, 0, 0, [])), (6, (.bipush 12, 8, false, false, 0, 0, 0, 0, 12, 0, [])), (8, (.iload_n 1, 9, false, false, 1, 0, 0, 0, 0, 0, [])), (9, (.iadd, 10, false, false, 0, 0, 0, 0, 0, 0, [])), (10, (.invokevirtual 299, 13, false, false, 141, 1, 1, 15, 0, 0, [])), (13, (.if_icmp .ge 43, 16, false, false, 56, 0, 0, 0, 0, 0, [])), (16, (.aload_n 0, 17, false, false, 0, 0, 0, 0, 0, 0, [])), (17, (.getfield 27, 20, false, false, 15, 1, 1, 0, 0, 0, [])), (20, (.bipush 12, 22, false, false, 0, 0, 0, 0, 12, 0, [])), (22, (.iload_n 1, 23, false, false, 1, 0, 0, 0, 0, 0, [])), (23, (.iadd, 24, false, false, 0, 0, 0, 0, 0, 0, [])), (24, (.iload_n 3, 25, false, false, 3, 0, 0, 0, 0, 0, [])), (25, (.invokestatic 275, 28, false, false, 117, 2, 1, 0, 0, 0, [])), (28, (.iaload, 29, false, false, 0, 0, 0, 0, 0, 0, [])), (29, (.bipush 6, 31, false, false, 0, 0, 0, 0, 6, 0, [])), (31, (.if_icmp .ne 19, 34, false, false, 50, 0, 0, 0, 0, 0, [])), (34, (.aload_n 0, 35, false, false, 0, 0, 0, 0, 0, 0, [])), (35, (.getfield 27, 38, false, false, 15, 1, 1, 0, 0, 0, [])), (38, (.bipush 12, 40, false, false, 0, 0, 0, 0, 12, 0, []))]),
  (80, [(40, (.iload_n 1, 41, false, false, 1, 0, 0, 0, 0, 0, [])), (41, (.iadd, 42, false, false, 0, 0, 0, 0, 0, 0, [])), (42, (.iload_n 3, 43, false, false, 3, 0, 0, 0, 0, 0, [])), (43, (.invokestatic 275, 46, false, false, 117, 2, 1, 0, 0, 0, [])), (46, (.iconst 1, 47, false, false, 0, 0, 0, 0, 1, 0, [])), (47, (.iadd, 48, false, false, 0, 0, 0, 0, 0, 0, [])), (48, (.iaload, 49, false, false, 0, 0, 0, 0, 0, 0, [])), (49, (.istore_n 2, 50, false, false, 2, 0, 0, 0, 0, 0, [])), (50, (.iinc 3 1, 53, false, false, 3, 0, 0, 0, 1, 0, [])), (53, (.goto (-49), 56, false, true, 4, 0, 0, 0, 0, 0, [])), (56, (.lconst 0, 57, false, false, 0, 0, 0, 0, 0, 0, [])), (57, (.lstore_n 3, 58, false, false, 3, 4, 0, 0, 0, 0, [])), (58, (.iconst 0, 59, false, false, 0, 0, 0, 0, 0, 0, [])), (59, (.istore 5, 61, true, false, 5, 0, 0, 0, 0, 0, [])), (61, (.iload 5, 63, false, false, 5, 0, 0, 0, 0, 0, [])), (63, (.bipush 48, 65, false, false, 0, 0, 0, 0, 48, 0, [])), (65, (.if_icmp .ge 47, 68, false, false, 112, 0, 0, 0, 0, 0, [])), (68, (.aload_n 0, 69, false, false, 0, 0, 0, 0, 0, 0, [])), (69, (.iload 5, 71, false, false, 5, 0, 0, 0, 0, 0, [])), (71, (.bipush 10, 73, false, false, 0, 0, 0, 0, 10, 0, [])), (73, (.invokevirtual 79, 76, false, false, 31, 2, 1, 15, 0, 0, [])), (76, (.iload_n 1, 77, false, false, 1, 0, 0, 0, 0, 0, [])), (77, (.if_icmp .ne 29, 80, false, false, 106, 0, 0, 0, 0, 0, [])), (80, (.lload_n 3, 81, false, false, 3, 0, 0, 0, 0, 0, []))]),
  (120, [(81, (.aload_n 0, 82, false, false, 0, 0, 0, 0, 0, 0, [])), (82, (.iload 5, 84, false, false, 5, 0, 0, 0, 0, 0, [])), (84, (.bipush 12, 86, false, false, 0, 0, 0, 0, 12, 0, [])), (86, (.invokevirtual 79, 89, false, false, 31, 2, 1, 15, 0, 0, [])), (89, (.i2l, 90, false, false, 0, 0, 0, 0, 0, 0, [])), (90, (.aload_n 0, 91, false, false, 0, 0, 0, 0, 0, 0, [])), (91, (.aload_n 0, 92, false, false, 0, 0, 0, 0, 0, 0, [])), (92, (.iload 5, 94, false, false, 5, 0, 0, 0, 0, 0, [])), (94, (.bipush 13, 96, false, false, 0, 0, 0, 0, 13, 0, [])), (96, (.invokevirtual 79, 99, false, false, 31, 2, 1, 15, 0, 0, [])), (99, (.invokevirtual 290, 102, false, false, 232, 1, 1, 15, 0, 0, [])), (102, (.i2l, 103, false, false, 0, 0, 0, 0, 0, 0, [])), (103, (.lmul, 104, false, false, 0, 0, 0, 0, 0, 0, [])), (104, (.ladd, 105, false, false, 0, 0, 0, 0, 0, 0, [])), (105, (.lstore_n 3, 106, false, false, 3, 4, 0, 0, 0, 0, [])), (106, (.iinc 5 1, 109, false, false, 5, 0, 0, 0, 1, 0, [])), (109, (.goto (-48), 112, false, true, 61, 0, 0, 0, 0, 0, [])), (112, (.lconst 0, 113, false, false, 0, 0, 0, 0, 0, 0, [])), (113, (.aload_n 0, 114, false, false, 0, 0, 0, 0, 0, 0, [])), (114, (.iload_n 1, 115, false, false, 1, 0, 0, 0, 0, 0, [])), (115, (.invokevirtual 395, 118, false, false, 240, 1, 1, 15, 0, 0, [])), (118, (.i2l, 119, false, false, 0, 0, 0, 0, 0, 0, [])), (119, (.lload_n 3, 120, false, false, 3, 0, 0, 0, 0, 0, [])), (120, (.iload_n 2, 121, false, false, 2, 0, 0, 0, 0, 0, []))]),
  (132, [(121, (.i2l, 122, false, false, 0, 0, 0, 0, 0, 0, [])), (122, (.lmul, 123, false, false, 0, 0, 0, 0, 0, 0, [])), (123, (.ldc2_w 349, 126, false, false, 0, 0, 0, 0, 0, 100, [])), (126, (.ldiv, 127, false, false, 0, 0, 0, 0, 0, 0, [])), (127, (.lsub, 128, false, false, 0, 0, 0, 0, 0, 0, [])), (128, (.invokestatic 17, 131, false, false, 0, 2, 2, 7, 0, 0, [])), (131, (.l2i, 132, false, false, 0, 0, 0, 0, 0, 0, [])), (132, (.ireturn, 133, false, false, 0, 0, 0, 0, 0, 0, []))])], 0, [])
set_option maxRecDepth 100000 in
theorem v_X12_rentLess : VE MYT dflT E_X12_rentLess := ⟨⟨⟨⟨⟨dX12_rentLess_0, rfl⟩, rfl⟩, ⟨⟨dX12_rentLess_1, rfl⟩, rfl⟩, ⟨⟨dX12_rentLess_2, rfl⟩, rfl⟩, ⟨⟨dX12_rentLess_3, rfl⟩, rfl⟩, ⟨⟨dX12_rentLess_4, rfl⟩, rfl⟩, ⟨⟨dX12_rentLess_5, rfl⟩, rfl⟩, ⟨⟨dX12_rentLess_6, rfl⟩, rfl⟩, ⟨⟨dX12_rentLess_8, rfl⟩, rfl⟩, ⟨⟨dX12_rentLess_9, rfl⟩, trivial⟩, ⟨⟨dX12_rentLess_10, rfl⟩, Or.inr ⟨by decide, ⟨_, my_141, sX12_299⟩, fun q => absurd q (by decide)⟩⟩, ⟨⟨dX12_rentLess_13, rfl⟩, rfl⟩, ⟨⟨dX12_rentLess_16, rfl⟩, rfl⟩, ⟨⟨dX12_rentLess_17, rfl⟩, Or.inl ⟨by decide, _, _, fX12_27⟩⟩, ⟨⟨dX12_rentLess_20, rfl⟩, rfl⟩, ⟨⟨dX12_rentLess_22, rfl⟩, rfl⟩, ⟨⟨dX12_rentLess_23, rfl⟩, trivial⟩, ⟨⟨dX12_rentLess_24, rfl⟩, rfl⟩, ⟨⟨dX12_rentLess_25, rfl⟩, Or.inl ⟨rfl, _, my_117, sX12_275⟩⟩, ⟨⟨dX12_rentLess_28, rfl⟩, trivial⟩, ⟨⟨dX12_rentLess_29, rfl⟩, rfl⟩, ⟨⟨dX12_rentLess_31, rfl⟩, rfl⟩, ⟨⟨dX12_rentLess_34, rfl⟩, rfl⟩, ⟨⟨dX12_rentLess_35, rfl⟩, Or.inl ⟨by decide, _, _, fX12_27⟩⟩, ⟨⟨dX12_rentLess_38, rfl⟩, rfl⟩, trivial⟩,
  ⟨⟨⟨dX12_rentLess_40, rfl⟩, rfl⟩, ⟨⟨dX12_rentLess_41, rfl⟩, trivial⟩, ⟨⟨dX12_rentLess_42, rfl⟩, rfl⟩, ⟨⟨dX12_rentLess_43, rfl⟩, Or.inl ⟨rfl, _, my_117, sX12_275⟩⟩, ⟨⟨dX12_rentLess_46, rfl⟩, rfl⟩, ⟨⟨dX12_rentLess_47, rfl⟩, trivial⟩, ⟨⟨dX12_rentLess_48, rfl⟩, trivial⟩, ⟨⟨dX12_rentLess_49, rfl⟩, rfl⟩, ⟨⟨dX12_rentLess_50, rfl⟩, ⟨rfl, rfl⟩⟩, ⟨⟨dX12_rentLess_53, rfl⟩, rfl⟩, ⟨⟨dX12_rentLess_56, rfl⟩, rfl⟩, ⟨⟨dX12_rentLess_57, rfl⟩, ⟨rfl, rfl⟩⟩, ⟨⟨dX12_rentLess_58, rfl⟩, rfl⟩, ⟨⟨dX12_rentLess_59, rfl⟩, rfl⟩, ⟨⟨dX12_rentLess_61, rfl⟩, rfl⟩, ⟨⟨dX12_rentLess_63, rfl⟩, rfl⟩, ⟨⟨dX12_rentLess_65, rfl⟩, rfl⟩, ⟨⟨dX12_rentLess_68, rfl⟩, rfl⟩, ⟨⟨dX12_rentLess_69, rfl⟩, rfl⟩, ⟨⟨dX12_rentLess_71, rfl⟩, rfl⟩, ⟨⟨dX12_rentLess_73, rfl⟩, Or.inr ⟨by decide, ⟨_, my_31, sX12_79⟩, fun q => absurd q (by decide)⟩⟩, ⟨⟨dX12_rentLess_76, rfl⟩, rfl⟩, ⟨⟨dX12_rentLess_77, rfl⟩, rfl⟩, ⟨⟨dX12_rentLess_80, rfl⟩, rfl⟩, trivial⟩,
  ⟨⟨⟨dX12_rentLess_81, rfl⟩, rfl⟩, ⟨⟨dX12_rentLess_82, rfl⟩, rfl⟩, ⟨⟨dX12_rentLess_84, rfl⟩, rfl⟩, ⟨⟨dX12_rentLess_86, rfl⟩, Or.inr ⟨by decide, ⟨_, my_31, sX12_79⟩, fun q => absurd q (by decide)⟩⟩, ⟨⟨dX12_rentLess_89, rfl⟩, trivial⟩, ⟨⟨dX12_rentLess_90, rfl⟩, rfl⟩, ⟨⟨dX12_rentLess_91, rfl⟩, rfl⟩, ⟨⟨dX12_rentLess_92, rfl⟩, rfl⟩, ⟨⟨dX12_rentLess_94, rfl⟩, rfl⟩, ⟨⟨dX12_rentLess_96, rfl⟩, Or.inr ⟨by decide, ⟨_, my_31, sX12_79⟩, fun q => absurd q (by decide)⟩⟩, ⟨⟨dX12_rentLess_99, rfl⟩, Or.inr ⟨by decide, ⟨_, my_232, sX12_290⟩, fun q => absurd q (by decide)⟩⟩, ⟨⟨dX12_rentLess_102, rfl⟩, trivial⟩, ⟨⟨dX12_rentLess_103, rfl⟩, trivial⟩, ⟨⟨dX12_rentLess_104, rfl⟩, trivial⟩, ⟨⟨dX12_rentLess_105, rfl⟩, ⟨rfl, rfl⟩⟩, ⟨⟨dX12_rentLess_106, rfl⟩, ⟨rfl, rfl⟩⟩, ⟨⟨dX12_rentLess_109, rfl⟩, rfl⟩, ⟨⟨dX12_rentLess_112, rfl⟩, rfl⟩, ⟨⟨dX12_rentLess_113, rfl⟩, rfl⟩, ⟨⟨dX12_rentLess_114, rfl⟩, rfl⟩, ⟨⟨dX12_rentLess_115, rfl⟩, Or.inr ⟨by decide, ⟨_, my_240, sX12_395⟩, fun q => absurd q (by decide)⟩⟩, ⟨⟨dX12_rentLess_118, rfl⟩, trivial⟩, ⟨⟨dX12_rentLess_119, rfl⟩, rfl⟩, ⟨⟨dX12_rentLess_120, rfl⟩, rfl⟩, trivial⟩,
  ⟨⟨⟨dX12_rentLess_121, rfl⟩, trivial⟩, ⟨⟨dX12_rentLess_122, rfl⟩, trivial⟩, ⟨⟨dX12_rentLess_123, rfl⟩, kX12_349⟩, ⟨⟨dX12_rentLess_126, rfl⟩, trivial⟩, ⟨⟨dX12_rentLess_127, rfl⟩, trivial⟩, ⟨⟨dX12_rentLess_128, rfl⟩, Or.inr (Or.inr (Or.inr (Or.inr (Or.inr (Or.inr (Or.inl ⟨rfl, sX12_17⟩))))))⟩, ⟨⟨dX12_rentLess_131, rfl⟩, trivial⟩, ⟨⟨dX12_rentLess_132, rfl⟩, Or.inl ⟨rfl, rfl⟩⟩, trivial⟩, trivial⟩, by decide, Or.inl ⟨rfl, by decide, rfl⟩⟩
set_option maxRecDepth 100000 in
theorem g_X12_rentLess_0 (S : sT) (call : cT) (n : Nat) (a0 : Nat) (x1 : Int32) (h : pH) : bd S call dflT E_X12_rentLess (n + 1) 0 [some (.ref a0), some (.int x1), none, none, none, none] [] h = (bd S call dflT E_X12_rentLess n 4 [some (.ref a0), some (.int x1), some (.int 0), some (.int 0), none, none] [] h) := rfl
set_option maxRecDepth 100000 in
theorem g_X12_rentLess_4 (S : sT) (call : cT) (n : Nat) (a0 : Nat) (x1 : Int32) (x2 : Int32) (x3 : Int32) (o4 : Option Value) (o5 : Option Value) (h : pH) : bd S call dflT E_X12_rentLess (n + 1) 4 [some (.ref a0), some (.int x1), some (.int x2), some (.int x3), o4, o5] [] h = (rC h (.ref a0) 15 (cI (call 141 [.ref a0, .int (12 + x1)] h) (fun y2 h1 => (if y2 ≤ x3 then bd S call dflT E_X12_rentLess n 61 [some (.ref a0), some (.int x1), some (.int x2), some (.long 0), none, some (.int 0)] [] h1 else gV h1 (.ref a0) 15 1 (fun w3 => cI (call 117 [.int (12 + x1), .int x3] h1) (fun y5 h4 => aI h4 w3 0 y5 (fun y6 => (if y6 = 6 then gV h4 (.ref a0) 15 1 (fun w7 => cI (call 117 [.int (12 + x1), .int x3] h4) (fun y9 h8 => aI h8 w7 0 (y9 + 1) (fun y10 => bd S call dflT E_X12_rentLess n 4 [some (.ref a0), some (.int x1), some (.int y10), some (.int (x3 + 1)), o4, o5] [] h8))) else bd S call dflT E_X12_rentLess n 4 [some (.ref a0), some (.int x1), some (.int x2), some (.int (x3 + 1)), o4, o5] [] h4)))))))) := rfl
set_option maxRecDepth 100000 in
theorem g_X12_rentLess_61 (S : sT) (call : cT) (n : Nat) (a0 : Nat) (x1 : Int32) (x2 : Int32) (j3 : Int64) (x5 : Int32) (h : pH) : bd S call dflT E_X12_rentLess (n + 1) 61 [some (.ref a0), some (.int x1), some (.int x2), some (.long j3), none, some (.int x5)] [] h = ((if 48 ≤ x5 then rC h (.ref a0) 15 (cI (call 240 [.ref a0, .int x1] h) (fun y2 h1 => dvJ 100 (some (.inl (some (.int (if (y2.toInt64 - ((j3 * x2.toInt64) / 100)) < (0 : Int64) then (0 : Int64) else (y2.toInt64 - ((j3 * x2.toInt64) / 100))).toInt32)), h1)))) else rC h (.ref a0) 15 (cI (call 31 [.ref a0, .int x5, .int 10] h) (fun y4 h3 => (if y4 = x1 then rC h3 (.ref a0) 15 (cI (call 31 [.ref a0, .int x5, .int 12] h3) (fun y6 h5 => rC h5 (.ref a0) 15 (cI (call 31 [.ref a0, .int x5, .int 13] h5) (fun y8 h7 => rC h7 (.ref a0) 15 (cI (call 232 [.ref a0, .int y8] h7) (fun y10 h9 => bd S call dflT E_X12_rentLess n 61 [some (.ref a0), some (.int x1), some (.int x2), some (.long (j3 + (y6.toInt64 * y10.toInt64))), none, some (.int (x5 + 1))] [] h9)))))) else bd S call dflT E_X12_rentLess n 61 [some (.ref a0), some (.int x1), some (.int x2), some (.long j3), none, some (.int (x5 + 1))] [] h3))))) := rfl
theorem dX12_paysRent_0 : decode cX12_paysRent 0 = .ok (.aload_n 0, 1) := by decide +kernel
theorem dX12_paysRent_1 : decode cX12_paysRent 1 = .ok (.iload_n 1, 1) := by decide +kernel
theorem dX12_paysRent_2 : decode cX12_paysRent 2 = .ok (.invokevirtual 410, 3) := by decide +kernel
theorem dX12_paysRent_5 : decode cX12_paysRent 5 = .ok (.istore_n 2, 1) := by decide +kernel
theorem dX12_paysRent_6 : decode cX12_paysRent 6 = .ok (.aload_n 0, 1) := by decide +kernel
theorem dX12_paysRent_7 : decode cX12_paysRent 7 = .ok (.iconst (-1), 1) := by decide +kernel
theorem dX12_paysRent_8 : decode cX12_paysRent 8 = .ok (.iload_n 1, 1) := by decide +kernel
theorem dX12_paysRent_9 : decode cX12_paysRent 9 = .ok (.invokevirtual 317, 3) := by decide +kernel
theorem dX12_paysRent_12 : decode cX12_paysRent 12 = .ok (.iconst (-1), 1) := by decide +kernel
theorem dX12_paysRent_13 : decode cX12_paysRent 13 = .ok (.istore_n 3, 1) := by decide +kernel
theorem dX12_paysRent_14 : decode cX12_paysRent 14 = .ok (.iconst 0, 1) := by decide +kernel
theorem dX12_paysRent_15 : decode cX12_paysRent 15 = .ok (.istore 4, 2) := by decide +kernel
theorem dX12_paysRent_17 : decode cX12_paysRent 17 = .ok (.iload 4, 2) := by decide +kernel
theorem dX12_paysRent_19 : decode cX12_paysRent 19 = .ok (.aload_n 0, 1) := by decide +kernel
theorem dX12_paysRent_20 : decode cX12_paysRent 20 = .ok (.bipush 12, 2) := by decide +kernel
theorem dX12_paysRent_22 : decode cX12_paysRent 22 = .ok (.iload_n 1, 1) := by decide +kernel
theorem dX12_paysRent_23 : decode cX12_paysRent 23 = .ok (.iadd, 1) := by decide +kernel
theorem dX12_paysRent_24 : decode cX12_paysRent 24 = .ok (.invokevirtual 299, 3) := by decide +kernel
theorem dX12_paysRent_27 : decode cX12_paysRent 27 = .ok (.if_icmp .ge 61, 3) := by decide +kernel
theorem dX12_paysRent_30 : decode cX12_paysRent 30 = .ok (.aload_n 0, 1) := by decide +kernel
theorem dX12_paysRent_31 : decode cX12_paysRent 31 = .ok (.getfield 27, 3) := by decide +kernel
theorem dX12_paysRent_34 : decode cX12_paysRent 34 = .ok (.bipush 12, 2) := by decide +kernel
theorem dX12_paysRent_36 : decode cX12_paysRent 36 = .ok (.iload_n 1, 1) := by decide +kernel
theorem dX12_paysRent_37 : decode cX12_paysRent 37 = .ok (.iadd, 1) := by decide +kernel
theorem dX12_paysRent_38 : decode cX12_paysRent 38 = .ok (.iload 4, 2) := by decide +kernel
theorem dX12_paysRent_40 : decode cX12_paysRent 40 = .ok (.invokestatic 275, 3) := by decide +kernel
theorem dX12_paysRent_43 : decode cX12_paysRent 43 = .ok (.iaload, 1) := by decide +kernel
theorem dX12_paysRent_44 : decode cX12_paysRent 44 = .ok (.iconst 5, 1) := by decide +kernel
theorem dX12_paysRent_45 : decode cX12_paysRent 45 = .ok (.if_icmp .ne 37, 3) := by decide +kernel
theorem dX12_paysRent_48 : decode cX12_paysRent 48 = .ok (.aload_n 0, 1) := by decide +kernel
theorem dX12_paysRent_49 : decode cX12_paysRent 49 = .ok (.bipush 12, 2) := by decide +kernel
theorem dX12_paysRent_51 : decode cX12_paysRent 51 = .ok (.iload_n 1, 1) := by decide +kernel
theorem dX12_paysRent_52 : decode cX12_paysRent 52 = .ok (.iadd, 1) := by decide +kernel
theorem dX12_paysRent_53 : decode cX12_paysRent 53 = .ok (.iload 4, 2) := by decide +kernel
theorem dX12_paysRent_55 : decode cX12_paysRent 55 = .ok (.invokevirtual 320, 3) := by decide +kernel
theorem dX12_paysRent_58 : decode cX12_paysRent 58 = .ok (.ifCond .eq 24, 3) := by decide +kernel
theorem dX12_paysRent_61 : decode cX12_paysRent 61 = .ok (.iload_n 3, 1) := by decide +kernel
theorem dX12_paysRent_62 : decode cX12_paysRent 62 = .ok (.aload_n 0, 1) := by decide +kernel
theorem dX12_paysRent_63 : decode cX12_paysRent 63 = .ok (.getfield 27, 3) := by decide +kernel
theorem dX12_paysRent_66 : decode cX12_paysRent 66 = .ok (.bipush 12, 2) := by decide +kernel
theorem dX12_paysRent_68 : decode cX12_paysRent 68 = .ok (.iload_n 1, 1) := by decide +kernel
theorem dX12_paysRent_69 : decode cX12_paysRent 69 = .ok (.iadd, 1) := by decide +kernel
theorem dX12_paysRent_70 : decode cX12_paysRent 70 = .ok (.iload 4, 2) := by decide +kernel
theorem dX12_paysRent_72 : decode cX12_paysRent 72 = .ok (.invokestatic 275, 3) := by decide +kernel
theorem dX12_paysRent_75 : decode cX12_paysRent 75 = .ok (.iconst 1, 1) := by decide +kernel
theorem dX12_paysRent_76 : decode cX12_paysRent 76 = .ok (.iadd, 1) := by decide +kernel
theorem dX12_paysRent_77 : decode cX12_paysRent 77 = .ok (.iaload, 1) := by decide +kernel
theorem dX12_paysRent_78 : decode cX12_paysRent 78 = .ok (.invokestatic 100, 3) := by decide +kernel
theorem dX12_paysRent_81 : decode cX12_paysRent 81 = .ok (.istore_n 3, 1) := by decide +kernel
theorem dX12_paysRent_82 : decode cX12_paysRent 82 = .ok (.iinc 4 1, 3) := by decide +kernel
theorem dX12_paysRent_85 : decode cX12_paysRent 85 = .ok (.goto (-68), 3) := by decide +kernel
theorem dX12_paysRent_88 : decode cX12_paysRent 88 = .ok (.iload_n 2, 1) := by decide +kernel
theorem dX12_paysRent_89 : decode cX12_paysRent 89 = .ok (.i2l, 1) := by decide +kernel
theorem dX12_paysRent_90 : decode cX12_paysRent 90 = .ok (.lstore 4, 2) := by decide +kernel
theorem dX12_paysRent_92 : decode cX12_paysRent 92 = .ok (.iload_n 3, 1) := by decide +kernel
theorem dX12_paysRent_93 : decode cX12_paysRent 93 = .ok (.ifCond .lt 43, 3) := by decide +kernel
theorem dX12_paysRent_96 : decode cX12_paysRent 96 = .ok (.iload_n 2, 1) := by decide +kernel
theorem dX12_paysRent_97 : decode cX12_paysRent 97 = .ok (.i2l, 1) := by decide +kernel
theorem dX12_paysRent_98 : decode cX12_paysRent 98 = .ok (.iload_n 3, 1) := by decide +kernel
theorem dX12_paysRent_99 : decode cX12_paysRent 99 = .ok (.i2l, 1) := by decide +kernel
theorem dX12_paysRent_100 : decode cX12_paysRent 100 = .ok (.lmul, 1) := by decide +kernel
theorem dX12_paysRent_101 : decode cX12_paysRent 101 = .ok (.ldc2_w 349, 3) := by decide +kernel
theorem dX12_paysRent_104 : decode cX12_paysRent 104 = .ok (.ldiv, 1) := by decide +kernel
theorem dX12_paysRent_105 : decode cX12_paysRent 105 = .ok (.l2i, 1) := by decide +kernel
theorem dX12_paysRent_106 : decode cX12_paysRent 106 = .ok (.istore 6, 2) := by decide +kernel
theorem dX12_paysRent_108 : decode cX12_paysRent 108 = .ok (.lload 4, 2) := by decide +kernel
theorem dX12_paysRent_110 : decode cX12_paysRent 110 = .ok (.iload 6, 2) := by decide +kernel
theorem dX12_paysRent_112 : decode cX12_paysRent 112 = .ok (.i2l, 1) := by decide +kernel
theorem dX12_paysRent_113 : decode cX12_paysRent 113 = .ok (.lsub, 1) := by decide +kernel
theorem dX12_paysRent_114 : decode cX12_paysRent 114 = .ok (.lstore 4, 2) := by decide +kernel
theorem dX12_paysRent_116 : decode cX12_paysRent 116 = .ok (.aload_n 0, 1) := by decide +kernel
theorem dX12_paysRent_117 : decode cX12_paysRent 117 = .ok (.iload_n 1, 1) := by decide +kernel
theorem dX12_paysRent_118 : decode cX12_paysRent 118 = .ok (.iconst 3, 1) := by decide +kernel
theorem dX12_paysRent_119 : decode cX12_paysRent 119 = .ok (.aload_n 0, 1) := by decide +kernel
theorem dX12_paysRent_120 : decode cX12_paysRent 120 = .ok (.iload_n 1, 1) := by decide +kernel
theorem dX12_paysRent_121 : decode cX12_paysRent 121 = .ok (.iconst 3, 1) := by decide +kernel
theorem dX12_paysRent_122 : decode cX12_paysRent 122 = .ok (.invokevirtual 293, 3) := by decide +kernel
theorem dX12_paysRent_125 : decode cX12_paysRent 125 = .ok (.i2l, 1) := by decide +kernel
theorem dX12_paysRent_126 : decode cX12_paysRent 126 = .ok (.iload 6, 2) := by decide +kernel
theorem dX12_paysRent_128 : decode cX12_paysRent 128 = .ok (.i2l, 1) := by decide +kernel
theorem dX12_paysRent_129 : decode cX12_paysRent 129 = .ok (.ladd, 1) := by decide +kernel
theorem dX12_paysRent_130 : decode cX12_paysRent 130 = .ok (.invokevirtual 373, 3) := by decide +kernel
theorem dX12_paysRent_133 : decode cX12_paysRent 133 = .ok (.goto 22, 3) := by decide +kernel
theorem dX12_paysRent_136 : decode cX12_paysRent 136 = .ok (.lload 4, 2) := by decide +kernel
theorem dX12_paysRent_138 : decode cX12_paysRent 138 = .ok (.aload_n 0, 1) := by decide +kernel
theorem dX12_paysRent_139 : decode cX12_paysRent 139 = .ok (.iload_n 1, 1) := by decide +kernel
theorem dX12_paysRent_140 : decode cX12_paysRent 140 = .ok (.iconst 3, 1) := by decide +kernel
theorem dX12_paysRent_141 : decode cX12_paysRent 141 = .ok (.invokevirtual 293, 3) := by decide +kernel
theorem dX12_paysRent_144 : decode cX12_paysRent 144 = .ok (.i2l, 1) := by decide +kernel
theorem dX12_paysRent_145 : decode cX12_paysRent 145 = .ok (.ladd, 1) := by decide +kernel
theorem dX12_paysRent_146 : decode cX12_paysRent 146 = .ok (.lstore 4, 2) := by decide +kernel
theorem dX12_paysRent_148 : decode cX12_paysRent 148 = .ok (.aload_n 0, 1) := by decide +kernel
theorem dX12_paysRent_149 : decode cX12_paysRent 149 = .ok (.iload_n 1, 1) := by decide +kernel
theorem dX12_paysRent_150 : decode cX12_paysRent 150 = .ok (.iconst 3, 1) := by decide +kernel
theorem dX12_paysRent_151 : decode cX12_paysRent 151 = .ok (.lconst 0, 1) := by decide +kernel
theorem dX12_paysRent_152 : decode cX12_paysRent 152 = .ok (.invokevirtual 373, 3) := by decide +kernel
theorem dX12_paysRent_155 : decode cX12_paysRent 155 = .ok (.lload 4, 2) := by decide +kernel
theorem dX12_paysRent_157 : decode cX12_paysRent 157 = .ok (.aload_n 0, 1) := by decide +kernel
theorem dX12_paysRent_158 : decode cX12_paysRent 158 = .ok (.iload_n 1, 1) := by decide +kernel
theorem dX12_paysRent_159 : decode cX12_paysRent 159 = .ok (.iconst 2, 1) := by decide +kernel
theorem dX12_paysRent_160 : decode cX12_paysRent 160 = .ok (.invokevirtual 293, 3) := by decide +kernel
theorem dX12_paysRent_163 : decode cX12_paysRent 163 = .ok (.i2l, 1) := by decide +kernel
theorem dX12_paysRent_164 : decode cX12_paysRent 164 = .ok (.ladd, 1) := by decide +kernel
theorem dX12_paysRent_165 : decode cX12_paysRent 165 = .ok (.lstore 4, 2) := by decide +kernel
theorem dX12_paysRent_167 : decode cX12_paysRent 167 = .ok (.aload_n 0, 1) := by decide +kernel
theorem dX12_paysRent_168 : decode cX12_paysRent 168 = .ok (.iload_n 1, 1) := by decide +kernel
theorem dX12_paysRent_169 : decode cX12_paysRent 169 = .ok (.iconst 1, 1) := by decide +kernel
theorem dX12_paysRent_170 : decode cX12_paysRent 170 = .ok (.invokevirtual 293, 3) := by decide +kernel
theorem dX12_paysRent_173 : decode cX12_paysRent 173 = .ok (.i2l, 1) := by decide +kernel
theorem dX12_paysRent_174 : decode cX12_paysRent 174 = .ok (.lload 4, 2) := by decide +kernel
theorem dX12_paysRent_176 : decode cX12_paysRent 176 = .ok (.invokestatic 11, 3) := by decide +kernel
theorem dX12_paysRent_179 : decode cX12_paysRent 179 = .ok (.l2i, 1) := by decide +kernel
theorem dX12_paysRent_180 : decode cX12_paysRent 180 = .ok (.istore 6, 2) := by decide +kernel
theorem dX12_paysRent_182 : decode cX12_paysRent 182 = .ok (.aload_n 0, 1) := by decide +kernel
theorem dX12_paysRent_183 : decode cX12_paysRent 183 = .ok (.iload_n 1, 1) := by decide +kernel
theorem dX12_paysRent_184 : decode cX12_paysRent 184 = .ok (.iconst 1, 1) := by decide +kernel
theorem dX12_paysRent_185 : decode cX12_paysRent 185 = .ok (.aload_n 0, 1) := by decide +kernel
theorem dX12_paysRent_186 : decode cX12_paysRent 186 = .ok (.iload_n 1, 1) := by decide +kernel
theorem dX12_paysRent_187 : decode cX12_paysRent 187 = .ok (.iconst 1, 1) := by decide +kernel
theorem dX12_paysRent_188 : decode cX12_paysRent 188 = .ok (.invokevirtual 293, 3) := by decide +kernel
theorem dX12_paysRent_191 : decode cX12_paysRent 191 = .ok (.iload 6, 2) := by decide +kernel
theorem dX12_paysRent_193 : decode cX12_paysRent 193 = .ok (.isub, 1) := by decide +kernel
theorem dX12_paysRent_194 : decode cX12_paysRent 194 = .ok (.i2l, 1) := by decide +kernel
theorem dX12_paysRent_195 : decode cX12_paysRent 195 = .ok (.invokevirtual 373, 3) := by decide +kernel
theorem dX12_paysRent_198 : decode cX12_paysRent 198 = .ok (.aload_n 0, 1) := by decide +kernel
theorem dX12_paysRent_199 : decode cX12_paysRent 199 = .ok (.iload_n 1, 1) := by decide +kernel
theorem dX12_paysRent_200 : decode cX12_paysRent 200 = .ok (.iconst 2, 1) := by decide +kernel
theorem dX12_paysRent_201 : decode cX12_paysRent 201 = .ok (.lload 4, 2) := by decide +kernel
theorem dX12_paysRent_203 : decode cX12_paysRent 203 = .ok (.iload 6, 2) := by decide +kernel
theorem dX12_paysRent_205 : decode cX12_paysRent 205 = .ok (.i2l, 1) := by decide +kernel
theorem dX12_paysRent_206 : decode cX12_paysRent 206 = .ok (.lsub, 1) := by decide +kernel
theorem dX12_paysRent_207 : decode cX12_paysRent 207 = .ok (.invokevirtual 373, 3) := by decide +kernel
theorem dX12_paysRent_210 : decode cX12_paysRent 210 = .ok (.aload_n 0, 1) := by decide +kernel
theorem dX12_paysRent_211 : decode cX12_paysRent 211 = .ok (.iload_n 1, 1) := by decide +kernel
theorem dX12_paysRent_212 : decode cX12_paysRent 212 = .ok (.iconst 5, 1) := by decide +kernel
theorem dX12_paysRent_213 : decode cX12_paysRent 213 = .ok (.aload_n 0, 1) := by decide +kernel
theorem dX12_paysRent_214 : decode cX12_paysRent 214 = .ok (.iload_n 1, 1) := by decide +kernel
theorem dX12_paysRent_215 : decode cX12_paysRent 215 = .ok (.iconst 5, 1) := by decide +kernel
theorem dX12_paysRent_216 : decode cX12_paysRent 216 = .ok (.invokevirtual 293, 3) := by decide +kernel
theorem dX12_paysRent_219 : decode cX12_paysRent 219 = .ok (.i2l, 1) := by decide +kernel
theorem dX12_paysRent_220 : decode cX12_paysRent 220 = .ok (.iload 6, 2) := by decide +kernel
theorem dX12_paysRent_222 : decode cX12_paysRent 222 = .ok (.i2l, 1) := by decide +kernel
theorem dX12_paysRent_223 : decode cX12_paysRent 223 = .ok (.ladd, 1) := by decide +kernel
theorem dX12_paysRent_224 : decode cX12_paysRent 224 = .ok (.invokevirtual 373, 3) := by decide +kernel
theorem dX12_paysRent_227 : decode cX12_paysRent 227 = .ok (.aload_n 0, 1) := by decide +kernel
theorem dX12_paysRent_228 : decode cX12_paysRent 228 = .ok (.iload 6, 2) := by decide +kernel
theorem dX12_paysRent_230 : decode cX12_paysRent 230 = .ok (.i2l, 1) := by decide +kernel
theorem dX12_paysRent_231 : decode cX12_paysRent 231 = .ok (.invokevirtual 355, 3) := by decide +kernel
theorem dX12_paysRent_234 : decode cX12_paysRent 234 = .ok (.return_, 1) := by decide +kernel
noncomputable def E_X12_paysRent : mE := (mX12_paysRent, [(37, [(0, (.aload_n 0, 1, false, false, 0, 0, 0, 0, 0, 0, [])), (1, (.iload_n 1, 2, false, false, 1, 0, 0, 0, 0, 0, [])), (2, (.invokevirtual 410, 5, false, false, 241, 1, 1, 15, 0, 0, [])), (5, (.istore_n 2, 6, false, false, 2, 0, 0, 0, 0, 0, [])), (6, (.aload_n 0, 7, false, false, 0, 0, 0, 0, 0, 0, [])), (7, (.iconst (-1), 8, false, false, 0, 0, 0, 0, -1, 0, [])), (8, (.iload_n 1, 9, false, false, 1, 0, 0, 0, 0, 0, [])), (9, (.invokevirtual 317, 12, false, false, 238, 2, 0, 15, 0, 0, [])), (12, (.iconst (-1), 13, false, false, 0, 0, 0, 0, -1, 0, [])), (13, (.istore_n 3, 14, false, false, 3, 0, 0, 0, 0, 0, [])), (14, (.iconst 0, 15, false, false, 0, 0, 0, 0, 0, 0, [])), (15, (.istore 4, 17, true, false, 4, 0, 0, 0, 0, 0, [])), (17, (.iload 4, 19, false, false, 4, 0, 0, 0, 0, 0, [])), (19, (.aload_n 0, 20, false, false, 0, 0, 0, 0, 0, 0, [])), (20, (.bipush 12, 22, false, false, 0, 0, 0, 0, 12, 0, [])), (22, (.iload_n 1, 23, false, false, 1, 0, 0, 0, 0, 0, [])), (23, (.iadd, 24, false, false, 0, 0, 0, 0, 0, 0, [])), (24, (.invokevirtual 299, 27, false, false, 141, 1, 1, 15, 0, 0, [])), (27, (.if_icmp .ge 61, 30, false, false, 88, 0, 0, 0, 0, 0, [])), (30, (.aload_n 0, 31, false, false, 0, 0, 0, 0, 0, 0, [])), (31, (.getfield 27, 34, false, false, 15, 1, 1, 0, 0, 0, [])), (34, (.bipush 12, 36, false, false, 0, 0, 0, 0, 12, 0, [])), (36, (.iload_n 1, 37, false, false, 1, 0, 0, 0, 0, 0, [])), (37, (.iadd, 38, false, false, 0, 0, 0, 0, 0, 0, []))]),
  (78, [(38, (.iload 4, 40, false, false, 4, 0, 0, 0, 0, 0, [])), (40, (.invokestatic 275, 43, false, false, 117, 2, 1, 0, 0, 0, [])), (43, (.iaload, 44, false, false, 0, 0, 0, 0, 0, 0, [])), (44, (.iconst 5, 45, false, false, 0, 0, 0, 0, 5, 0, [])), (45, (.if_icmp .ne 37, 48, false, false, 82, 0, 0, 0, 0, 0, [])), (48, (.aload_n 0, 49, false, false, 0, 0, 0, 0, 0, 0, [])), (49, (.bipush 12, 51, false, false, 0, 0, 0, 0, 12, 0, [])), (51, (.iload_n 1, 52, false, false, 1, 0, 0, 0, 0, 0, [])), (52, (.iadd, 53, false, false, 0, 0, 0, 0, 0, 0, [])), (53, (.iload 4, 55, false, false, 4, 0, 0, 0, 0, 0, [])), (55, (.invokevirtual 320, 58, false, false, 239, 2, 1, 15, 0, 0, [])), (58, (.ifCond .eq 24, 61, false, false, 82, 0, 0, 0, 0, 0, [])), (61, (.iload_n 3, 62, false, false, 3, 0, 0, 0, 0, 0, [])), (62, (.aload_n 0, 63, false, false, 0, 0, 0, 0, 0, 0, [])), (63, (.getfield 27, 66, false, false, 15, 1, 1, 0, 0, 0, [])), (66, (.bipush 12, 68, false, false, 0, 0, 0, 0, 12, 0, [])), (68, (.iload_n 1, 69, false, false, 1, 0, 0, 0, 0, 0, [])), (69, (.iadd, 70, false, false, 0, 0, 0, 0, 0, 0, [])), (70, (.iload 4, 72, false, false, 4, 0, 0, 0, 0, 0, [])), (72, (.invokestatic 275, 75, false, false, 117, 2, 1, 0, 0, 0, [])), (75, (.iconst 1, 76, false, false, 0, 0, 0, 0, 1, 0, [])), (76, (.iadd, 77, false, false, 0, 0, 0, 0, 0, 0, [])), (77, (.iaload, 78, false, false, 0, 0, 0, 0, 0, 0, [])), (78, (.invokestatic 100, 81, false, false, 0, 2, 1, 5, 0, 0, []))]),
  (117, [(81, (.istore_n 3, 82, false, false, 3, 0, 0, 0, 0, 0, [])), (82, (.iinc 4 1, 85, false, false, 4, 0, 0, 0, 1, 0, [])), (85, (.goto (-68), 88, false, true, 17, 0, 0, 0, 0, 0, [])), (88, (.iload_n 2, 89, false, false, 2, 0, 0, 0, 0, 0, [])), (89, (.i2l, 90, false, false, 0, 0, 0, 0, 0, 0, [])), (90, (.lstore 4, 92, false, false, 4, 5, 0, 0, 0, 0, [])), (92, (.iload_n 3, 93, false, false, 3, 0, 0, 0, 0, 0, [])), (93, (.ifCond .lt 43, 96, false, false, 136, 0, 0, 0, 0, 0, [])), (96, (.iload_n 2, 97, false, false, 2, 0, 0, 0, 0, 0, [])), (97, (.i2l, 98, false, false, 0, 0, 0, 0, 0, 0, [])), (98, (.iload_n 3, 99, false, false, 3, 0, 0, 0, 0, 0, [])), (99, (.i2l, 100, false, false, 0, 0, 0, 0, 0, 0, [])), (100, (.lmul, 101, false, false, 0, 0, 0, 0, 0, 0, [])), (101, (.ldc2_w 349, 104, false, false, 0, 0, 0, 0, 0, 100, [])), (104, (.ldiv, 105, false, false, 0, 0, 0, 0, 0, 0, [])), (105, (.l2i, 106, false, false, 0, 0, 0, 0, 0, 0, [])), (106, (.istore 6, 108, false, false, 6, 0, 0, 0, 0, 0, [])), (108, (.lload 4, 110, false, false, 4, 0, 0, 0, 0, 0, [])), (110, (.iload 6, 112, false, false, 6, 0, 0, 0, 0, 0, [])), (112, (.i2l, 113, false, false, 0, 0, 0, 0, 0, 0, [])), (113, (.lsub, 114, false, false, 0, 0, 0, 0, 0, 0, [])), (114, (.lstore 4, 116, false, false, 4, 5, 0, 0, 0, 0, [])), (116, (.aload_n 0, 117, false, false, 0, 0, 0, 0, 0, 0, [])), (117, (.iload_n 1, 118, false, false, 1, 0, 0, 0, 0, 0, []))]),
  (152, [(118, (.iconst 3, 119, false, false, 0, 0, 0, 0, 3, 0, [])), (119, (.aload_n 0, 120, false, false, 0, 0, 0, 0, 0, 0, [])), (120, (.iload_n 1, 121, false, false, 1, 0, 0, 0, 0, 0, [])), (121, (.iconst 3, 122, false, false, 0, 0, 0, 0, 3, 0, [])), (122, (.invokevirtual 293, 125, false, false, 165, 2, 1, 15, 0, 0, [])), (125, (.i2l, 126, false, false, 0, 0, 0, 0, 0, 0, [])), (126, (.iload 6, 128, false, false, 6, 0, 0, 0, 0, 0, [])), (128, (.i2l, 129, false, false, 0, 0, 0, 0, 0, 0, [])), (129, (.ladd, 130, false, false, 0, 0, 0, 0, 0, 0, [])), (130, (.invokevirtual 373, 133, false, false, 151, 3, 0, 15, 0, 0, [])), (133, (.goto 22, 136, false, true, 155, 0, 0, 0, 0, 0, [])), (136, (.lload 4, 138, false, false, 4, 0, 0, 0, 0, 0, [])), (138, (.aload_n 0, 139, false, false, 0, 0, 0, 0, 0, 0, [])), (139, (.iload_n 1, 140, false, false, 1, 0, 0, 0, 0, 0, [])), (140, (.iconst 3, 141, false, false, 0, 0, 0, 0, 3, 0, [])), (141, (.invokevirtual 293, 144, false, false, 165, 2, 1, 15, 0, 0, [])), (144, (.i2l, 145, false, false, 0, 0, 0, 0, 0, 0, [])), (145, (.ladd, 146, false, false, 0, 0, 0, 0, 0, 0, [])), (146, (.lstore 4, 148, false, false, 4, 5, 0, 0, 0, 0, [])), (148, (.aload_n 0, 149, false, false, 0, 0, 0, 0, 0, 0, [])), (149, (.iload_n 1, 150, false, false, 1, 0, 0, 0, 0, 0, [])), (150, (.iconst 3, 151, false, false, 0, 0, 0, 0, 3, 0, [])), (151, (.lconst 0, 152, false, false, 0, 0, 0, 0, 0, 0, [])), (152, (.invokevirtual 373, 155, true, false, 151, 3, 0, 15, 0, 0, []))]),
  (188, [(155, (.lload 4, 157, false, false, 4, 0, 0, 0, 0, 0, [])), (157, (.aload_n 0, 158, false, false, 0, 0, 0, 0, 0, 0, [])), (158, (.iload_n 1, 159, false, false, 1, 0, 0, 0, 0, 0, [])), (159, (.iconst 2, 160, false, false, 0, 0, 0, 0, 2, 0, [])), (160, (.invokevirtual 293, 163, false, false, 165, 2, 1, 15, 0, 0, [])), (163, (.i2l, 164, false, false, 0, 0, 0, 0, 0, 0, [])), (164, (.ladd, 165, false, false, 0, 0, 0, 0, 0, 0, [])), (165, (.lstore 4, 167, false, false, 4, 5, 0, 0, 0, 0, [])), (167, (.aload_n 0, 168, false, false, 0, 0, 0, 0, 0, 0, [])), (168, (.iload_n 1, 169, false, false, 1, 0, 0, 0, 0, 0, [])), (169, (.iconst 1, 170, false, false, 0, 0, 0, 0, 1, 0, [])), (170, (.invokevirtual 293, 173, false, false, 165, 2, 1, 15, 0, 0, [])), (173, (.i2l, 174, false, false, 0, 0, 0, 0, 0, 0, [])), (174, (.lload 4, 176, false, false, 4, 0, 0, 0, 0, 0, [])), (176, (.invokestatic 11, 179, false, false, 0, 2, 2, 8, 0, 0, [])), (179, (.l2i, 180, false, false, 0, 0, 0, 0, 0, 0, [])), (180, (.istore 6, 182, false, false, 6, 0, 0, 0, 0, 0, [])), (182, (.aload_n 0, 183, false, false, 0, 0, 0, 0, 0, 0, [])), (183, (.iload_n 1, 184, false, false, 1, 0, 0, 0, 0, 0, [])), (184, (.iconst 1, 185, false, false, 0, 0, 0, 0, 1, 0, [])), (185, (.aload_n 0, 186, false, false, 0, 0, 0, 0, 0, 0, [])), (186, (.iload_n 1, 187, false, false, 1, 0, 0, 0, 0, 0, [])), (187, (.iconst 1, 188, false, false, 0, 0, 0, 0, 1, 0, [])), (188, (.invokevirtual 293, 191, false, false, 165, 2, 1, 15, 0, 0, []))]),
  (224, [(191, (.iload 6, 193, false, false, 6, 0, 0, 0, 0, 0, [])), (193, (.isub, 194, false, false, 0, 0, 0, 0, 0, 0, [])), (194, (.i2l, 195, false, false, 0, 0, 0, 0, 0, 0, [])), (195, (.invokevirtual 373, 198, false, false, 151, 3, 0, 15, 0, 0, [])), (198, (.aload_n 0, 199, false, false, 0, 0, 0, 0, 0, 0, [])), (199, (.iload_n 1, 200, false, false, 1, 0, 0, 0, 0, 0, [])), (200, (.iconst 2, 201, false, false, 0, 0, 0, 0, 2, 0, [])), (201, (.lload 4, 203, false, false, 4, 0, 0, 0, 0, 0, [])), (203, (.iload 6, 205, false, false, 6, 0, 0, 0, 0, 0, [])), (205, (.i2l, 206, false, false, 0, 0, 0, 0, 0, 0, [])), (206, (.lsub, 207, false, false, 0, 0, 0, 0, 0, 0, [])), (207, (.invokevirtual 373, 210, false, false, 151, 3, 0, 15, 0, 0, [])), (210, (.aload_n 0, 211, false, false, 0, 0, 0, 0, 0, 0, [])), (211, (.iload_n 1, 212, false, false, 1, 0, 0, 0, 0, 0, [])), (212, (.iconst 5, 213, false, false, 0, 0, 0, 0, 5, 0, [])), (213, (.aload_n 0, 214, false, false, 0, 0, 0, 0, 0, 0, [])), (214, (.iload_n 1, 215, false, false, 1, 0, 0, 0, 0, 0, [])), (215, (.iconst 5, 216, false, false, 0, 0, 0, 0, 5, 0, [])), (216, (.invokevirtual 293, 219, false, false, 165, 2, 1, 15, 0, 0, [])), (219, (.i2l, 220, false, false, 0, 0, 0, 0, 0, 0, [])), (220, (.iload 6, 222, false, false, 6, 0, 0, 0, 0, 0, [])), (222, (.i2l, 223, false, false, 0, 0, 0, 0, 0, 0, [])), (223, (.ladd, 224, false, false, 0, 0, 0, 0, 0, 0, [])), (224, (.invokevirtual 373, 227, false, false, 151, 3, 0, 15, 0, 0, []))]),
  (234, [(227, (.aload_n 0, 228, false, false, 0, 0, 0, 0, 0, 0, [])), (228, (.iload 6, 230, false, false, 6, 0, 0, 0, 0, 0, [])), (230, (.i2l, 231, false, false, 0, 0, 0, 0, 0, 0, [])), (231, (.invokevirtual 355, 234, false, false, 235, 1, 0, 15, 0, 0, [])), (234, (.return_, 235, false, false, 0, 0, 0, 0, 0, 0, []))])], 0, [])
set_option maxRecDepth 100000 in
theorem v_X12_paysRent : VE MYT dflT E_X12_paysRent := ⟨⟨⟨⟨⟨dX12_paysRent_0, rfl⟩, rfl⟩, ⟨⟨dX12_paysRent_1, rfl⟩, rfl⟩, ⟨⟨dX12_paysRent_2, rfl⟩, Or.inr ⟨by decide, ⟨_, my_241, sX12_410⟩, fun q => absurd q (by decide)⟩⟩, ⟨⟨dX12_paysRent_5, rfl⟩, rfl⟩, ⟨⟨dX12_paysRent_6, rfl⟩, rfl⟩, ⟨⟨dX12_paysRent_7, rfl⟩, rfl⟩, ⟨⟨dX12_paysRent_8, rfl⟩, rfl⟩, ⟨⟨dX12_paysRent_9, rfl⟩, Or.inr ⟨by decide, ⟨_, my_238, sX12_317⟩, fun q => absurd q (by decide)⟩⟩, ⟨⟨dX12_paysRent_12, rfl⟩, rfl⟩, ⟨⟨dX12_paysRent_13, rfl⟩, rfl⟩, ⟨⟨dX12_paysRent_14, rfl⟩, rfl⟩, ⟨⟨dX12_paysRent_15, rfl⟩, rfl⟩, ⟨⟨dX12_paysRent_17, rfl⟩, rfl⟩, ⟨⟨dX12_paysRent_19, rfl⟩, rfl⟩, ⟨⟨dX12_paysRent_20, rfl⟩, rfl⟩, ⟨⟨dX12_paysRent_22, rfl⟩, rfl⟩, ⟨⟨dX12_paysRent_23, rfl⟩, trivial⟩, ⟨⟨dX12_paysRent_24, rfl⟩, Or.inr ⟨by decide, ⟨_, my_141, sX12_299⟩, fun q => absurd q (by decide)⟩⟩, ⟨⟨dX12_paysRent_27, rfl⟩, rfl⟩, ⟨⟨dX12_paysRent_30, rfl⟩, rfl⟩, ⟨⟨dX12_paysRent_31, rfl⟩, Or.inl ⟨by decide, _, _, fX12_27⟩⟩, ⟨⟨dX12_paysRent_34, rfl⟩, rfl⟩, ⟨⟨dX12_paysRent_36, rfl⟩, rfl⟩, ⟨⟨dX12_paysRent_37, rfl⟩, trivial⟩, trivial⟩,
  ⟨⟨⟨dX12_paysRent_38, rfl⟩, rfl⟩, ⟨⟨dX12_paysRent_40, rfl⟩, Or.inl ⟨rfl, _, my_117, sX12_275⟩⟩, ⟨⟨dX12_paysRent_43, rfl⟩, trivial⟩, ⟨⟨dX12_paysRent_44, rfl⟩, rfl⟩, ⟨⟨dX12_paysRent_45, rfl⟩, rfl⟩, ⟨⟨dX12_paysRent_48, rfl⟩, rfl⟩, ⟨⟨dX12_paysRent_49, rfl⟩, rfl⟩, ⟨⟨dX12_paysRent_51, rfl⟩, rfl⟩, ⟨⟨dX12_paysRent_52, rfl⟩, trivial⟩, ⟨⟨dX12_paysRent_53, rfl⟩, rfl⟩, ⟨⟨dX12_paysRent_55, rfl⟩, Or.inr ⟨by decide, ⟨_, my_239, sX12_320⟩, fun q => absurd q (by decide)⟩⟩, ⟨⟨dX12_paysRent_58, rfl⟩, rfl⟩, ⟨⟨dX12_paysRent_61, rfl⟩, rfl⟩, ⟨⟨dX12_paysRent_62, rfl⟩, rfl⟩, ⟨⟨dX12_paysRent_63, rfl⟩, Or.inl ⟨by decide, _, _, fX12_27⟩⟩, ⟨⟨dX12_paysRent_66, rfl⟩, rfl⟩, ⟨⟨dX12_paysRent_68, rfl⟩, rfl⟩, ⟨⟨dX12_paysRent_69, rfl⟩, trivial⟩, ⟨⟨dX12_paysRent_70, rfl⟩, rfl⟩, ⟨⟨dX12_paysRent_72, rfl⟩, Or.inl ⟨rfl, _, my_117, sX12_275⟩⟩, ⟨⟨dX12_paysRent_75, rfl⟩, rfl⟩, ⟨⟨dX12_paysRent_76, rfl⟩, trivial⟩, ⟨⟨dX12_paysRent_77, rfl⟩, trivial⟩, ⟨⟨dX12_paysRent_78, rfl⟩, Or.inr (Or.inr (Or.inr (Or.inr (Or.inl ⟨rfl, sX12_100⟩))))⟩, trivial⟩,
  ⟨⟨⟨dX12_paysRent_81, rfl⟩, rfl⟩, ⟨⟨dX12_paysRent_82, rfl⟩, ⟨rfl, rfl⟩⟩, ⟨⟨dX12_paysRent_85, rfl⟩, rfl⟩, ⟨⟨dX12_paysRent_88, rfl⟩, rfl⟩, ⟨⟨dX12_paysRent_89, rfl⟩, trivial⟩, ⟨⟨dX12_paysRent_90, rfl⟩, ⟨rfl, rfl⟩⟩, ⟨⟨dX12_paysRent_92, rfl⟩, rfl⟩, ⟨⟨dX12_paysRent_93, rfl⟩, rfl⟩, ⟨⟨dX12_paysRent_96, rfl⟩, rfl⟩, ⟨⟨dX12_paysRent_97, rfl⟩, trivial⟩, ⟨⟨dX12_paysRent_98, rfl⟩, rfl⟩, ⟨⟨dX12_paysRent_99, rfl⟩, trivial⟩, ⟨⟨dX12_paysRent_100, rfl⟩, trivial⟩, ⟨⟨dX12_paysRent_101, rfl⟩, kX12_349⟩, ⟨⟨dX12_paysRent_104, rfl⟩, trivial⟩, ⟨⟨dX12_paysRent_105, rfl⟩, trivial⟩, ⟨⟨dX12_paysRent_106, rfl⟩, rfl⟩, ⟨⟨dX12_paysRent_108, rfl⟩, rfl⟩, ⟨⟨dX12_paysRent_110, rfl⟩, rfl⟩, ⟨⟨dX12_paysRent_112, rfl⟩, trivial⟩, ⟨⟨dX12_paysRent_113, rfl⟩, trivial⟩, ⟨⟨dX12_paysRent_114, rfl⟩, ⟨rfl, rfl⟩⟩, ⟨⟨dX12_paysRent_116, rfl⟩, rfl⟩, ⟨⟨dX12_paysRent_117, rfl⟩, rfl⟩, trivial⟩,
  ⟨⟨⟨dX12_paysRent_118, rfl⟩, rfl⟩, ⟨⟨dX12_paysRent_119, rfl⟩, rfl⟩, ⟨⟨dX12_paysRent_120, rfl⟩, rfl⟩, ⟨⟨dX12_paysRent_121, rfl⟩, rfl⟩, ⟨⟨dX12_paysRent_122, rfl⟩, Or.inr ⟨by decide, ⟨_, my_165, sX12_293⟩, fun q => absurd q (by decide)⟩⟩, ⟨⟨dX12_paysRent_125, rfl⟩, trivial⟩, ⟨⟨dX12_paysRent_126, rfl⟩, rfl⟩, ⟨⟨dX12_paysRent_128, rfl⟩, trivial⟩, ⟨⟨dX12_paysRent_129, rfl⟩, trivial⟩, ⟨⟨dX12_paysRent_130, rfl⟩, Or.inr ⟨by decide, ⟨_, my_151, sX12_373⟩, fun q => absurd q (by decide)⟩⟩, ⟨⟨dX12_paysRent_133, rfl⟩, rfl⟩, ⟨⟨dX12_paysRent_136, rfl⟩, rfl⟩, ⟨⟨dX12_paysRent_138, rfl⟩, rfl⟩, ⟨⟨dX12_paysRent_139, rfl⟩, rfl⟩, ⟨⟨dX12_paysRent_140, rfl⟩, rfl⟩, ⟨⟨dX12_paysRent_141, rfl⟩, Or.inr ⟨by decide, ⟨_, my_165, sX12_293⟩, fun q => absurd q (by decide)⟩⟩, ⟨⟨dX12_paysRent_144, rfl⟩, trivial⟩, ⟨⟨dX12_paysRent_145, rfl⟩, trivial⟩, ⟨⟨dX12_paysRent_146, rfl⟩, ⟨rfl, rfl⟩⟩, ⟨⟨dX12_paysRent_148, rfl⟩, rfl⟩, ⟨⟨dX12_paysRent_149, rfl⟩, rfl⟩, ⟨⟨dX12_paysRent_150, rfl⟩, rfl⟩, ⟨⟨dX12_paysRent_151, rfl⟩, rfl⟩, ⟨⟨dX12_paysRent_152, rfl⟩, Or.inr ⟨by decide, ⟨_, my_151, sX12_373⟩, fun q => absurd q (by decide)⟩⟩, trivial⟩,
  ⟨⟨⟨dX12_paysRent_155, rfl⟩, rfl⟩, ⟨⟨dX12_paysRent_157, rfl⟩, rfl⟩, ⟨⟨dX12_paysRent_158, rfl⟩, rfl⟩, ⟨⟨dX12_paysRent_159, rfl⟩, rfl⟩, ⟨⟨dX12_paysRent_160, rfl⟩, Or.inr ⟨by decide, ⟨_, my_165, sX12_293⟩, fun q => absurd q (by decide)⟩⟩, ⟨⟨dX12_paysRent_163, rfl⟩, trivial⟩, ⟨⟨dX12_paysRent_164, rfl⟩, trivial⟩, ⟨⟨dX12_paysRent_165, rfl⟩, ⟨rfl, rfl⟩⟩, ⟨⟨dX12_paysRent_167, rfl⟩, rfl⟩, ⟨⟨dX12_paysRent_168, rfl⟩, rfl⟩, ⟨⟨dX12_paysRent_169, rfl⟩, rfl⟩, ⟨⟨dX12_paysRent_170, rfl⟩, Or.inr ⟨by decide, ⟨_, my_165, sX12_293⟩, fun q => absurd q (by decide)⟩⟩, ⟨⟨dX12_paysRent_173, rfl⟩, trivial⟩, ⟨⟨dX12_paysRent_174, rfl⟩, rfl⟩, ⟨⟨dX12_paysRent_176, rfl⟩, Or.inr (Or.inr (Or.inr (Or.inr (Or.inr (Or.inr (Or.inr ⟨rfl, sX12_11⟩))))))⟩, ⟨⟨dX12_paysRent_179, rfl⟩, trivial⟩, ⟨⟨dX12_paysRent_180, rfl⟩, rfl⟩, ⟨⟨dX12_paysRent_182, rfl⟩, rfl⟩, ⟨⟨dX12_paysRent_183, rfl⟩, rfl⟩, ⟨⟨dX12_paysRent_184, rfl⟩, rfl⟩, ⟨⟨dX12_paysRent_185, rfl⟩, rfl⟩, ⟨⟨dX12_paysRent_186, rfl⟩, rfl⟩, ⟨⟨dX12_paysRent_187, rfl⟩, rfl⟩, ⟨⟨dX12_paysRent_188, rfl⟩, Or.inr ⟨by decide, ⟨_, my_165, sX12_293⟩, fun q => absurd q (by decide)⟩⟩, trivial⟩,
  ⟨⟨⟨dX12_paysRent_191, rfl⟩, rfl⟩, ⟨⟨dX12_paysRent_193, rfl⟩, trivial⟩, ⟨⟨dX12_paysRent_194, rfl⟩, trivial⟩, ⟨⟨dX12_paysRent_195, rfl⟩, Or.inr ⟨by decide, ⟨_, my_151, sX12_373⟩, fun q => absurd q (by decide)⟩⟩, ⟨⟨dX12_paysRent_198, rfl⟩, rfl⟩, ⟨⟨dX12_paysRent_199, rfl⟩, rfl⟩, ⟨⟨dX12_paysRent_200, rfl⟩, rfl⟩, ⟨⟨dX12_paysRent_201, rfl⟩, rfl⟩, ⟨⟨dX12_paysRent_203, rfl⟩, rfl⟩, ⟨⟨dX12_paysRent_205, rfl⟩, trivial⟩, ⟨⟨dX12_paysRent_206, rfl⟩, trivial⟩, ⟨⟨dX12_paysRent_207, rfl⟩, Or.inr ⟨by decide, ⟨_, my_151, sX12_373⟩, fun q => absurd q (by decide)⟩⟩, ⟨⟨dX12_paysRent_210, rfl⟩, rfl⟩, ⟨⟨dX12_paysRent_211, rfl⟩, rfl⟩, ⟨⟨dX12_paysRent_212, rfl⟩, rfl⟩, ⟨⟨dX12_paysRent_213, rfl⟩, rfl⟩, ⟨⟨dX12_paysRent_214, rfl⟩, rfl⟩, ⟨⟨dX12_paysRent_215, rfl⟩, rfl⟩, ⟨⟨dX12_paysRent_216, rfl⟩, Or.inr ⟨by decide, ⟨_, my_165, sX12_293⟩, fun q => absurd q (by decide)⟩⟩, ⟨⟨dX12_paysRent_219, rfl⟩, trivial⟩, ⟨⟨dX12_paysRent_220, rfl⟩, rfl⟩, ⟨⟨dX12_paysRent_222, rfl⟩, trivial⟩, ⟨⟨dX12_paysRent_223, rfl⟩, trivial⟩, ⟨⟨dX12_paysRent_224, rfl⟩, Or.inr ⟨by decide, ⟨_, my_151, sX12_373⟩, fun q => absurd q (by decide)⟩⟩, trivial⟩,
  ⟨⟨⟨dX12_paysRent_227, rfl⟩, rfl⟩, ⟨⟨dX12_paysRent_228, rfl⟩, rfl⟩, ⟨⟨dX12_paysRent_230, rfl⟩, trivial⟩, ⟨⟨dX12_paysRent_231, rfl⟩, Or.inr ⟨by decide, ⟨_, my_235, sX12_355⟩, fun q => absurd q (by decide)⟩⟩, ⟨⟨dX12_paysRent_234, rfl⟩, rfl⟩, trivial⟩, trivial⟩, by decide, Or.inl ⟨rfl, by decide, rfl⟩⟩
set_option maxRecDepth 100000 in
theorem g_X12_paysRent_0 (S : sT) (call : cT) (n : Nat) (a0 : Nat) (x1 : Int32) (h : pH) : bd S call dflT E_X12_paysRent (n + 1) 0 [some (.ref a0), some (.int x1), none, none, none, none, none] [] h = (rC h (.ref a0) 15 (cI (call 241 [.ref a0, .int x1] h) (fun y2 h1 => rC h1 (.ref a0) 15 (cU (call 238 [.ref a0, .int (-1), .int x1] h1) (fun h3 => bd S call dflT E_X12_paysRent n 17 [some (.ref a0), some (.int x1), some (.int y2), some (.int (-1)), some (.int 0), none, none] [] h3))))) := rfl
set_option maxRecDepth 100000 in
theorem g_X12_paysRent_17 (S : sT) (call : cT) (n : Nat) (a0 : Nat) (x1 : Int32) (x2 : Int32) (x3 : Int32) (x4 : Int32) (o5 : Option Value) (o6 : Option Value) (h : pH) : bd S call dflT E_X12_paysRent (n + 1) 17 [some (.ref a0), some (.int x1), some (.int x2), some (.int x3), some (.int x4), o5, o6] [] h = (rC h (.ref a0) 15 (cI (call 141 [.ref a0, .int (12 + x1)] h) (fun y2 h1 => (if y2 ≤ x4 then (if x3 < 0 then rC h1 (.ref a0) 15 (cI (call 165 [.ref a0, .int x1, .int 3] h1) (fun y4 h3 => rC h3 (.ref a0) 15 (cU (call 151 [.ref a0, .int x1, .int 3, .long 0] h3) (fun h5 => bd S call dflT E_X12_paysRent n 155 [some (.ref a0), some (.int x1), some (.int x2), some (.int x3), some (.long (x2.toInt64 + y4.toInt64)), none, o6] [] h5)))) else dvJ 100 (rC h1 (.ref a0) 15 (cI (call 165 [.ref a0, .int x1, .int 3] h1) (fun y7 h6 => rC h6 (.ref a0) 15 (cU (call 151 [.ref a0, .int x1, .int 3, .long (y7.toInt64 + (((x2.toInt64 * x3.toInt64) / 100).toInt32).toInt64)] h6) (fun h8 => bd S call dflT E_X12_paysRent n 155 [some (.ref a0), some (.int x1), some (.int x2), some (.int x3), some (.long (x2.toInt64 - (((x2.toInt64 * x3.toInt64) / 100).toInt32).toInt64)), none, some (.int ((x2.toInt64 * x3.toInt64) / 100).toInt32)] [] h8)))))) else gV h1 (.ref a0) 15 1 (fun w9 => cI (call 117 [.int (12 + x1), .int x4] h1) (fun y11 h10 => aI h10 w9 0 y11 (fun y12 => (if y12 = 5 then rC h10 (.ref a0) 15 (cI (call 239 [.ref a0, .int (12 + x1), .int x4] h10) (fun y14 h13 => (if y14 = 0 then bd S call dflT E_X12_paysRent n 17 [some (.ref a0), some (.int x1), some (.int x2), some (.int x3), some (.int (x4 + 1)), o5, o6] [] h13 else gV h13 (.ref a0) 15 1 (fun w15 => cI (call 117 [.int (12 + x1), .int x4] h13) (fun y17 h16 => aI h16 w15 0 (y17 + 1) (fun y18 => bd S call dflT E_X12_paysRent n 17 [some (.ref a0), some (.int x1), some (.int x2), some (.int (if x3 < y18 then y18 else x3)), some (.int (x4 + 1)), o5, o6] [] h16)))))) else bd S call dflT E_X12_paysRent n 17 [some (.ref a0), some (.int x1), some (.int x2), some (.int x3), some (.int (x4 + 1)), o5, o6] [] h10)))))))) := rfl
set_option maxRecDepth 100000 in
theorem g_X12_paysRent_155 (S : sT) (call : cT) (n : Nat) (a0 : Nat) (x1 : Int32) (x2 : Int32) (x3 : Int32) (j4 : Int64) (o6 : Option Value) (h : pH) : bd S call dflT E_X12_paysRent (n + 1) 155 [some (.ref a0), some (.int x1), some (.int x2), some (.int x3), some (.long j4), none, o6] [] h = (rC h (.ref a0) 15 (cI (call 165 [.ref a0, .int x1, .int 2] h) (fun y2 h1 => rC h1 (.ref a0) 15 (cI (call 165 [.ref a0, .int x1, .int 1] h1) (fun y4 h3 => rC h3 (.ref a0) 15 (cI (call 165 [.ref a0, .int x1, .int 1] h3) (fun y6 h5 => rC h5 (.ref a0) 15 (cU (call 151 [.ref a0, .int x1, .int 1, .long (y6 - (if (j4 + y2.toInt64) < y4.toInt64 then (j4 + y2.toInt64) else y4.toInt64).toInt32).toInt64] h5) (fun h7 => rC h7 (.ref a0) 15 (cU (call 151 [.ref a0, .int x1, .int 2, .long ((j4 + y2.toInt64) - ((if (j4 + y2.toInt64) < y4.toInt64 then (j4 + y2.toInt64) else y4.toInt64).toInt32).toInt64)] h7) (fun h8 => rC h8 (.ref a0) 15 (cI (call 165 [.ref a0, .int x1, .int 5] h8) (fun y10 h9 => rC h9 (.ref a0) 15 (cU (call 151 [.ref a0, .int x1, .int 5, .long (y10.toInt64 + ((if (j4 + y2.toInt64) < y4.toInt64 then (j4 + y2.toInt64) else y4.toInt64).toInt32).toInt64)] h9) (fun h11 => rC h11 (.ref a0) 15 (cU (call 235 [.ref a0, .long ((if (j4 + y2.toInt64) < y4.toInt64 then (j4 + y2.toInt64) else y4.toInt64).toInt32).toInt64] h11) (fun h12 => some (.inl none, h12)))))))))))))))))) := rfl
theorem dX12_autumn_0 : decode cX12_autumn 0 = .ok (.iconst 0, 1) := by decide +kernel
theorem dX12_autumn_1 : decode cX12_autumn 1 = .ok (.istore_n 1, 1) := by decide +kernel
theorem dX12_autumn_2 : decode cX12_autumn 2 = .ok (.iload_n 1, 1) := by decide +kernel
theorem dX12_autumn_3 : decode cX12_autumn 3 = .ok (.aload_n 0, 1) := by decide +kernel
theorem dX12_autumn_4 : decode cX12_autumn 4 = .ok (.getfield 27, 3) := by decide +kernel
theorem dX12_autumn_7 : decode cX12_autumn 7 = .ok (.sipush 1683, 3) := by decide +kernel
theorem dX12_autumn_10 : decode cX12_autumn 10 = .ok (.iaload, 1) := by decide +kernel
theorem dX12_autumn_11 : decode cX12_autumn 11 = .ok (.if_icmp .ge 80, 3) := by decide +kernel
theorem dX12_autumn_14 : decode cX12_autumn 14 = .ok (.aload_n 0, 1) := by decide +kernel
theorem dX12_autumn_15 : decode cX12_autumn 15 = .ok (.iload_n 1, 1) := by decide +kernel
theorem dX12_autumn_16 : decode cX12_autumn 16 = .ok (.invokevirtual 386, 3) := by decide +kernel
theorem dX12_autumn_19 : decode cX12_autumn 19 = .ok (.ifCond .ne 6, 3) := by decide +kernel
theorem dX12_autumn_22 : decode cX12_autumn 22 = .ok (.goto 63, 3) := by decide +kernel
theorem dX12_autumn_25 : decode cX12_autumn 25 = .ok (.aload_n 0, 1) := by decide +kernel
theorem dX12_autumn_26 : decode cX12_autumn 26 = .ok (.iload_n 1, 1) := by decide +kernel
theorem dX12_autumn_27 : decode cX12_autumn 27 = .ok (.invokevirtual 389, 3) := by decide +kernel
theorem dX12_autumn_30 : decode cX12_autumn 30 = .ok (.ifCond .eq 11, 3) := by decide +kernel
theorem dX12_autumn_33 : decode cX12_autumn 33 = .ok (.aload_n 0, 1) := by decide +kernel
theorem dX12_autumn_34 : decode cX12_autumn 34 = .ok (.iload_n 1, 1) := by decide +kernel
theorem dX12_autumn_35 : decode cX12_autumn 35 = .ok (.invokevirtual 413, 3) := by decide +kernel
theorem dX12_autumn_38 : decode cX12_autumn 38 = .ok (.goto 47, 3) := by decide +kernel
theorem dX12_autumn_41 : decode cX12_autumn 41 = .ok (.aload_n 0, 1) := by decide +kernel
theorem dX12_autumn_42 : decode cX12_autumn 42 = .ok (.iload_n 1, 1) := by decide +kernel
theorem dX12_autumn_43 : decode cX12_autumn 43 = .ok (.iconst 0, 1) := by decide +kernel
theorem dX12_autumn_44 : decode cX12_autumn 44 = .ok (.invokevirtual 293, 3) := by decide +kernel
theorem dX12_autumn_47 : decode cX12_autumn 47 = .ok (.iconst 5, 1) := by decide +kernel
theorem dX12_autumn_48 : decode cX12_autumn 48 = .ok (.if_icmp .ne 37, 3) := by decide +kernel
theorem dX12_autumn_51 : decode cX12_autumn 51 = .ok (.aload_n 0, 1) := by decide +kernel
theorem dX12_autumn_52 : decode cX12_autumn 52 = .ok (.aload_n 0, 1) := by decide +kernel
theorem dX12_autumn_53 : decode cX12_autumn 53 = .ok (.iload_n 1, 1) := by decide +kernel
theorem dX12_autumn_54 : decode cX12_autumn 54 = .ok (.bipush 9, 2) := by decide +kernel
theorem dX12_autumn_56 : decode cX12_autumn 56 = .ok (.invokevirtual 293, 3) := by decide +kernel
theorem dX12_autumn_59 : decode cX12_autumn 59 = .ok (.i2l, 1) := by decide +kernel
theorem dX12_autumn_60 : decode cX12_autumn 60 = .ok (.invokevirtual 355, 3) := by decide +kernel
theorem dX12_autumn_63 : decode cX12_autumn 63 = .ok (.aload_n 0, 1) := by decide +kernel
theorem dX12_autumn_64 : decode cX12_autumn 64 = .ok (.iload_n 1, 1) := by decide +kernel
theorem dX12_autumn_65 : decode cX12_autumn 65 = .ok (.iconst 5, 1) := by decide +kernel
theorem dX12_autumn_66 : decode cX12_autumn 66 = .ok (.aload_n 0, 1) := by decide +kernel
theorem dX12_autumn_67 : decode cX12_autumn 67 = .ok (.iload_n 1, 1) := by decide +kernel
theorem dX12_autumn_68 : decode cX12_autumn 68 = .ok (.iconst 5, 1) := by decide +kernel
theorem dX12_autumn_69 : decode cX12_autumn 69 = .ok (.invokevirtual 293, 3) := by decide +kernel
theorem dX12_autumn_72 : decode cX12_autumn 72 = .ok (.i2l, 1) := by decide +kernel
theorem dX12_autumn_73 : decode cX12_autumn 73 = .ok (.aload_n 0, 1) := by decide +kernel
theorem dX12_autumn_74 : decode cX12_autumn 74 = .ok (.iload_n 1, 1) := by decide +kernel
theorem dX12_autumn_75 : decode cX12_autumn 75 = .ok (.bipush 9, 2) := by decide +kernel
theorem dX12_autumn_77 : decode cX12_autumn 77 = .ok (.invokevirtual 293, 3) := by decide +kernel
theorem dX12_autumn_80 : decode cX12_autumn 80 = .ok (.i2l, 1) := by decide +kernel
theorem dX12_autumn_81 : decode cX12_autumn 81 = .ok (.ladd, 1) := by decide +kernel
theorem dX12_autumn_82 : decode cX12_autumn 82 = .ok (.invokevirtual 373, 3) := by decide +kernel
theorem dX12_autumn_85 : decode cX12_autumn 85 = .ok (.iinc 1 1, 3) := by decide +kernel
theorem dX12_autumn_88 : decode cX12_autumn 88 = .ok (.goto (-86), 3) := by decide +kernel
theorem dX12_autumn_91 : decode cX12_autumn 91 = .ok (.return_, 1) := by decide +kernel
noncomputable def E_X12_autumn : mE := (mX12_autumn, [(43, [(0, (.iconst 0, 1, false, false, 0, 0, 0, 0, 0, 0, [])), (1, (.istore_n 1, 2, true, false, 1, 0, 0, 0, 0, 0, [])), (2, (.iload_n 1, 3, false, false, 1, 0, 0, 0, 0, 0, [])), (3, (.aload_n 0, 4, false, false, 0, 0, 0, 0, 0, 0, [])), (4, (.getfield 27, 7, false, false, 15, 1, 1, 0, 0, 0, [])), (7, (.sipush 1683, 10, false, false, 0, 0, 0, 0, 1683, 0, [])), (10, (.iaload, 11, false, false, 0, 0, 0, 0, 0, 0, [])), (11, (.if_icmp .ge 80, 14, false, false, 91, 0, 0, 0, 0, 0, [])), (14, (.aload_n 0, 15, false, false, 0, 0, 0, 0, 0, 0, [])), (15, (.iload_n 1, 16, false, false, 1, 0, 0, 0, 0, 0, [])), (16, (.invokevirtual 386, 19, false, false, 172, 1, 1, 15, 0, 0, [])), (19, (.ifCond .ne 6, 22, false, false, 25, 0, 0, 0, 0, 0, [])), (22, (.goto 63, 25, false, false, 85, 0, 0, 0, 0, 0, [])), (25, (.aload_n 0, 26, false, false, 0, 0, 0, 0, 0, 0, [])), (26, (.iload_n 1, 27, false, false, 1, 0, 0, 0, 0, 0, [])), (27, (.invokevirtual 389, 30, false, false, 178, 1, 1, 15, 0, 0, [])), (30, (.ifCond .eq 11, 33, false, false, 41, 0, 0, 0, 0, 0, [])), (33, (.aload_n 0, 34, false, false, 0, 0, 0, 0, 0, 0, [])), (34, (.iload_n 1, 35, false, false, 1, 0, 0, 0, 0, 0, [])), (35, (.invokevirtual 413, 38, false, false, 242, 1, 0, 15, 0, 0, [])), (38, (.goto 47, 41, false, false, 85, 0, 0, 0, 0, 0, [])), (41, (.aload_n 0, 42, false, false, 0, 0, 0, 0, 0, 0, [])), (42, (.iload_n 1, 43, false, false, 1, 0, 0, 0, 0, 0, [])), (43, (.iconst 0, 44, false, false, 0, 0, 0, 0, 0, 0, []))]),
  (81, [(44, (.invokevirtual 293, 47, false, false, 165, 2, 1, 15, 0, 0, [])), (47, (.iconst 5, 48, false, false, 0, 0, 0, 0, 5, 0, [])), (48, (.if_icmp .ne 37, 51, false, false, 85, 0, 0, 0, 0, 0, [])), (51, (.aload_n 0, 52, false, false, 0, 0, 0, 0, 0, 0, [])), (52, (.aload_n 0, 53, false, false, 0, 0, 0, 0, 0, 0, [])), (53, (.iload_n 1, 54, false, false, 1, 0, 0, 0, 0, 0, [])), (54, (.bipush 9, 56, false, false, 0, 0, 0, 0, 9, 0, [])), (56, (.invokevirtual 293, 59, false, false, 165, 2, 1, 15, 0, 0, [])), (59, (.i2l, 60, false, false, 0, 0, 0, 0, 0, 0, [])), (60, (.invokevirtual 355, 63, false, false, 235, 1, 0, 15, 0, 0, [])), (63, (.aload_n 0, 64, false, false, 0, 0, 0, 0, 0, 0, [])), (64, (.iload_n 1, 65, false, false, 1, 0, 0, 0, 0, 0, [])), (65, (.iconst 5, 66, false, false, 0, 0, 0, 0, 5, 0, [])), (66, (.aload_n 0, 67, false, false, 0, 0, 0, 0, 0, 0, [])), (67, (.iload_n 1, 68, false, false, 1, 0, 0, 0, 0, 0, [])), (68, (.iconst 5, 69, false, false, 0, 0, 0, 0, 5, 0, [])), (69, (.invokevirtual 293, 72, false, false, 165, 2, 1, 15, 0, 0, [])), (72, (.i2l, 73, false, false, 0, 0, 0, 0, 0, 0, [])), (73, (.aload_n 0, 74, false, false, 0, 0, 0, 0, 0, 0, [])), (74, (.iload_n 1, 75, false, false, 1, 0, 0, 0, 0, 0, [])), (75, (.bipush 9, 77, false, false, 0, 0, 0, 0, 9, 0, [])), (77, (.invokevirtual 293, 80, false, false, 165, 2, 1, 15, 0, 0, [])), (80, (.i2l, 81, false, false, 0, 0, 0, 0, 0, 0, [])), (81, (.ladd, 82, false, false, 0, 0, 0, 0, 0, 0, []))]),
  (91, [(82, (.invokevirtual 373, 85, false, false, 151, 3, 0, 15, 0, 0, [])), (85, (.iinc 1 1, 88, false, false, 1, 0, 0, 0, 1, 0, [])), (88, (.goto (-86), 91, false, true, 2, 0, 0, 0, 0, 0, [])), (91, (.return_, 92, false, false, 0, 0, 0, 0, 0, 0, []))])], 0, [])
set_option maxRecDepth 100000 in
theorem v_X12_autumn : VE MYT dflT E_X12_autumn := ⟨⟨⟨⟨⟨dX12_autumn_0, rfl⟩, rfl⟩, ⟨⟨dX12_autumn_1, rfl⟩, rfl⟩, ⟨⟨dX12_autumn_2, rfl⟩, rfl⟩, ⟨⟨dX12_autumn_3, rfl⟩, rfl⟩, ⟨⟨dX12_autumn_4, rfl⟩, Or.inl ⟨by decide, _, _, fX12_27⟩⟩, ⟨⟨dX12_autumn_7, rfl⟩, rfl⟩, ⟨⟨dX12_autumn_10, rfl⟩, trivial⟩, ⟨⟨dX12_autumn_11, rfl⟩, rfl⟩, ⟨⟨dX12_autumn_14, rfl⟩, rfl⟩, ⟨⟨dX12_autumn_15, rfl⟩, rfl⟩, ⟨⟨dX12_autumn_16, rfl⟩, Or.inr ⟨by decide, ⟨_, my_172, sX12_386⟩, fun q => absurd q (by decide)⟩⟩, ⟨⟨dX12_autumn_19, rfl⟩, rfl⟩, ⟨⟨dX12_autumn_22, rfl⟩, rfl⟩, ⟨⟨dX12_autumn_25, rfl⟩, rfl⟩, ⟨⟨dX12_autumn_26, rfl⟩, rfl⟩, ⟨⟨dX12_autumn_27, rfl⟩, Or.inr ⟨by decide, ⟨_, my_178, sX12_389⟩, fun q => absurd q (by decide)⟩⟩, ⟨⟨dX12_autumn_30, rfl⟩, rfl⟩, ⟨⟨dX12_autumn_33, rfl⟩, rfl⟩, ⟨⟨dX12_autumn_34, rfl⟩, rfl⟩, ⟨⟨dX12_autumn_35, rfl⟩, Or.inr ⟨by decide, ⟨_, my_242, sX12_413⟩, fun q => absurd q (by decide)⟩⟩, ⟨⟨dX12_autumn_38, rfl⟩, rfl⟩, ⟨⟨dX12_autumn_41, rfl⟩, rfl⟩, ⟨⟨dX12_autumn_42, rfl⟩, rfl⟩, ⟨⟨dX12_autumn_43, rfl⟩, rfl⟩, trivial⟩,
  ⟨⟨⟨dX12_autumn_44, rfl⟩, Or.inr ⟨by decide, ⟨_, my_165, sX12_293⟩, fun q => absurd q (by decide)⟩⟩, ⟨⟨dX12_autumn_47, rfl⟩, rfl⟩, ⟨⟨dX12_autumn_48, rfl⟩, rfl⟩, ⟨⟨dX12_autumn_51, rfl⟩, rfl⟩, ⟨⟨dX12_autumn_52, rfl⟩, rfl⟩, ⟨⟨dX12_autumn_53, rfl⟩, rfl⟩, ⟨⟨dX12_autumn_54, rfl⟩, rfl⟩, ⟨⟨dX12_autumn_56, rfl⟩, Or.inr ⟨by decide, ⟨_, my_165, sX12_293⟩, fun q => absurd q (by decide)⟩⟩, ⟨⟨dX12_autumn_59, rfl⟩, trivial⟩, ⟨⟨dX12_autumn_60, rfl⟩, Or.inr ⟨by decide, ⟨_, my_235, sX12_355⟩, fun q => absurd q (by decide)⟩⟩, ⟨⟨dX12_autumn_63, rfl⟩, rfl⟩, ⟨⟨dX12_autumn_64, rfl⟩, rfl⟩, ⟨⟨dX12_autumn_65, rfl⟩, rfl⟩, ⟨⟨dX12_autumn_66, rfl⟩, rfl⟩, ⟨⟨dX12_autumn_67, rfl⟩, rfl⟩, ⟨⟨dX12_autumn_68, rfl⟩, rfl⟩, ⟨⟨dX12_autumn_69, rfl⟩, Or.inr ⟨by decide, ⟨_, my_165, sX12_293⟩, fun q => absurd q (by decide)⟩⟩, ⟨⟨dX12_autumn_72, rfl⟩, trivial⟩, ⟨⟨dX12_autumn_73, rfl⟩, rfl⟩, ⟨⟨dX12_autumn_74, rfl⟩, rfl⟩, ⟨⟨dX12_autumn_75, rfl⟩, rfl⟩, ⟨⟨dX12_autumn_77, rfl⟩, Or.inr ⟨by decide, ⟨_, my_165, sX12_293⟩, fun q => absurd q (by decide)⟩⟩, ⟨⟨dX12_autumn_80, rfl⟩, trivial⟩, ⟨⟨dX12_autumn_81, rfl⟩, trivial⟩, trivial⟩,
  ⟨⟨⟨dX12_autumn_82, rfl⟩, Or.inr ⟨by decide, ⟨_, my_151, sX12_373⟩, fun q => absurd q (by decide)⟩⟩, ⟨⟨dX12_autumn_85, rfl⟩, ⟨rfl, rfl⟩⟩, ⟨⟨dX12_autumn_88, rfl⟩, rfl⟩, ⟨⟨dX12_autumn_91, rfl⟩, rfl⟩, trivial⟩, trivial⟩, by decide, Or.inl ⟨rfl, by decide, rfl⟩⟩
set_option maxRecDepth 100000 in
theorem g_X12_autumn_0 (S : sT) (call : cT) (n : Nat) (a0 : Nat) (h : pH) : bd S call dflT E_X12_autumn (n + 1) 0 [some (.ref a0), none] [] h = (bd S call dflT E_X12_autumn n 2 [some (.ref a0), some (.int 0)] [] h) := rfl
set_option maxRecDepth 100000 in
theorem g_X12_autumn_2 (S : sT) (call : cT) (n : Nat) (a0 : Nat) (x1 : Int32) (h : pH) : bd S call dflT E_X12_autumn (n + 1) 2 [some (.ref a0), some (.int x1)] [] h = (gV h (.ref a0) 15 1 (fun w1 => aI h w1 0 1683 (fun y2 => (if y2 ≤ x1 then some (.inl none, h) else rC h (.ref a0) 15 (cI (call 172 [.ref a0, .int x1] h) (fun y4 h3 => (if y4 = 0 then bd S call dflT E_X12_autumn n 2 [some (.ref a0), some (.int (x1 + 1))] [] h3 else rC h3 (.ref a0) 15 (cI (call 178 [.ref a0, .int x1] h3) (fun y6 h5 => (if y6 = 0 then rC h5 (.ref a0) 15 (cI (call 165 [.ref a0, .int x1, .int 0] h5) (fun y8 h7 => (if y8 = 5 then rC h7 (.ref a0) 15 (cI (call 165 [.ref a0, .int x1, .int 9] h7) (fun y10 h9 => rC h9 (.ref a0) 15 (cU (call 235 [.ref a0, .long y10.toInt64] h9) (fun h11 => rC h11 (.ref a0) 15 (cI (call 165 [.ref a0, .int x1, .int 5] h11) (fun y13 h12 => rC h12 (.ref a0) 15 (cI (call 165 [.ref a0, .int x1, .int 9] h12) (fun y15 h14 => rC h14 (.ref a0) 15 (cU (call 151 [.ref a0, .int x1, .int 5, .long (y13.toInt64 + y15.toInt64)] h14) (fun h16 => bd S call dflT E_X12_autumn n 2 [some (.ref a0), some (.int (x1 + 1))] [] h16)))))))))) else bd S call dflT E_X12_autumn n 2 [some (.ref a0), some (.int (x1 + 1))] [] h7))) else rC h5 (.ref a0) 15 (cU (call 242 [.ref a0, .int x1] h5) (fun h17 => bd S call dflT E_X12_autumn n 2 [some (.ref a0), some (.int (x1 + 1))] [] h17)))))))))))) := rfl
theorem dX12_beside_0 : decode cX12_beside 0 = .ok (.iload_n 1, 1) := by decide +kernel
theorem dX12_beside_1 : decode cX12_beside 1 = .ok (.tableswitch 74 0 2 #[27, 42, 57], 27) := by decide +kernel
theorem dX12_beside_28 : decode cX12_beside 28 = .ok (.iload_n 0, 1) := by decide +kernel
theorem dX12_beside_29 : decode cX12_beside 29 = .ok (.bipush 8, 2) := by decide +kernel
theorem dX12_beside_31 : decode cX12_beside 31 = .ok (.if_icmp .lt 10, 3) := by decide +kernel
theorem dX12_beside_34 : decode cX12_beside 34 = .ok (.iload_n 0, 1) := by decide +kernel
theorem dX12_beside_35 : decode cX12_beside 35 = .ok (.bipush 8, 2) := by decide +kernel
theorem dX12_beside_37 : decode cX12_beside 37 = .ok (.isub, 1) := by decide +kernel
theorem dX12_beside_38 : decode cX12_beside 38 = .ok (.goto 4, 3) := by decide +kernel
theorem dX12_beside_41 : decode cX12_beside 41 = .ok (.iconst (-1), 1) := by decide +kernel
theorem dX12_beside_42 : decode cX12_beside 42 = .ok (.ireturn, 1) := by decide +kernel
theorem dX12_beside_43 : decode cX12_beside 43 = .ok (.iload_n 0, 1) := by decide +kernel
theorem dX12_beside_44 : decode cX12_beside 44 = .ok (.bipush 8, 2) := by decide +kernel
theorem dX12_beside_46 : decode cX12_beside 46 = .ok (.irem, 1) := by decide +kernel
theorem dX12_beside_47 : decode cX12_beside 47 = .ok (.ifCond .le 9, 3) := by decide +kernel
theorem dX12_beside_50 : decode cX12_beside 50 = .ok (.iload_n 0, 1) := by decide +kernel
theorem dX12_beside_51 : decode cX12_beside 51 = .ok (.iconst 1, 1) := by decide +kernel
theorem dX12_beside_52 : decode cX12_beside 52 = .ok (.isub, 1) := by decide +kernel
theorem dX12_beside_53 : decode cX12_beside 53 = .ok (.goto 4, 3) := by decide +kernel
theorem dX12_beside_56 : decode cX12_beside 56 = .ok (.iconst (-1), 1) := by decide +kernel
theorem dX12_beside_57 : decode cX12_beside 57 = .ok (.ireturn, 1) := by decide +kernel
theorem dX12_beside_58 : decode cX12_beside 58 = .ok (.iload_n 0, 1) := by decide +kernel
theorem dX12_beside_59 : decode cX12_beside 59 = .ok (.bipush 8, 2) := by decide +kernel
theorem dX12_beside_61 : decode cX12_beside 61 = .ok (.irem, 1) := by decide +kernel
theorem dX12_beside_62 : decode cX12_beside 62 = .ok (.bipush 7, 2) := by decide +kernel
theorem dX12_beside_64 : decode cX12_beside 64 = .ok (.if_icmp .ge 9, 3) := by decide +kernel
theorem dX12_beside_67 : decode cX12_beside 67 = .ok (.iload_n 0, 1) := by decide +kernel
theorem dX12_beside_68 : decode cX12_beside 68 = .ok (.iconst 1, 1) := by decide +kernel
theorem dX12_beside_69 : decode cX12_beside 69 = .ok (.iadd, 1) := by decide +kernel
theorem dX12_beside_70 : decode cX12_beside 70 = .ok (.goto 4, 3) := by decide +kernel
theorem dX12_beside_73 : decode cX12_beside 73 = .ok (.iconst (-1), 1) := by decide +kernel
theorem dX12_beside_74 : decode cX12_beside 74 = .ok (.ireturn, 1) := by decide +kernel
theorem dX12_beside_75 : decode cX12_beside 75 = .ok (.iload_n 0, 1) := by decide +kernel
theorem dX12_beside_76 : decode cX12_beside 76 = .ok (.bipush 40, 2) := by decide +kernel
theorem dX12_beside_78 : decode cX12_beside 78 = .ok (.if_icmp .ge 10, 3) := by decide +kernel
theorem dX12_beside_81 : decode cX12_beside 81 = .ok (.iload_n 0, 1) := by decide +kernel
theorem dX12_beside_82 : decode cX12_beside 82 = .ok (.bipush 8, 2) := by decide +kernel
theorem dX12_beside_84 : decode cX12_beside 84 = .ok (.iadd, 1) := by decide +kernel
theorem dX12_beside_85 : decode cX12_beside 85 = .ok (.goto 4, 3) := by decide +kernel
theorem dX12_beside_88 : decode cX12_beside 88 = .ok (.iconst (-1), 1) := by decide +kernel
theorem dX12_beside_89 : decode cX12_beside 89 = .ok (.ireturn, 1) := by decide +kernel
noncomputable def E_X12_beside : mE := (mX12_beside, [(61, [(0, (.iload_n 1, 1, false, false, 1, 0, 0, 0, 0, 0, [])), (1, (.tableswitch 74 0 2 #[27, 42, 57], 0, false, false, 75, 0, 0, 0, 0, 0, [(0, 28), (1, 43), (2, 58)])), (28, (.iload_n 0, 29, false, false, 0, 0, 0, 0, 0, 0, [])), (29, (.bipush 8, 31, false, false, 0, 0, 0, 0, 8, 0, [])), (31, (.if_icmp .lt 10, 34, false, false, 41, 0, 0, 0, 0, 0, [])), (34, (.iload_n 0, 35, false, false, 0, 0, 0, 0, 0, 0, [])), (35, (.bipush 8, 37, false, false, 0, 0, 0, 0, 8, 0, [])), (37, (.isub, 38, false, false, 0, 0, 0, 0, 0, 0, [])), (38, (.goto 4, 41, false, false, 42, 0, 0, 0, 0, 0, [])), (41, (.iconst (-1), 42, false, false, 0, 0, 0, 0, -1, 0, [])), (42, (.ireturn, 43, false, false, 0, 0, 0, 0, 0, 0, [])), (43, (.iload_n 0, 44, false, false, 0, 0, 0, 0, 0, 0, [])), (44, (.bipush 8, 46, false, false, 0, 0, 0, 0, 8, 0, [])), (46, (.irem, 47, false, false, 0, 0, 0, 0, 0, 0, [])), (47, (.ifCond .le 9, 50, false, false, 56, 0, 0, 0, 0, 0, [])), (50, (.iload_n 0, 51, false, false, 0, 0, 0, 0, 0, 0, [])), (51, (.iconst 1, 52, false, false, 0, 0, 0, 0, 1, 0, [])), (52, (.isub, 53, false, false, 0, 0, 0, 0, 0, 0, [])), (53, (.goto 4, 56, false, false, 57, 0, 0, 0, 0, 0, [])), (56, (.iconst (-1), 57, false, false, 0, 0, 0, 0, -1, 0, [])), (57, (.ireturn, 58, false, false, 0, 0, 0, 0, 0, 0, [])), (58, (.iload_n 0, 59, false, false, 0, 0, 0, 0, 0, 0, [])), (59, (.bipush 8, 61, false, false, 0, 0, 0, 0, 8, 0, [])), (61, (.irem, 62, false, false, 0, 0, 0, 0, 0, 0, []))]),
  (89, [(62, (.bipush 7, 64, false, false, 0, 0, 0, 0, 7, 0, [])), (64, (.if_icmp .ge 9, 67, false, false, 73, 0, 0, 0, 0, 0, [])), (67, (.iload_n 0, 68, false, false, 0, 0, 0, 0, 0, 0, [])), (68, (.iconst 1, 69, false, false, 0, 0, 0, 0, 1, 0, [])), (69, (.iadd, 70, false, false, 0, 0, 0, 0, 0, 0, [])), (70, (.goto 4, 73, false, false, 74, 0, 0, 0, 0, 0, [])), (73, (.iconst (-1), 74, false, false, 0, 0, 0, 0, -1, 0, [])), (74, (.ireturn, 75, false, false, 0, 0, 0, 0, 0, 0, [])), (75, (.iload_n 0, 76, false, false, 0, 0, 0, 0, 0, 0, [])), (76, (.bipush 40, 78, false, false, 0, 0, 0, 0, 40, 0, [])), (78, (.if_icmp .ge 10, 81, false, false, 88, 0, 0, 0, 0, 0, [])), (81, (.iload_n 0, 82, false, false, 0, 0, 0, 0, 0, 0, [])), (82, (.bipush 8, 84, false, false, 0, 0, 0, 0, 8, 0, [])), (84, (.iadd, 85, false, false, 0, 0, 0, 0, 0, 0, [])), (85, (.goto 4, 88, false, false, 89, 0, 0, 0, 0, 0, [])), (88, (.iconst (-1), 89, false, false, 0, 0, 0, 0, -1, 0, [])), (89, (.ireturn, 90, false, false, 0, 0, 0, 0, 0, 0, []))])], 0, [])
set_option maxRecDepth 100000 in
theorem v_X12_beside : VE MYT dflT E_X12_beside := ⟨⟨⟨⟨⟨dX12_beside_0, rfl⟩, rfl⟩, ⟨⟨_, dX12_beside_1⟩, ⟨rfl, rfl, rfl, rfl, rfl, rfl, rfl, rfl, trivial⟩⟩, ⟨⟨dX12_beside_28, rfl⟩, rfl⟩, ⟨⟨dX12_beside_29, rfl⟩, rfl⟩, ⟨⟨dX12_beside_31, rfl⟩, rfl⟩, ⟨⟨dX12_beside_34, rfl⟩, rfl⟩, ⟨⟨dX12_beside_35, rfl⟩, rfl⟩, ⟨⟨dX12_beside_37, rfl⟩, trivial⟩, ⟨⟨dX12_beside_38, rfl⟩, rfl⟩, ⟨⟨dX12_beside_41, rfl⟩, rfl⟩, ⟨⟨dX12_beside_42, rfl⟩, Or.inl ⟨rfl, rfl⟩⟩, ⟨⟨dX12_beside_43, rfl⟩, rfl⟩, ⟨⟨dX12_beside_44, rfl⟩, rfl⟩, ⟨⟨dX12_beside_46, rfl⟩, trivial⟩, ⟨⟨dX12_beside_47, rfl⟩, rfl⟩, ⟨⟨dX12_beside_50, rfl⟩, rfl⟩, ⟨⟨dX12_beside_51, rfl⟩, rfl⟩, ⟨⟨dX12_beside_52, rfl⟩, trivial⟩, ⟨⟨dX12_beside_53, rfl⟩, rfl⟩, ⟨⟨dX12_beside_56, rfl⟩, rfl⟩, ⟨⟨dX12_beside_57, rfl⟩, Or.inl ⟨rfl, rfl⟩⟩, ⟨⟨dX12_beside_58, rfl⟩, rfl⟩, ⟨⟨dX12_beside_59, rfl⟩, rfl⟩, ⟨⟨dX12_beside_61, rfl⟩, trivial⟩, trivial⟩,
  ⟨⟨⟨dX12_beside_62, rfl⟩, rfl⟩, ⟨⟨dX12_beside_64, rfl⟩, rfl⟩, ⟨⟨dX12_beside_67, rfl⟩, rfl⟩, ⟨⟨dX12_beside_68, rfl⟩, rfl⟩, ⟨⟨dX12_beside_69, rfl⟩, trivial⟩, ⟨⟨dX12_beside_70, rfl⟩, rfl⟩, ⟨⟨dX12_beside_73, rfl⟩, rfl⟩, ⟨⟨dX12_beside_74, rfl⟩, Or.inl ⟨rfl, rfl⟩⟩, ⟨⟨dX12_beside_75, rfl⟩, rfl⟩, ⟨⟨dX12_beside_76, rfl⟩, rfl⟩, ⟨⟨dX12_beside_78, rfl⟩, rfl⟩, ⟨⟨dX12_beside_81, rfl⟩, rfl⟩, ⟨⟨dX12_beside_82, rfl⟩, rfl⟩, ⟨⟨dX12_beside_84, rfl⟩, trivial⟩, ⟨⟨dX12_beside_85, rfl⟩, rfl⟩, ⟨⟨dX12_beside_88, rfl⟩, rfl⟩, ⟨⟨dX12_beside_89, rfl⟩, Or.inl ⟨rfl, rfl⟩⟩, trivial⟩, trivial⟩, by decide, Or.inl ⟨rfl, by decide, rfl⟩⟩
set_option maxRecDepth 100000 in
theorem g_X12_beside_0 (S : sT) (call : cT) (n : Nat) (x0 : Int32) (x1 : Int32) (h : pH) : bd S call dflT E_X12_beside (n + 1) 0 [some (.int x0), some (.int x1)] [] h = ((if x1 = 0 then bd S call dflT E_X12_beside n 28 [some (.int x0), some (.int x1)] [] h else (if x1 = 1 then bd S call dflT E_X12_beside n 43 [some (.int x0), some (.int x1)] [] h else (if x1 = 2 then bd S call dflT E_X12_beside n 58 [some (.int x0), some (.int x1)] [] h else bd S call dflT E_X12_beside n 75 [some (.int x0), some (.int x1)] [] h)))) := rfl
set_option maxRecDepth 100000 in
theorem g_X12_beside_28 (S : sT) (call : cT) (n : Nat) (x0 : Int32) (x1 : Int32) (h : pH) : bd S call dflT E_X12_beside (n + 1) 28 [some (.int x0), some (.int x1)] [] h = ((if x0 < 8 then some (.inl (some (.int (-1))), h) else some (.inl (some (.int (x0 - 8))), h))) := rfl
set_option maxRecDepth 100000 in
theorem g_X12_beside_43 (S : sT) (call : cT) (n : Nat) (x0 : Int32) (x1 : Int32) (h : pH) : bd S call dflT E_X12_beside (n + 1) 43 [some (.int x0), some (.int x1)] [] h = (dv 8 ((if (x0 - x0 / 8 * 8) ≤ 0 then some (.inl (some (.int (-1))), h) else some (.inl (some (.int (x0 - 1))), h)))) := rfl
set_option maxRecDepth 100000 in
theorem g_X12_beside_58 (S : sT) (call : cT) (n : Nat) (x0 : Int32) (x1 : Int32) (h : pH) : bd S call dflT E_X12_beside (n + 1) 58 [some (.int x0), some (.int x1)] [] h = (dv 8 ((if 7 ≤ (x0 - x0 / 8 * 8) then some (.inl (some (.int (-1))), h) else some (.inl (some (.int (x0 + 1))), h)))) := rfl
set_option maxRecDepth 100000 in
theorem g_X12_beside_75 (S : sT) (call : cT) (n : Nat) (x0 : Int32) (x1 : Int32) (h : pH) : bd S call dflT E_X12_beside (n + 1) 75 [some (.int x0), some (.int x1)] [] h = ((if 40 ≤ x0 then some (.inl (some (.int (-1))), h) else some (.inl (some (.int (x0 + 8))), h))) := rfl
theorem dX12_isNearWood_0 : decode cX12_isNearWood 0 = .ok (.iconst 0, 1) := by decide +kernel
theorem dX12_isNearWood_1 : decode cX12_isNearWood 1 = .ok (.istore_n 2, 1) := by decide +kernel
theorem dX12_isNearWood_2 : decode cX12_isNearWood 2 = .ok (.iconst 0, 1) := by decide +kernel
theorem dX12_isNearWood_3 : decode cX12_isNearWood 3 = .ok (.istore_n 3, 1) := by decide +kernel
theorem dX12_isNearWood_4 : decode cX12_isNearWood 4 = .ok (.iload_n 3, 1) := by decide +kernel
theorem dX12_isNearWood_5 : decode cX12_isNearWood 5 = .ok (.iconst 4, 1) := by decide +kernel
theorem dX12_isNearWood_6 : decode cX12_isNearWood 6 = .ok (.if_icmp .ge 40, 3) := by decide +kernel
theorem dX12_isNearWood_9 : decode cX12_isNearWood 9 = .ok (.iload_n 2, 1) := by decide +kernel
theorem dX12_isNearWood_10 : decode cX12_isNearWood 10 = .ok (.ifCond .ne 24, 3) := by decide +kernel
theorem dX12_isNearWood_13 : decode cX12_isNearWood 13 = .ok (.iload_n 1, 1) := by decide +kernel
theorem dX12_isNearWood_14 : decode cX12_isNearWood 14 = .ok (.iload_n 3, 1) := by decide +kernel
theorem dX12_isNearWood_15 : decode cX12_isNearWood 15 = .ok (.invokestatic 416, 3) := by decide +kernel
theorem dX12_isNearWood_18 : decode cX12_isNearWood 18 = .ok (.ifCond .lt 20, 3) := by decide +kernel
theorem dX12_isNearWood_21 : decode cX12_isNearWood 21 = .ok (.aload_n 0, 1) := by decide +kernel
theorem dX12_isNearWood_22 : decode cX12_isNearWood 22 = .ok (.iload_n 1, 1) := by decide +kernel
theorem dX12_isNearWood_23 : decode cX12_isNearWood 23 = .ok (.iload_n 3, 1) := by decide +kernel
theorem dX12_isNearWood_24 : decode cX12_isNearWood 24 = .ok (.invokestatic 416, 3) := by decide +kernel
theorem dX12_isNearWood_27 : decode cX12_isNearWood 27 = .ok (.invokevirtual 380, 3) := by decide +kernel
theorem dX12_isNearWood_30 : decode cX12_isNearWood 30 = .ok (.iconst 3, 1) := by decide +kernel
theorem dX12_isNearWood_31 : decode cX12_isNearWood 31 = .ok (.if_icmp .ne 7, 3) := by decide +kernel
theorem dX12_isNearWood_34 : decode cX12_isNearWood 34 = .ok (.iconst 1, 1) := by decide +kernel
theorem dX12_isNearWood_35 : decode cX12_isNearWood 35 = .ok (.goto 4, 3) := by decide +kernel
theorem dX12_isNearWood_38 : decode cX12_isNearWood 38 = .ok (.iconst 0, 1) := by decide +kernel
theorem dX12_isNearWood_39 : decode cX12_isNearWood 39 = .ok (.istore_n 2, 1) := by decide +kernel
theorem dX12_isNearWood_40 : decode cX12_isNearWood 40 = .ok (.iinc 3 1, 3) := by decide +kernel
theorem dX12_isNearWood_43 : decode cX12_isNearWood 43 = .ok (.goto (-39), 3) := by decide +kernel
theorem dX12_isNearWood_46 : decode cX12_isNearWood 46 = .ok (.iload_n 2, 1) := by decide +kernel
theorem dX12_isNearWood_47 : decode cX12_isNearWood 47 = .ok (.ireturn, 1) := by decide +kernel
noncomputable def E_X12_isNearWood : mE := (mX12_isNearWood, [(39, [(0, (.iconst 0, 1, false, false, 0, 0, 0, 0, 0, 0, [])), (1, (.istore_n 2, 2, false, false, 2, 0, 0, 0, 0, 0, [])), (2, (.iconst 0, 3, false, false, 0, 0, 0, 0, 0, 0, [])), (3, (.istore_n 3, 4, true, false, 3, 0, 0, 0, 0, 0, [])), (4, (.iload_n 3, 5, false, false, 3, 0, 0, 0, 0, 0, [])), (5, (.iconst 4, 6, false, false, 0, 0, 0, 0, 4, 0, [])), (6, (.if_icmp .ge 40, 9, false, false, 46, 0, 0, 0, 0, 0, [])), (9, (.iload_n 2, 10, false, false, 2, 0, 0, 0, 0, 0, [])), (10, (.ifCond .ne 24, 13, false, false, 34, 0, 0, 0, 0, 0, [])), (13, (.iload_n 1, 14, false, false, 1, 0, 0, 0, 0, 0, [])), (14, (.iload_n 3, 15, false, false, 3, 0, 0, 0, 0, 0, [])), (15, (.invokestatic 416, 18, false, false, 244, 2, 1, 0, 0, 0, [])), (18, (.ifCond .lt 20, 21, false, false, 38, 0, 0, 0, 0, 0, [])), (21, (.aload_n 0, 22, false, false, 0, 0, 0, 0, 0, 0, [])), (22, (.iload_n 1, 23, false, false, 1, 0, 0, 0, 0, 0, [])), (23, (.iload_n 3, 24, false, false, 3, 0, 0, 0, 0, 0, [])), (24, (.invokestatic 416, 27, false, false, 244, 2, 1, 0, 0, 0, [])), (27, (.invokevirtual 380, 30, false, false, 166, 1, 1, 15, 0, 0, [])), (30, (.iconst 3, 31, false, false, 0, 0, 0, 0, 3, 0, [])), (31, (.if_icmp .ne 7, 34, false, false, 38, 0, 0, 0, 0, 0, [])), (34, (.iconst 1, 35, false, false, 0, 0, 0, 0, 1, 0, [])), (35, (.goto 4, 38, false, false, 39, 0, 0, 0, 0, 0, [])), (38, (.iconst 0, 39, false, false, 0, 0, 0, 0, 0, 0, [])), (39, (.istore_n 2, 40, false, false, 2, 0, 0, 0, 0, 0, []))]),
  (47, [(40, (.iinc 3 1, 43, false, false, 3, 0, 0, 0, 1, 0, [])), (43, (.goto (-39), 46, false, true, 4, 0, 0, 0, 0, 0, [])), (46, (.iload_n 2, 47, false, false, 2, 0, 0, 0, 0, 0, [])), (47, (.ireturn, 48, false, false, 0, 0, 1, 0, 0, 0, []))])], 0, [])
set_option maxRecDepth 100000 in
theorem v_X12_isNearWood : VE MYT dflT E_X12_isNearWood := ⟨⟨⟨⟨⟨dX12_isNearWood_0, rfl⟩, rfl⟩, ⟨⟨dX12_isNearWood_1, rfl⟩, rfl⟩, ⟨⟨dX12_isNearWood_2, rfl⟩, rfl⟩, ⟨⟨dX12_isNearWood_3, rfl⟩, rfl⟩, ⟨⟨dX12_isNearWood_4, rfl⟩, rfl⟩, ⟨⟨dX12_isNearWood_5, rfl⟩, rfl⟩, ⟨⟨dX12_isNearWood_6, rfl⟩, rfl⟩, ⟨⟨dX12_isNearWood_9, rfl⟩, rfl⟩, ⟨⟨dX12_isNearWood_10, rfl⟩, rfl⟩, ⟨⟨dX12_isNearWood_13, rfl⟩, rfl⟩, ⟨⟨dX12_isNearWood_14, rfl⟩, rfl⟩, ⟨⟨dX12_isNearWood_15, rfl⟩, Or.inl ⟨rfl, _, my_244, sX12_416⟩⟩, ⟨⟨dX12_isNearWood_18, rfl⟩, rfl⟩, ⟨⟨dX12_isNearWood_21, rfl⟩, rfl⟩, ⟨⟨dX12_isNearWood_22, rfl⟩, rfl⟩, ⟨⟨dX12_isNearWood_23, rfl⟩, rfl⟩, ⟨⟨dX12_isNearWood_24, rfl⟩, Or.inl ⟨rfl, _, my_244, sX12_416⟩⟩, ⟨⟨dX12_isNearWood_27, rfl⟩, Or.inr ⟨by decide, ⟨_, my_166, sX12_380⟩, fun q => absurd q (by decide)⟩⟩, ⟨⟨dX12_isNearWood_30, rfl⟩, rfl⟩, ⟨⟨dX12_isNearWood_31, rfl⟩, rfl⟩, ⟨⟨dX12_isNearWood_34, rfl⟩, rfl⟩, ⟨⟨dX12_isNearWood_35, rfl⟩, rfl⟩, ⟨⟨dX12_isNearWood_38, rfl⟩, rfl⟩, ⟨⟨dX12_isNearWood_39, rfl⟩, rfl⟩, trivial⟩,
  ⟨⟨⟨dX12_isNearWood_40, rfl⟩, ⟨rfl, rfl⟩⟩, ⟨⟨dX12_isNearWood_43, rfl⟩, rfl⟩, ⟨⟨dX12_isNearWood_46, rfl⟩, rfl⟩, ⟨⟨dX12_isNearWood_47, rfl⟩, Or.inr (Or.inl ⟨rfl, rfl⟩)⟩, trivial⟩, trivial⟩, by decide, Or.inl ⟨rfl, by decide, rfl⟩⟩
set_option maxRecDepth 100000 in
theorem g_X12_isNearWood_0 (S : sT) (call : cT) (n : Nat) (a0 : Nat) (x1 : Int32) (h : pH) : bd S call dflT E_X12_isNearWood (n + 1) 0 [some (.ref a0), some (.int x1), none, none] [] h = (bd S call dflT E_X12_isNearWood n 4 [some (.ref a0), some (.int x1), some (.int 0), some (.int 0)] [] h) := rfl
set_option maxRecDepth 100000 in
theorem g_X12_isNearWood_4 (S : sT) (call : cT) (n : Nat) (a0 : Nat) (x1 : Int32) (x2 : Int32) (x3 : Int32) (h : pH) : bd S call dflT E_X12_isNearWood (n + 1) 4 [some (.ref a0), some (.int x1), some (.int x2), some (.int x3)] [] h = ((if 4 ≤ x3 then zR x2 (some (.inl (some (.int x2)), h)) else (if x2 = 0 then cI (call 244 [.int x1, .int x3] h) (fun y2 h1 => (if y2 < 0 then bd S call dflT E_X12_isNearWood n 4 [some (.ref a0), some (.int x1), some (.int 0), some (.int (x3 + 1))] [] h1 else cI (call 244 [.int x1, .int x3] h1) (fun y4 h3 => rC h3 (.ref a0) 15 (cI (call 166 [.ref a0, .int y4] h3) (fun y6 h5 => (if y6 = 3 then bd S call dflT E_X12_isNearWood n 4 [some (.ref a0), some (.int x1), some (.int 1), some (.int (x3 + 1))] [] h5 else bd S call dflT E_X12_isNearWood n 4 [some (.ref a0), some (.int x1), some (.int 0), some (.int (x3 + 1))] [] h5)))))) else bd S call dflT E_X12_isNearWood n 4 [some (.ref a0), some (.int x1), some (.int 1), some (.int (x3 + 1))] [] h))) := rfl
theorem dX12_grows_0 : decode cX12_grows 0 = .ok (.iconst 0, 1) := by decide +kernel
theorem dX12_grows_1 : decode cX12_grows 1 = .ok (.istore_n 1, 1) := by decide +kernel
theorem dX12_grows_2 : decode cX12_grows 2 = .ok (.iload_n 1, 1) := by decide +kernel
theorem dX12_grows_3 : decode cX12_grows 3 = .ok (.bipush 48, 2) := by decide +kernel
theorem dX12_grows_5 : decode cX12_grows 5 = .ok (.if_icmp .ge 152, 3) := by decide +kernel
theorem dX12_grows_8 : decode cX12_grows 8 = .ok (.aload_n 0, 1) := by decide +kernel
theorem dX12_grows_9 : decode cX12_grows 9 = .ok (.iload_n 1, 1) := by decide +kernel
theorem dX12_grows_10 : decode cX12_grows 10 = .ok (.bipush 11, 2) := by decide +kernel
theorem dX12_grows_12 : decode cX12_grows 12 = .ok (.invokevirtual 79, 3) := by decide +kernel
theorem dX12_grows_15 : decode cX12_grows 15 = .ok (.iconst 1, 1) := by decide +kernel
theorem dX12_grows_16 : decode cX12_grows 16 = .ok (.if_icmp .ne 6, 3) := by decide +kernel
theorem dX12_grows_19 : decode cX12_grows 19 = .ok (.goto 132, 3) := by decide +kernel
theorem dX12_grows_22 : decode cX12_grows 22 = .ok (.aload_n 0, 1) := by decide +kernel
theorem dX12_grows_23 : decode cX12_grows 23 = .ok (.iload_n 1, 1) := by decide +kernel
theorem dX12_grows_24 : decode cX12_grows 24 = .ok (.bipush 6, 2) := by decide +kernel
theorem dX12_grows_26 : decode cX12_grows 26 = .ok (.invokevirtual 79, 3) := by decide +kernel
theorem dX12_grows_29 : decode cX12_grows 29 = .ok (.istore_n 2, 1) := by decide +kernel
theorem dX12_grows_30 : decode cX12_grows 30 = .ok (.aload_n 0, 1) := by decide +kernel
theorem dX12_grows_31 : decode cX12_grows 31 = .ok (.iload_n 1, 1) := by decide +kernel
theorem dX12_grows_32 : decode cX12_grows 32 = .ok (.invokevirtual 380, 3) := by decide +kernel
theorem dX12_grows_35 : decode cX12_grows 35 = .ok (.iconst 3, 1) := by decide +kernel
theorem dX12_grows_36 : decode cX12_grows 36 = .ok (.if_icmp .ne 44, 3) := by decide +kernel
theorem dX12_grows_39 : decode cX12_grows 39 = .ok (.aload_n 0, 1) := by decide +kernel
theorem dX12_grows_40 : decode cX12_grows 40 = .ok (.getfield 27, 3) := by decide +kernel
theorem dX12_grows_43 : decode cX12_grows 43 = .ok (.iload_n 1, 1) := by decide +kernel
theorem dX12_grows_44 : decode cX12_grows 44 = .ok (.bipush 6, 2) := by decide +kernel
theorem dX12_grows_46 : decode cX12_grows 46 = .ok (.invokestatic 59, 3) := by decide +kernel
theorem dX12_grows_49 : decode cX12_grows 49 = .ok (.bipush 99, 2) := by decide +kernel
theorem dX12_grows_51 : decode cX12_grows 51 = .ok (.iload_n 2, 1) := by decide +kernel
theorem dX12_grows_52 : decode cX12_grows 52 = .ok (.iload_n 2, 1) := by decide +kernel
theorem dX12_grows_53 : decode cX12_grows 53 = .ok (.iconst 1, 1) := by decide +kernel
theorem dX12_grows_54 : decode cX12_grows 54 = .ok (.iadd, 1) := by decide +kernel
theorem dX12_grows_55 : decode cX12_grows 55 = .ok (.iconst 2, 1) := by decide +kernel
theorem dX12_grows_56 : decode cX12_grows 56 = .ok (.idiv, 1) := by decide +kernel
theorem dX12_grows_57 : decode cX12_grows 57 = .ok (.iadd, 1) := by decide +kernel
theorem dX12_grows_58 : decode cX12_grows 58 = .ok (.invokestatic 358, 3) := by decide +kernel
theorem dX12_grows_61 : decode cX12_grows 61 = .ok (.iastore, 1) := by decide +kernel
theorem dX12_grows_62 : decode cX12_grows 62 = .ok (.aload_n 0, 1) := by decide +kernel
theorem dX12_grows_63 : decode cX12_grows 63 = .ok (.getfield 27, 3) := by decide +kernel
theorem dX12_grows_66 : decode cX12_grows 66 = .ok (.iload_n 1, 1) := by decide +kernel
theorem dX12_grows_67 : decode cX12_grows 67 = .ok (.bipush 7, 2) := by decide +kernel
theorem dX12_grows_69 : decode cX12_grows 69 = .ok (.invokestatic 59, 3) := by decide +kernel
theorem dX12_grows_72 : decode cX12_grows 72 = .ok (.dup2, 1) := by decide +kernel
theorem dX12_grows_73 : decode cX12_grows 73 = .ok (.iaload, 1) := by decide +kernel
theorem dX12_grows_74 : decode cX12_grows 74 = .ok (.iconst 1, 1) := by decide +kernel
theorem dX12_grows_75 : decode cX12_grows 75 = .ok (.iadd, 1) := by decide +kernel
theorem dX12_grows_76 : decode cX12_grows 76 = .ok (.iastore, 1) := by decide +kernel
theorem dX12_grows_77 : decode cX12_grows 77 = .ok (.goto 30, 3) := by decide +kernel
theorem dX12_grows_80 : decode cX12_grows 80 = .ok (.aload_n 0, 1) := by decide +kernel
theorem dX12_grows_81 : decode cX12_grows 81 = .ok (.iload_n 1, 1) := by decide +kernel
theorem dX12_grows_82 : decode cX12_grows 82 = .ok (.invokevirtual 419, 3) := by decide +kernel
theorem dX12_grows_85 : decode cX12_grows 85 = .ok (.ifCond .eq 22, 3) := by decide +kernel
theorem dX12_grows_88 : decode cX12_grows 88 = .ok (.aload_n 0, 1) := by decide +kernel
theorem dX12_grows_89 : decode cX12_grows 89 = .ok (.getfield 27, 3) := by decide +kernel
theorem dX12_grows_92 : decode cX12_grows 92 = .ok (.iload_n 1, 1) := by decide +kernel
theorem dX12_grows_93 : decode cX12_grows 93 = .ok (.bipush 6, 2) := by decide +kernel
theorem dX12_grows_95 : decode cX12_grows 95 = .ok (.invokestatic 59, 3) := by decide +kernel
theorem dX12_grows_98 : decode cX12_grows 98 = .ok (.bipush 99, 2) := by decide +kernel
theorem dX12_grows_100 : decode cX12_grows 100 = .ok (.iload_n 2, 1) := by decide +kernel
theorem dX12_grows_101 : decode cX12_grows 101 = .ok (.iconst 1, 1) := by decide +kernel
theorem dX12_grows_102 : decode cX12_grows 102 = .ok (.iadd, 1) := by decide +kernel
theorem dX12_grows_103 : decode cX12_grows 103 = .ok (.invokestatic 358, 3) := by decide +kernel
theorem dX12_grows_106 : decode cX12_grows 106 = .ok (.iastore, 1) := by decide +kernel
theorem dX12_grows_107 : decode cX12_grows 107 = .ok (.aload_n 0, 1) := by decide +kernel
theorem dX12_grows_108 : decode cX12_grows 108 = .ok (.getfield 27, 3) := by decide +kernel
theorem dX12_grows_111 : decode cX12_grows 111 = .ok (.iload_n 1, 1) := by decide +kernel
theorem dX12_grows_112 : decode cX12_grows 112 = .ok (.iconst 4, 1) := by decide +kernel
theorem dX12_grows_113 : decode cX12_grows 113 = .ok (.invokestatic 59, 3) := by decide +kernel
theorem dX12_grows_116 : decode cX12_grows 116 = .ok (.iconst 0, 1) := by decide +kernel
theorem dX12_grows_117 : decode cX12_grows 117 = .ok (.aload_n 0, 1) := by decide +kernel
theorem dX12_grows_118 : decode cX12_grows 118 = .ok (.iload_n 1, 1) := by decide +kernel
theorem dX12_grows_119 : decode cX12_grows 119 = .ok (.iconst 4, 1) := by decide +kernel
theorem dX12_grows_120 : decode cX12_grows 120 = .ok (.invokevirtual 79, 3) := by decide +kernel
theorem dX12_grows_123 : decode cX12_grows 123 = .ok (.iconst 1, 1) := by decide +kernel
theorem dX12_grows_124 : decode cX12_grows 124 = .ok (.isub, 1) := by decide +kernel
theorem dX12_grows_125 : decode cX12_grows 125 = .ok (.invokestatic 100, 3) := by decide +kernel
theorem dX12_grows_128 : decode cX12_grows 128 = .ok (.iastore, 1) := by decide +kernel
theorem dX12_grows_129 : decode cX12_grows 129 = .ok (.aload_n 0, 1) := by decide +kernel
theorem dX12_grows_130 : decode cX12_grows 130 = .ok (.getfield 27, 3) := by decide +kernel
theorem dX12_grows_133 : decode cX12_grows 133 = .ok (.iload_n 1, 1) := by decide +kernel
theorem dX12_grows_134 : decode cX12_grows 134 = .ok (.iconst 5, 1) := by decide +kernel
theorem dX12_grows_135 : decode cX12_grows 135 = .ok (.invokestatic 59, 3) := by decide +kernel
theorem dX12_grows_138 : decode cX12_grows 138 = .ok (.iconst 0, 1) := by decide +kernel
theorem dX12_grows_139 : decode cX12_grows 139 = .ok (.aload_n 0, 1) := by decide +kernel
theorem dX12_grows_140 : decode cX12_grows 140 = .ok (.iload_n 1, 1) := by decide +kernel
theorem dX12_grows_141 : decode cX12_grows 141 = .ok (.iconst 5, 1) := by decide +kernel
theorem dX12_grows_142 : decode cX12_grows 142 = .ok (.invokevirtual 79, 3) := by decide +kernel
theorem dX12_grows_145 : decode cX12_grows 145 = .ok (.iconst 1, 1) := by decide +kernel
theorem dX12_grows_146 : decode cX12_grows 146 = .ok (.isub, 1) := by decide +kernel
theorem dX12_grows_147 : decode cX12_grows 147 = .ok (.invokestatic 100, 3) := by decide +kernel
theorem dX12_grows_150 : decode cX12_grows 150 = .ok (.iastore, 1) := by decide +kernel
theorem dX12_grows_151 : decode cX12_grows 151 = .ok (.iinc 1 1, 3) := by decide +kernel
theorem dX12_grows_154 : decode cX12_grows 154 = .ok (.goto (-152), 3) := by decide +kernel
theorem dX12_grows_157 : decode cX12_grows 157 = .ok (.return_, 1) := by decide +kernel
noncomputable def E_X12_grows : mE := (mX12_grows, [(40, [(0, (.iconst 0, 1, false, false, 0, 0, 0, 0, 0, 0, [])), (1, (.istore_n 1, 2, true, false, 1, 0, 0, 0, 0, 0, [])), (2, (.iload_n 1, 3, false, false, 1, 0, 0, 0, 0, 0, [])), (3, (.bipush 48, 5, false, false, 0, 0, 0, 0, 48, 0, [])), (5, (.if_icmp .ge 152, 8, false, false, 157, 0, 0, 0, 0, 0, [])), (8, (.aload_n 0, 9, false, false, 0, 0, 0, 0, 0, 0, [])), (9, (.iload_n 1, 10, false, false, 1, 0, 0, 0, 0, 0, [])), (10, (.bipush 11, 12, false, false, 0, 0, 0, 0, 11, 0, [])), (12, (.invokevirtual 79, 15, false, false, 31, 2, 1, 15, 0, 0, [])), (15, (.iconst 1, 16, false, false, 0, 0, 0, 0, 1, 0, [])), (16, (.if_icmp .ne 6, 19, false, false, 22, 0, 0, 0, 0, 0, [])), (19, (.goto 132, 22, false, false, 151, 0, 0, 0, 0, 0, [])), (22, (.aload_n 0, 23, false, false, 0, 0, 0, 0, 0, 0, [])), (23, (.iload_n 1, 24, false, false, 1, 0, 0, 0, 0, 0, [])), (24, (.bipush 6, 26, false, false, 0, 0, 0, 0, 6, 0, [])), (26, (.invokevirtual 79, 29, false, false, 31, 2, 1, 15, 0, 0, [])), (29, (.istore_n 2, 30, false, false, 2, 0, 0, 0, 0, 0, [])), (30, (.aload_n 0, 31, false, false, 0, 0, 0, 0, 0, 0, [])), (31, (.iload_n 1, 32, false, false, 1, 0, 0, 0, 0, 0, [])), (32, (.invokevirtual 380, 35, false, false, 166, 1, 1, 15, 0, 0, [])), (35, (.iconst 3, 36, false, false, 0, 0, 0, 0, 3, 0, [])), (36, (.if_icmp .ne 44, 39, false, false, 80, 0, 0, 0, 0, 0, [])), (39, (.aload_n 0, 40, false, false, 0, 0, 0, 0, 0, 0, [])), (40, (.getfield 27, 43, false, false, 15, 1, 1, 0, 0, 0, []))]),
  (77, [(43, (.iload_n 1, 44, false, false, 1, 0, 0, 0, 0, 0, [])), (44, (.bipush 6, 46, false, false, 0, 0, 0, 0, 6, 0, [])), (46, (.invokestatic 59, 49, false, false, 12, 2, 1, 0, 0, 0, [])), (49, (.bipush 99, 51, false, false, 0, 0, 0, 0, 99, 0, [])), (51, (.iload_n 2, 52, false, false, 2, 0, 0, 0, 0, 0, [])), (52, (.iload_n 2, 53, false, false, 2, 0, 0, 0, 0, 0, [])), (53, (.iconst 1, 54, false, false, 0, 0, 0, 0, 1, 0, [])), (54, (.iadd, 55, false, false, 0, 0, 0, 0, 0, 0, [])), (55, (.iconst 2, 56, false, false, 0, 0, 0, 0, 2, 0, [])), (56, (.idiv, 57, false, false, 0, 0, 0, 0, 0, 0, [])), (57, (.iadd, 58, false, false, 0, 0, 0, 0, 0, 0, [])), (58, (.invokestatic 358, 61, false, false, 0, 2, 1, 6, 0, 0, [])), (61, (.iastore, 62, false, false, 0, 0, 0, 0, 0, 0, [])), (62, (.aload_n 0, 63, false, false, 0, 0, 0, 0, 0, 0, [])), (63, (.getfield 27, 66, false, false, 15, 1, 1, 0, 0, 0, [])), (66, (.iload_n 1, 67, false, false, 1, 0, 0, 0, 0, 0, [])), (67, (.bipush 7, 69, false, false, 0, 0, 0, 0, 7, 0, [])), (69, (.invokestatic 59, 72, false, false, 12, 2, 1, 0, 0, 0, [])), (72, (.dup2, 73, false, false, 0, 0, 0, 0, 0, 0, [])), (73, (.iaload, 74, false, false, 0, 0, 0, 0, 0, 0, [])), (74, (.iconst 1, 75, false, false, 0, 0, 0, 0, 1, 0, [])), (75, (.iadd, 76, false, false, 0, 0, 0, 0, 0, 0, [])), (76, (.iastore, 77, false, false, 0, 0, 0, 0, 0, 0, [])), (77, (.goto 30, 80, false, true, 107, 0, 0, 0, 0, 0, []))]),
  (119, [(80, (.aload_n 0, 81, false, false, 0, 0, 0, 0, 0, 0, [])), (81, (.iload_n 1, 82, false, false, 1, 0, 0, 0, 0, 0, [])), (82, (.invokevirtual 419, 85, false, false, 245, 1, 1, 15, 0, 0, [])), (85, (.ifCond .eq 22, 88, false, true, 107, 0, 0, 0, 0, 0, [])), (88, (.aload_n 0, 89, false, false, 0, 0, 0, 0, 0, 0, [])), (89, (.getfield 27, 92, false, false, 15, 1, 1, 0, 0, 0, [])), (92, (.iload_n 1, 93, false, false, 1, 0, 0, 0, 0, 0, [])), (93, (.bipush 6, 95, false, false, 0, 0, 0, 0, 6, 0, [])), (95, (.invokestatic 59, 98, false, false, 12, 2, 1, 0, 0, 0, [])), (98, (.bipush 99, 100, false, false, 0, 0, 0, 0, 99, 0, [])), (100, (.iload_n 2, 101, false, false, 2, 0, 0, 0, 0, 0, [])), (101, (.iconst 1, 102, false, false, 0, 0, 0, 0, 1, 0, [])), (102, (.iadd, 103, false, false, 0, 0, 0, 0, 0, 0, [])), (103, (.invokestatic 358, 106, false, false, 0, 2, 1, 6, 0, 0, [])), (106, (.iastore, 107, true, false, 0, 0, 0, 0, 0, 0, [])), (107, (.aload_n 0, 108, false, false, 0, 0, 0, 0, 0, 0, [])), (108, (.getfield 27, 111, false, false, 15, 1, 1, 0, 0, 0, [])), (111, (.iload_n 1, 112, false, false, 1, 0, 0, 0, 0, 0, [])), (112, (.iconst 4, 113, false, false, 0, 0, 0, 0, 4, 0, [])), (113, (.invokestatic 59, 116, false, false, 12, 2, 1, 0, 0, 0, [])), (116, (.iconst 0, 117, false, false, 0, 0, 0, 0, 0, 0, [])), (117, (.aload_n 0, 118, false, false, 0, 0, 0, 0, 0, 0, [])), (118, (.iload_n 1, 119, false, false, 1, 0, 0, 0, 0, 0, [])), (119, (.iconst 4, 120, false, false, 0, 0, 0, 0, 4, 0, []))]),
  (157, [(120, (.invokevirtual 79, 123, false, false, 31, 2, 1, 15, 0, 0, [])), (123, (.iconst 1, 124, false, false, 0, 0, 0, 0, 1, 0, [])), (124, (.isub, 125, false, false, 0, 0, 0, 0, 0, 0, [])), (125, (.invokestatic 100, 128, false, false, 0, 2, 1, 5, 0, 0, [])), (128, (.iastore, 129, false, false, 0, 0, 0, 0, 0, 0, [])), (129, (.aload_n 0, 130, false, false, 0, 0, 0, 0, 0, 0, [])), (130, (.getfield 27, 133, false, false, 15, 1, 1, 0, 0, 0, [])), (133, (.iload_n 1, 134, false, false, 1, 0, 0, 0, 0, 0, [])), (134, (.iconst 5, 135, false, false, 0, 0, 0, 0, 5, 0, [])), (135, (.invokestatic 59, 138, false, false, 12, 2, 1, 0, 0, 0, [])), (138, (.iconst 0, 139, false, false, 0, 0, 0, 0, 0, 0, [])), (139, (.aload_n 0, 140, false, false, 0, 0, 0, 0, 0, 0, [])), (140, (.iload_n 1, 141, false, false, 1, 0, 0, 0, 0, 0, [])), (141, (.iconst 5, 142, false, false, 0, 0, 0, 0, 5, 0, [])), (142, (.invokevirtual 79, 145, false, false, 31, 2, 1, 15, 0, 0, [])), (145, (.iconst 1, 146, false, false, 0, 0, 0, 0, 1, 0, [])), (146, (.isub, 147, false, false, 0, 0, 0, 0, 0, 0, [])), (147, (.invokestatic 100, 150, false, false, 0, 2, 1, 5, 0, 0, [])), (150, (.iastore, 151, false, false, 0, 0, 0, 0, 0, 0, [])), (151, (.iinc 1 1, 154, false, false, 1, 0, 0, 0, 1, 0, [])), (154, (.goto (-152), 157, false, true, 2, 0, 0, 0, 0, 0, [])), (157, (.return_, 158, false, false, 0, 0, 0, 0, 0, 0, []))])], 0, [])
set_option maxRecDepth 100000 in
theorem v_X12_grows : VE MYT dflT E_X12_grows := ⟨⟨⟨⟨⟨dX12_grows_0, rfl⟩, rfl⟩, ⟨⟨dX12_grows_1, rfl⟩, rfl⟩, ⟨⟨dX12_grows_2, rfl⟩, rfl⟩, ⟨⟨dX12_grows_3, rfl⟩, rfl⟩, ⟨⟨dX12_grows_5, rfl⟩, rfl⟩, ⟨⟨dX12_grows_8, rfl⟩, rfl⟩, ⟨⟨dX12_grows_9, rfl⟩, rfl⟩, ⟨⟨dX12_grows_10, rfl⟩, rfl⟩, ⟨⟨dX12_grows_12, rfl⟩, Or.inr ⟨by decide, ⟨_, my_31, sX12_79⟩, fun q => absurd q (by decide)⟩⟩, ⟨⟨dX12_grows_15, rfl⟩, rfl⟩, ⟨⟨dX12_grows_16, rfl⟩, rfl⟩, ⟨⟨dX12_grows_19, rfl⟩, rfl⟩, ⟨⟨dX12_grows_22, rfl⟩, rfl⟩, ⟨⟨dX12_grows_23, rfl⟩, rfl⟩, ⟨⟨dX12_grows_24, rfl⟩, rfl⟩, ⟨⟨dX12_grows_26, rfl⟩, Or.inr ⟨by decide, ⟨_, my_31, sX12_79⟩, fun q => absurd q (by decide)⟩⟩, ⟨⟨dX12_grows_29, rfl⟩, rfl⟩, ⟨⟨dX12_grows_30, rfl⟩, rfl⟩, ⟨⟨dX12_grows_31, rfl⟩, rfl⟩, ⟨⟨dX12_grows_32, rfl⟩, Or.inr ⟨by decide, ⟨_, my_166, sX12_380⟩, fun q => absurd q (by decide)⟩⟩, ⟨⟨dX12_grows_35, rfl⟩, rfl⟩, ⟨⟨dX12_grows_36, rfl⟩, rfl⟩, ⟨⟨dX12_grows_39, rfl⟩, rfl⟩, ⟨⟨dX12_grows_40, rfl⟩, Or.inl ⟨by decide, _, _, fX12_27⟩⟩, trivial⟩,
  ⟨⟨⟨dX12_grows_43, rfl⟩, rfl⟩, ⟨⟨dX12_grows_44, rfl⟩, rfl⟩, ⟨⟨dX12_grows_46, rfl⟩, Or.inl ⟨rfl, _, my_12, sX12_59⟩⟩, ⟨⟨dX12_grows_49, rfl⟩, rfl⟩, ⟨⟨dX12_grows_51, rfl⟩, rfl⟩, ⟨⟨dX12_grows_52, rfl⟩, rfl⟩, ⟨⟨dX12_grows_53, rfl⟩, rfl⟩, ⟨⟨dX12_grows_54, rfl⟩, trivial⟩, ⟨⟨dX12_grows_55, rfl⟩, rfl⟩, ⟨⟨dX12_grows_56, rfl⟩, trivial⟩, ⟨⟨dX12_grows_57, rfl⟩, trivial⟩, ⟨⟨dX12_grows_58, rfl⟩, Or.inr (Or.inr (Or.inr (Or.inr (Or.inr (Or.inl ⟨rfl, sX12_358⟩)))))⟩, ⟨⟨dX12_grows_61, rfl⟩, trivial⟩, ⟨⟨dX12_grows_62, rfl⟩, rfl⟩, ⟨⟨dX12_grows_63, rfl⟩, Or.inl ⟨by decide, _, _, fX12_27⟩⟩, ⟨⟨dX12_grows_66, rfl⟩, rfl⟩, ⟨⟨dX12_grows_67, rfl⟩, rfl⟩, ⟨⟨dX12_grows_69, rfl⟩, Or.inl ⟨rfl, _, my_12, sX12_59⟩⟩, ⟨⟨dX12_grows_72, rfl⟩, trivial⟩, ⟨⟨dX12_grows_73, rfl⟩, trivial⟩, ⟨⟨dX12_grows_74, rfl⟩, rfl⟩, ⟨⟨dX12_grows_75, rfl⟩, trivial⟩, ⟨⟨dX12_grows_76, rfl⟩, trivial⟩, ⟨⟨dX12_grows_77, rfl⟩, rfl⟩, trivial⟩,
  ⟨⟨⟨dX12_grows_80, rfl⟩, rfl⟩, ⟨⟨dX12_grows_81, rfl⟩, rfl⟩, ⟨⟨dX12_grows_82, rfl⟩, Or.inr ⟨by decide, ⟨_, my_245, sX12_419⟩, fun q => absurd q (by decide)⟩⟩, ⟨⟨dX12_grows_85, rfl⟩, rfl⟩, ⟨⟨dX12_grows_88, rfl⟩, rfl⟩, ⟨⟨dX12_grows_89, rfl⟩, Or.inl ⟨by decide, _, _, fX12_27⟩⟩, ⟨⟨dX12_grows_92, rfl⟩, rfl⟩, ⟨⟨dX12_grows_93, rfl⟩, rfl⟩, ⟨⟨dX12_grows_95, rfl⟩, Or.inl ⟨rfl, _, my_12, sX12_59⟩⟩, ⟨⟨dX12_grows_98, rfl⟩, rfl⟩, ⟨⟨dX12_grows_100, rfl⟩, rfl⟩, ⟨⟨dX12_grows_101, rfl⟩, rfl⟩, ⟨⟨dX12_grows_102, rfl⟩, trivial⟩, ⟨⟨dX12_grows_103, rfl⟩, Or.inr (Or.inr (Or.inr (Or.inr (Or.inr (Or.inl ⟨rfl, sX12_358⟩)))))⟩, ⟨⟨dX12_grows_106, rfl⟩, trivial⟩, ⟨⟨dX12_grows_107, rfl⟩, rfl⟩, ⟨⟨dX12_grows_108, rfl⟩, Or.inl ⟨by decide, _, _, fX12_27⟩⟩, ⟨⟨dX12_grows_111, rfl⟩, rfl⟩, ⟨⟨dX12_grows_112, rfl⟩, rfl⟩, ⟨⟨dX12_grows_113, rfl⟩, Or.inl ⟨rfl, _, my_12, sX12_59⟩⟩, ⟨⟨dX12_grows_116, rfl⟩, rfl⟩, ⟨⟨dX12_grows_117, rfl⟩, rfl⟩, ⟨⟨dX12_grows_118, rfl⟩, rfl⟩, ⟨⟨dX12_grows_119, rfl⟩, rfl⟩, trivial⟩,
  ⟨⟨⟨dX12_grows_120, rfl⟩, Or.inr ⟨by decide, ⟨_, my_31, sX12_79⟩, fun q => absurd q (by decide)⟩⟩, ⟨⟨dX12_grows_123, rfl⟩, rfl⟩, ⟨⟨dX12_grows_124, rfl⟩, trivial⟩, ⟨⟨dX12_grows_125, rfl⟩, Or.inr (Or.inr (Or.inr (Or.inr (Or.inl ⟨rfl, sX12_100⟩))))⟩, ⟨⟨dX12_grows_128, rfl⟩, trivial⟩, ⟨⟨dX12_grows_129, rfl⟩, rfl⟩, ⟨⟨dX12_grows_130, rfl⟩, Or.inl ⟨by decide, _, _, fX12_27⟩⟩, ⟨⟨dX12_grows_133, rfl⟩, rfl⟩, ⟨⟨dX12_grows_134, rfl⟩, rfl⟩, ⟨⟨dX12_grows_135, rfl⟩, Or.inl ⟨rfl, _, my_12, sX12_59⟩⟩, ⟨⟨dX12_grows_138, rfl⟩, rfl⟩, ⟨⟨dX12_grows_139, rfl⟩, rfl⟩, ⟨⟨dX12_grows_140, rfl⟩, rfl⟩, ⟨⟨dX12_grows_141, rfl⟩, rfl⟩, ⟨⟨dX12_grows_142, rfl⟩, Or.inr ⟨by decide, ⟨_, my_31, sX12_79⟩, fun q => absurd q (by decide)⟩⟩, ⟨⟨dX12_grows_145, rfl⟩, rfl⟩, ⟨⟨dX12_grows_146, rfl⟩, trivial⟩, ⟨⟨dX12_grows_147, rfl⟩, Or.inr (Or.inr (Or.inr (Or.inr (Or.inl ⟨rfl, sX12_100⟩))))⟩, ⟨⟨dX12_grows_150, rfl⟩, trivial⟩, ⟨⟨dX12_grows_151, rfl⟩, ⟨rfl, rfl⟩⟩, ⟨⟨dX12_grows_154, rfl⟩, rfl⟩, ⟨⟨dX12_grows_157, rfl⟩, rfl⟩, trivial⟩, trivial⟩, by decide, Or.inl ⟨rfl, by decide, rfl⟩⟩
set_option maxRecDepth 100000 in
theorem g_X12_grows_0 (S : sT) (call : cT) (n : Nat) (a0 : Nat) (h : pH) : bd S call dflT E_X12_grows (n + 1) 0 [some (.ref a0), none, none] [] h = (bd S call dflT E_X12_grows n 2 [some (.ref a0), some (.int 0), none] [] h) := rfl
set_option maxRecDepth 100000 in
theorem g_X12_grows_2 (S : sT) (call : cT) (n : Nat) (a0 : Nat) (x1 : Int32) (o2 : Option Value) (h : pH) : bd S call dflT E_X12_grows (n + 1) 2 [some (.ref a0), some (.int x1), o2] [] h = ((if 48 ≤ x1 then some (.inl none, h) else rC h (.ref a0) 15 (cI (call 31 [.ref a0, .int x1, .int 11] h) (fun y2 h1 => (if y2 = 1 then bd S call dflT E_X12_grows n 2 [some (.ref a0), some (.int (x1 + 1)), o2] [] h1 else rC h1 (.ref a0) 15 (cI (call 31 [.ref a0, .int x1, .int 6] h1) (fun y4 h3 => rC h3 (.ref a0) 15 (cI (call 166 [.ref a0, .int x1] h3) (fun y6 h5 => (if y6 = 3 then gV h5 (.ref a0) 15 1 (fun w13 => cI (call 12 [.int x1, .int 6] h5) (fun y15 h14 => dv 2 (sI h14 w13 0 y15 (if (y4 + ((y4 + 1) / 2)) < (99 : Int32) then (y4 + ((y4 + 1) / 2)) else (99 : Int32)) (fun h16 => gV h16 (.ref a0) 15 1 (fun w17 => cI (call 12 [.int x1, .int 7] h16) (fun y19 h18 => nl w17 (aI h18 w17 0 y19 (fun y20 => sI h18 w17 0 y19 (y20 + 1) (fun h21 => bd S call dflT E_X12_grows n 107 [some (.ref a0), some (.int x1), some (.int y4)] [] h21))))))))) else rC h5 (.ref a0) 15 (cI (call 245 [.ref a0, .int x1] h5) (fun y8 h7 => (if y8 = 0 then bd S call dflT E_X12_grows n 107 [some (.ref a0), some (.int x1), some (.int y4)] [] h7 else gV h7 (.ref a0) 15 1 (fun w9 => cI (call 12 [.int x1, .int 6] h7) (fun y11 h10 => sI h10 w9 0 y11 (if (y4 + 1) < (99 : Int32) then (y4 + 1) else (99 : Int32)) (fun h12 => bd S call dflT E_X12_grows n 107 [some (.ref a0), some (.int x1), some (.int y4)] [] h12)))))))))))))))) := rfl
set_option maxRecDepth 100000 in
theorem g_X12_grows_107 (S : sT) (call : cT) (n : Nat) (a0 : Nat) (x1 : Int32) (x2 : Int32) (h : pH) : bd S call dflT E_X12_grows (n + 1) 107 [some (.ref a0), some (.int x1), some (.int x2)] [] h = (gV h (.ref a0) 15 1 (fun w1 => cI (call 12 [.int x1, .int 4] h) (fun y3 h2 => rC h2 (.ref a0) 15 (cI (call 31 [.ref a0, .int x1, .int 4] h2) (fun y5 h4 => sI h4 w1 0 y3 (if (0 : Int32) < (y5 - 1) then (y5 - 1) else (0 : Int32)) (fun h6 => gV h6 (.ref a0) 15 1 (fun w7 => cI (call 12 [.int x1, .int 5] h6) (fun y9 h8 => rC h8 (.ref a0) 15 (cI (call 31 [.ref a0, .int x1, .int 5] h8) (fun y11 h10 => sI h10 w7 0 y9 (if (0 : Int32) < (y11 - 1) then (y11 - 1) else (0 : Int32)) (fun h12 => bd S call dflT E_X12_grows n 2 [some (.ref a0), some (.int (x1 + 1)), some (.int x2)] [] h12))))))))))) := rfl
