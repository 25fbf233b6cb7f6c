/-! by program: methods as data, that they are right, what their bodies do -/
theorem dX11_why_0 : decode cX11_why 0 = .ok (.iload_n 2, 1) := by decide +kernel
theorem dX11_why_1 : decode cX11_why 1 = .ok (.invokestatic 40, 3) := by decide +kernel
theorem dX11_why_4 : decode cX11_why 4 = .ok (.iload_n 1, 1) := by decide +kernel
theorem dX11_why_5 : decode cX11_why 5 = .ok (.ifCond .lt 12, 3) := by decide +kernel
theorem dX11_why_8 : decode cX11_why 8 = .ok (.iload_n 1, 1) := by decide +kernel
theorem dX11_why_9 : decode cX11_why 9 = .ok (.iconst 4, 1) := by decide +kernel
theorem dX11_why_10 : decode cX11_why 10 = .ok (.if_icmp .gt 7, 3) := by decide +kernel
theorem dX11_why_13 : decode cX11_why 13 = .ok (.iconst 1, 1) := by decide +kernel
theorem dX11_why_14 : decode cX11_why 14 = .ok (.goto 4, 3) := by decide +kernel
theorem dX11_why_17 : decode cX11_why 17 = .ok (.iconst 0, 1) := by decide +kernel
theorem dX11_why_18 : decode cX11_why 18 = .ok (.invokestatic 156, 3) := by decide +kernel
theorem dX11_why_21 : decode cX11_why 21 = .ok (.iload_n 1, 1) := by decide +kernel
theorem dX11_why_22 : decode cX11_why 22 = .ok (.tableswitch 74 0 3 #[30, 41, 52, 63], 30) := by decide +kernel
theorem dX11_why_52 : decode cX11_why 52 = .ok (.aload_n 0, 1) := by decide +kernel
theorem dX11_why_53 : decode cX11_why 53 = .ok (.getfield 19, 3) := by decide +kernel
theorem dX11_why_56 : decode cX11_why 56 = .ok (.bipush 17, 2) := by decide +kernel
theorem dX11_why_58 : decode cX11_why 58 = .ok (.iconst 0, 1) := by decide +kernel
theorem dX11_why_59 : decode cX11_why 59 = .ok (.invokevirtual 207, 3) := by decide +kernel
theorem dX11_why_62 : decode cX11_why 62 = .ok (.ireturn, 1) := by decide +kernel
theorem dX11_why_63 : decode cX11_why 63 = .ok (.aload_n 0, 1) := by decide +kernel
theorem dX11_why_64 : decode cX11_why 64 = .ok (.getfield 19, 3) := by decide +kernel
theorem dX11_why_67 : decode cX11_why 67 = .ok (.bipush 18, 2) := by decide +kernel
theorem dX11_why_69 : decode cX11_why 69 = .ok (.iload_n 2, 1) := by decide +kernel
theorem dX11_why_70 : decode cX11_why 70 = .ok (.invokevirtual 195, 3) := by decide +kernel
theorem dX11_why_73 : decode cX11_why 73 = .ok (.ireturn, 1) := by decide +kernel
theorem dX11_why_74 : decode cX11_why 74 = .ok (.aload_n 0, 1) := by decide +kernel
theorem dX11_why_75 : decode cX11_why 75 = .ok (.getfield 19, 3) := by decide +kernel
theorem dX11_why_78 : decode cX11_why 78 = .ok (.bipush 19, 2) := by decide +kernel
theorem dX11_why_80 : decode cX11_why 80 = .ok (.iconst 0, 1) := by decide +kernel
theorem dX11_why_81 : decode cX11_why 81 = .ok (.invokevirtual 207, 3) := by decide +kernel
theorem dX11_why_84 : decode cX11_why 84 = .ok (.ireturn, 1) := by decide +kernel
theorem dX11_why_85 : decode cX11_why 85 = .ok (.aload_n 0, 1) := by decide +kernel
theorem dX11_why_86 : decode cX11_why 86 = .ok (.getfield 19, 3) := by decide +kernel
theorem dX11_why_89 : decode cX11_why 89 = .ok (.bipush 20, 2) := by decide +kernel
theorem dX11_why_91 : decode cX11_why 91 = .ok (.iload_n 2, 1) := by decide +kernel
theorem dX11_why_92 : decode cX11_why 92 = .ok (.invokevirtual 195, 3) := by decide +kernel
theorem dX11_why_95 : decode cX11_why 95 = .ok (.ireturn, 1) := by decide +kernel
theorem dX11_why_96 : decode cX11_why 96 = .ok (.aload_n 0, 1) := by decide +kernel
theorem dX11_why_97 : decode cX11_why 97 = .ok (.getfield 19, 3) := by decide +kernel
theorem dX11_why_100 : decode cX11_why 100 = .ok (.invokevirtual 210, 3) := by decide +kernel
theorem dX11_why_103 : decode cX11_why 103 = .ok (.ireturn, 1) := by decide +kernel
noncomputable def E_X11_why : mE := (mX11_why, [(70, [(0, (.iload_n 2, 1, false, false, 2, 0, 0, 0, 0, 0, [])), (1, (.invokestatic 40, 4, false, false, 20, 1, 0, 0, 0, 0, [])), (4, (.iload_n 1, 5, false, false, 1, 0, 0, 0, 0, 0, [])), (5, (.ifCond .lt 12, 8, false, false, 17, 0, 0, 0, 0, 0, [])), (8, (.iload_n 1, 9, false, false, 1, 0, 0, 0, 0, 0, [])), (9, (.iconst 4, 10, false, false, 0, 0, 0, 0, 4, 0, [])), (10, (.if_icmp .gt 7, 13, false, false, 17, 0, 0, 0, 0, 0, [])), (13, (.iconst 1, 14, false, false, 0, 0, 0, 0, 1, 0, [])), (14, (.goto 4, 17, false, false, 18, 0, 0, 0, 0, 0, [])), (17, (.iconst 0, 18, false, false, 0, 0, 0, 0, 0, 0, [])), (18, (.invokestatic 156, 21, false, false, 257, 1, 0, 0, 0, 0, [])), (21, (.iload_n 1, 22, false, false, 1, 0, 0, 0, 0, 0, [])), (22, (.tableswitch 74 0 3 #[30, 41, 52, 63], 0, false, false, 96, 0, 0, 0, 0, 0, [(0, 52), (1, 63), (2, 74), (3, 85)])), (52, (.aload_n 0, 53, false, false, 0, 0, 0, 0, 0, 0, [])), (53, (.getfield 19, 56, false, false, 14, 1, 1, 0, 0, 0, [])), (56, (.bipush 17, 58, false, false, 0, 0, 0, 0, 17, 0, [])), (58, (.iconst 0, 59, false, false, 0, 0, 0, 0, 0, 0, [])), (59, (.invokevirtual 207, 62, false, false, 91, 2, 1, 3, 0, 0, [])), (62, (.ireturn, 63, false, false, 0, 0, 0, 0, 0, 0, [])), (63, (.aload_n 0, 64, false, false, 0, 0, 0, 0, 0, 0, [])), (64, (.getfield 19, 67, false, false, 14, 1, 1, 0, 0, 0, [])), (67, (.bipush 18, 69, false, false, 0, 0, 0, 0, 18, 0, [])), (69, (.iload_n 2, 70, false, false, 2, 0, 0, 0, 0, 0, [])), (70, (.invokevirtual 195, 73, false, false, 286, 2, 1, 3, 0, 0, []))]),
  (103, [(73, (.ireturn, 74, false, false, 0, 0, 0, 0, 0, 0, [])), (74, (.aload_n 0, 75, false, false, 0, 0, 0, 0, 0, 0, [])), (75, (.getfield 19, 78, false, false, 14, 1, 1, 0, 0, 0, [])), (78, (.bipush 19, 80, false, false, 0, 0, 0, 0, 19, 0, [])), (80, (.iconst 0, 81, false, false, 0, 0, 0, 0, 0, 0, [])), (81, (.invokevirtual 207, 84, false, false, 91, 2, 1, 3, 0, 0, [])), (84, (.ireturn, 85, false, false, 0, 0, 0, 0, 0, 0, [])), (85, (.aload_n 0, 86, false, false, 0, 0, 0, 0, 0, 0, [])), (86, (.getfield 19, 89, false, false, 14, 1, 1, 0, 0, 0, [])), (89, (.bipush 20, 91, false, false, 0, 0, 0, 0, 20, 0, [])), (91, (.iload_n 2, 92, false, false, 2, 0, 0, 0, 0, 0, [])), (92, (.invokevirtual 195, 95, false, false, 286, 2, 1, 3, 0, 0, [])), (95, (.ireturn, 96, false, false, 0, 0, 0, 0, 0, 0, [])), (96, (.aload_n 0, 97, false, false, 0, 0, 0, 0, 0, 0, [])), (97, (.getfield 19, 100, false, false, 14, 1, 1, 0, 0, 0, [])), (100, (.invokevirtual 210, 103, false, false, 294, 0, 1, 3, 0, 0, [])), (103, (.ireturn, 104, false, false, 0, 0, 0, 0, 0, 0, []))])], 0, [])
set_option maxRecDepth 100000 in
theorem v_X11_why : VE MYT dflT E_X11_why := ⟨⟨⟨⟨⟨dX11_why_0, rfl⟩, rfl⟩, ⟨⟨dX11_why_1, rfl⟩, Or.inl ⟨rfl, _, my_20, sX11_40⟩⟩, ⟨⟨dX11_why_4, rfl⟩, rfl⟩, ⟨⟨dX11_why_5, rfl⟩, rfl⟩, ⟨⟨dX11_why_8, rfl⟩, rfl⟩, ⟨⟨dX11_why_9, rfl⟩, rfl⟩, ⟨⟨dX11_why_10, rfl⟩, rfl⟩, ⟨⟨dX11_why_13, rfl⟩, rfl⟩, ⟨⟨dX11_why_14, rfl⟩, rfl⟩, ⟨⟨dX11_why_17, rfl⟩, rfl⟩, ⟨⟨dX11_why_18, rfl⟩, Or.inl ⟨rfl, _, my_257, sX11_156⟩⟩, ⟨⟨dX11_why_21, rfl⟩, rfl⟩, ⟨⟨_, dX11_why_22⟩, ⟨rfl, rfl, rfl, rfl, rfl, rfl, rfl, rfl, rfl, rfl, trivial⟩⟩, ⟨⟨dX11_why_52, rfl⟩, rfl⟩, ⟨⟨dX11_why_53, rfl⟩, Or.inl ⟨by decide, _, _, fX11_19⟩⟩, ⟨⟨dX11_why_56, rfl⟩, rfl⟩, ⟨⟨dX11_why_58, rfl⟩, rfl⟩, ⟨⟨dX11_why_59, rfl⟩, Or.inr ⟨by decide, ⟨_, my_91, sX11_207⟩, fun q => absurd q (by decide)⟩⟩, ⟨⟨dX11_why_62, rfl⟩, Or.inl ⟨rfl, rfl⟩⟩, ⟨⟨dX11_why_63, rfl⟩, rfl⟩, ⟨⟨dX11_why_64, rfl⟩, Or.inl ⟨by decide, _, _, fX11_19⟩⟩, ⟨⟨dX11_why_67, rfl⟩, rfl⟩, ⟨⟨dX11_why_69, rfl⟩, rfl⟩, ⟨⟨dX11_why_70, rfl⟩, Or.inr ⟨by decide, ⟨_, my_286, sX11_195⟩, fun q => absurd q (by decide)⟩⟩, trivial⟩,
  ⟨⟨⟨dX11_why_73, rfl⟩, Or.inl ⟨rfl, rfl⟩⟩, ⟨⟨dX11_why_74, rfl⟩, rfl⟩, ⟨⟨dX11_why_75, rfl⟩, Or.inl ⟨by decide, _, _, fX11_19⟩⟩, ⟨⟨dX11_why_78, rfl⟩, rfl⟩, ⟨⟨dX11_why_80, rfl⟩, rfl⟩, ⟨⟨dX11_why_81, rfl⟩, Or.inr ⟨by decide, ⟨_, my_91, sX11_207⟩, fun q => absurd q (by decide)⟩⟩, ⟨⟨dX11_why_84, rfl⟩, Or.inl ⟨rfl, rfl⟩⟩, ⟨⟨dX11_why_85, rfl⟩, rfl⟩, ⟨⟨dX11_why_86, rfl⟩, Or.inl ⟨by decide, _, _, fX11_19⟩⟩, ⟨⟨dX11_why_89, rfl⟩, rfl⟩, ⟨⟨dX11_why_91, rfl⟩, rfl⟩, ⟨⟨dX11_why_92, rfl⟩, Or.inr ⟨by decide, ⟨_, my_286, sX11_195⟩, fun q => absurd q (by decide)⟩⟩, ⟨⟨dX11_why_95, rfl⟩, Or.inl ⟨rfl, rfl⟩⟩, ⟨⟨dX11_why_96, rfl⟩, rfl⟩, ⟨⟨dX11_why_97, rfl⟩, Or.inl ⟨by decide, _, _, fX11_19⟩⟩, ⟨⟨dX11_why_100, rfl⟩, Or.inr ⟨by decide, ⟨_, my_294, sX11_210⟩, fun q => absurd q (by decide)⟩⟩, ⟨⟨dX11_why_103, rfl⟩, Or.inl ⟨rfl, rfl⟩⟩, trivial⟩, trivial⟩, by decide, Or.inl ⟨rfl, by decide, rfl⟩⟩
set_option maxRecDepth 100000 in
theorem g_X11_why_0 (S : sT) (call : cT) (n : Nat) (a0 : Nat) (x1 : Int32) (x2 : Int32) (h : pH) : bd S call dflT E_X11_why (n + 1) 0 [some (.ref a0), some (.int x1), some (.int x2)] [] h = (cU (call 20 [.int x2] h) (fun h1 => (if x1 < 0 then cU (call 257 [.int 0] h1) (fun h2 => (if x1 = 0 then bd S call dflT E_X11_why n 52 [some (.ref a0), some (.int x1), some (.int x2)] [] h2 else (if x1 = 1 then bd S call dflT E_X11_why n 63 [some (.ref a0), some (.int x1), some (.int x2)] [] h2 else (if x1 = 2 then bd S call dflT E_X11_why n 74 [some (.ref a0), some (.int x1), some (.int x2)] [] h2 else (if x1 = 3 then bd S call dflT E_X11_why n 85 [some (.ref a0), some (.int x1), some (.int x2)] [] h2 else bd S call dflT E_X11_why n 96 [some (.ref a0), some (.int x1), some (.int x2)] [] h2))))) else (if 4 < x1 then cU (call 257 [.int 0] h1) (fun h3 => (if x1 = 0 then bd S call dflT E_X11_why n 52 [some (.ref a0), some (.int x1), some (.int x2)] [] h3 else (if x1 = 1 then bd S call dflT E_X11_why n 63 [some (.ref a0), some (.int x1), some (.int x2)] [] h3 else (if x1 = 2 then bd S call dflT E_X11_why n 74 [some (.ref a0), some (.int x1), some (.int x2)] [] h3 else (if x1 = 3 then bd S call dflT E_X11_why n 85 [some (.ref a0), some (.int x1), some (.int x2)] [] h3 else bd S call dflT E_X11_why n 96 [some (.ref a0), some (.int x1), some (.int x2)] [] h3))))) else cU (call 257 [.int 1] h1) (fun h4 => (if x1 = 0 then bd S call dflT E_X11_why n 52 [some (.ref a0), some (.int x1), some (.int x2)] [] h4 else (if x1 = 1 then bd S call dflT E_X11_why n 63 [some (.ref a0), some (.int x1), some (.int x2)] [] h4 else (if x1 = 2 then bd S call dflT E_X11_why n 74 [some (.ref a0), some (.int x1), some (.int x2)] [] h4 else (if x1 = 3 then bd S call dflT E_X11_why n 85 [some (.ref a0), some (.int x1), some (.int x2)] [] h4 else bd S call dflT E_X11_why n 96 [some (.ref a0), some (.int x1), some (.int x2)] [] h4))))))))) := rfl
set_option maxRecDepth 100000 in
theorem g_X11_why_52 (S : sT) (call : cT) (n : Nat) (a0 : Nat) (x1 : Int32) (x2 : Int32) (h : pH) : bd S call dflT E_X11_why (n + 1) 52 [some (.ref a0), some (.int x1), some (.int x2)] [] h = (gV h (.ref a0) 14 1 (fun w1 => rC h w1 3 (cI (call 91 [w1, .int 17, .int 0] h) (fun y3 h2 => some (.inl (some (.int y3)), h2))))) := rfl
set_option maxRecDepth 100000 in
theorem g_X11_why_63 (S : sT) (call : cT) (n : Nat) (a0 : Nat) (x1 : Int32) (x2 : Int32) (h : pH) : bd S call dflT E_X11_why (n + 1) 63 [some (.ref a0), some (.int x1), some (.int x2)] [] h = (gV h (.ref a0) 14 1 (fun w1 => rC h w1 3 (cI (call 286 [w1, .int 18, .int x2] h) (fun y3 h2 => some (.inl (some (.int y3)), h2))))) := rfl
set_option maxRecDepth 100000 in
theorem g_X11_why_74 (S : sT) (call : cT) (n : Nat) (a0 : Nat) (x1 : Int32) (x2 : Int32) (h : pH) : bd S call dflT E_X11_why (n + 1) 74 [some (.ref a0), some (.int x1), some (.int x2)] [] h = (gV h (.ref a0) 14 1 (fun w1 => rC h w1 3 (cI (call 91 [w1, .int 19, .int 0] h) (fun y3 h2 => some (.inl (some (.int y3)), h2))))) := rfl
set_option maxRecDepth 100000 in
theorem g_X11_why_85 (S : sT) (call : cT) (n : Nat) (a0 : Nat) (x1 : Int32) (x2 : Int32) (h : pH) : bd S call dflT E_X11_why (n + 1) 85 [some (.ref a0), some (.int x1), some (.int x2)] [] h = (gV h (.ref a0) 14 1 (fun w1 => rC h w1 3 (cI (call 286 [w1, .int 20, .int x2] h) (fun y3 h2 => some (.inl (some (.int y3)), h2))))) := rfl
set_option maxRecDepth 100000 in
theorem g_X11_why_96 (S : sT) (call : cT) (n : Nat) (a0 : Nat) (x1 : Int32) (x2 : Int32) (h : pH) : bd S call dflT E_X11_why (n + 1) 96 [some (.ref a0), some (.int x1), some (.int x2)] [] h = (gV h (.ref a0) 14 1 (fun w1 => rC h w1 3 (cI (call 294 [w1] h) (fun y3 h2 => some (.inl (some (.int y3)), h2))))) := rfl
theorem dX11_cut_0 : decode cX11_cut 0 = .ok (.iload_n 1, 1) := by decide +kernel
theorem dX11_cut_1 : decode cX11_cut 1 = .ok (.invokestatic 40, 3) := by decide +kernel
theorem dX11_cut_4 : decode cX11_cut 4 = .ok (.aload_n 0, 1) := by decide +kernel
theorem dX11_cut_5 : decode cX11_cut 5 = .ok (.getfield 19, 3) := by decide +kernel
theorem dX11_cut_8 : decode cX11_cut 8 = .ok (.iload_n 1, 1) := by decide +kernel
theorem dX11_cut_9 : decode cX11_cut 9 = .ok (.invokevirtual 129, 3) := by decide +kernel
theorem dX11_cut_12 : decode cX11_cut 12 = .ok (.iconst 3, 1) := by decide +kernel
theorem dX11_cut_13 : decode cX11_cut 13 = .ok (.if_icmp .ne 7, 3) := by decide +kernel
theorem dX11_cut_16 : decode cX11_cut 16 = .ok (.iconst 1, 1) := by decide +kernel
theorem dX11_cut_17 : decode cX11_cut 17 = .ok (.goto 4, 3) := by decide +kernel
theorem dX11_cut_20 : decode cX11_cut 20 = .ok (.iconst 0, 1) := by decide +kernel
theorem dX11_cut_21 : decode cX11_cut 21 = .ok (.invokestatic 135, 3) := by decide +kernel
theorem dX11_cut_24 : decode cX11_cut 24 = .ok (.aload_n 0, 1) := by decide +kernel
theorem dX11_cut_25 : decode cX11_cut 25 = .ok (.getfield 19, 3) := by decide +kernel
theorem dX11_cut_28 : decode cX11_cut 28 = .ok (.bipush 18, 2) := by decide +kernel
theorem dX11_cut_30 : decode cX11_cut 30 = .ok (.iload_n 1, 1) := by decide +kernel
theorem dX11_cut_31 : decode cX11_cut 31 = .ok (.invokevirtual 195, 3) := by decide +kernel
theorem dX11_cut_34 : decode cX11_cut 34 = .ok (.iconst (-1), 1) := by decide +kernel
theorem dX11_cut_35 : decode cX11_cut 35 = .ok (.if_icmp .eq 7, 3) := by decide +kernel
theorem dX11_cut_38 : decode cX11_cut 38 = .ok (.iconst 1, 1) := by decide +kernel
theorem dX11_cut_39 : decode cX11_cut 39 = .ok (.goto 4, 3) := by decide +kernel
theorem dX11_cut_42 : decode cX11_cut 42 = .ok (.iconst 0, 1) := by decide +kernel
theorem dX11_cut_43 : decode cX11_cut 43 = .ok (.istore_n 3, 1) := by decide +kernel
theorem dX11_cut_44 : decode cX11_cut 44 = .ok (.iload_n 3, 1) := by decide +kernel
theorem dX11_cut_45 : decode cX11_cut 45 = .ok (.ifCond .ne 9, 3) := by decide +kernel
theorem dX11_cut_48 : decode cX11_cut 48 = .ok (.iload_n 2, 1) := by decide +kernel
theorem dX11_cut_49 : decode cX11_cut 49 = .ok (.ifCond .ne 5, 3) := by decide +kernel
theorem dX11_cut_52 : decode cX11_cut 52 = .ok (.iconst (-1), 1) := by decide +kernel
theorem dX11_cut_53 : decode cX11_cut 53 = .ok (.ireturn, 1) := by decide +kernel
theorem dX11_cut_54 : decode cX11_cut 54 = .ok (.aload_n 0, 1) := by decide +kernel
theorem dX11_cut_55 : decode cX11_cut 55 = .ok (.getfield 19, 3) := by decide +kernel
theorem dX11_cut_58 : decode cX11_cut 58 = .ok (.getfield 47, 3) := by decide +kernel
theorem dX11_cut_61 : decode cX11_cut 61 = .ok (.iload_n 1, 1) := by decide +kernel
theorem dX11_cut_62 : decode cX11_cut 62 = .ok (.invokevirtual 213, 3) := by decide +kernel
theorem dX11_cut_65 : decode cX11_cut 65 = .ok (.istore 4, 2) := by decide +kernel
theorem dX11_cut_67 : decode cX11_cut 67 = .ok (.iload_n 3, 1) := by decide +kernel
theorem dX11_cut_68 : decode cX11_cut 68 = .ok (.ifCond .ne 13, 3) := by decide +kernel
theorem dX11_cut_71 : decode cX11_cut 71 = .ok (.aload_n 0, 1) := by decide +kernel
theorem dX11_cut_72 : decode cX11_cut 72 = .ok (.getfield 19, 3) := by decide +kernel
theorem dX11_cut_75 : decode cX11_cut 75 = .ok (.iconst 1, 1) := by decide +kernel
theorem dX11_cut_76 : decode cX11_cut 76 = .ok (.iload 4, 2) := by decide +kernel
theorem dX11_cut_78 : decode cX11_cut 78 = .ok (.invokevirtual 105, 3) := by decide +kernel
theorem dX11_cut_81 : decode cX11_cut 81 = .ok (.aload_n 0, 1) := by decide +kernel
theorem dX11_cut_82 : decode cX11_cut 82 = .ok (.getfield 19, 3) := by decide +kernel
theorem dX11_cut_85 : decode cX11_cut 85 = .ok (.bipush 14, 2) := by decide +kernel
theorem dX11_cut_87 : decode cX11_cut 87 = .ok (.iload 4, 2) := by decide +kernel
theorem dX11_cut_89 : decode cX11_cut 89 = .ok (.invokevirtual 216, 3) := by decide +kernel
theorem dX11_cut_92 : decode cX11_cut 92 = .ok (.aload_n 0, 1) := by decide +kernel
theorem dX11_cut_93 : decode cX11_cut 93 = .ok (.getfield 19, 3) := by decide +kernel
theorem dX11_cut_96 : decode cX11_cut 96 = .ok (.getfield 47, 3) := by decide +kernel
theorem dX11_cut_99 : decode cX11_cut 99 = .ok (.bipush 7, 2) := by decide +kernel
theorem dX11_cut_101 : decode cX11_cut 101 = .ok (.iload_n 1, 1) := by decide +kernel
theorem dX11_cut_102 : decode cX11_cut 102 = .ok (.iconst 0, 1) := by decide +kernel
theorem dX11_cut_103 : decode cX11_cut 103 = .ok (.invokevirtual 57, 3) := by decide +kernel
theorem dX11_cut_106 : decode cX11_cut 106 = .ok (.iload 4, 2) := by decide +kernel
theorem dX11_cut_108 : decode cX11_cut 108 = .ok (.ireturn, 1) := by decide +kernel
noncomputable def E_X11_cut : mE := (mX11_cut, [(44, [(0, (.iload_n 1, 1, false, false, 1, 0, 0, 0, 0, 0, [])), (1, (.invokestatic 40, 4, false, false, 20, 1, 0, 0, 0, 0, [])), (4, (.aload_n 0, 5, false, false, 0, 0, 0, 0, 0, 0, [])), (5, (.getfield 19, 8, false, false, 14, 1, 1, 0, 0, 0, [])), (8, (.iload_n 1, 9, false, false, 1, 0, 0, 0, 0, 0, [])), (9, (.invokevirtual 129, 12, false, false, 160, 1, 1, 3, 0, 0, [])), (12, (.iconst 3, 13, false, false, 0, 0, 0, 0, 3, 0, [])), (13, (.if_icmp .ne 7, 16, false, false, 20, 0, 0, 0, 0, 0, [])), (16, (.iconst 1, 17, false, false, 0, 0, 0, 0, 1, 0, [])), (17, (.goto 4, 20, false, true, 21, 0, 0, 0, 0, 0, [])), (20, (.iconst 0, 21, true, false, 0, 0, 0, 0, 0, 0, [])), (21, (.invokestatic 135, 24, false, false, 162, 1, 0, 0, 0, 0, [])), (24, (.aload_n 0, 25, false, false, 0, 0, 0, 0, 0, 0, [])), (25, (.getfield 19, 28, false, false, 14, 1, 1, 0, 0, 0, [])), (28, (.bipush 18, 30, false, false, 0, 0, 0, 0, 18, 0, [])), (30, (.iload_n 1, 31, false, false, 1, 0, 0, 0, 0, 0, [])), (31, (.invokevirtual 195, 34, false, false, 286, 2, 1, 3, 0, 0, [])), (34, (.iconst (-1), 35, false, false, 0, 0, 0, 0, -1, 0, [])), (35, (.if_icmp .eq 7, 38, false, false, 42, 0, 0, 0, 0, 0, [])), (38, (.iconst 1, 39, false, false, 0, 0, 0, 0, 1, 0, [])), (39, (.goto 4, 42, false, false, 43, 0, 0, 0, 0, 0, [])), (42, (.iconst 0, 43, false, false, 0, 0, 0, 0, 0, 0, [])), (43, (.istore_n 3, 44, false, false, 3, 0, 0, 0, 0, 0, [])), (44, (.iload_n 3, 45, false, false, 3, 0, 0, 0, 0, 0, []))]),
  (92, [(45, (.ifCond .ne 9, 48, false, true, 54, 0, 0, 0, 0, 0, [])), (48, (.iload_n 2, 49, false, false, 2, 0, 0, 0, 0, 0, [])), (49, (.ifCond .ne 5, 52, false, true, 54, 0, 0, 0, 0, 0, [])), (52, (.iconst (-1), 53, false, false, 0, 0, 0, 0, -1, 0, [])), (53, (.ireturn, 54, false, false, 0, 0, 0, 0, 0, 0, [])), (54, (.aload_n 0, 55, false, false, 0, 0, 0, 0, 0, 0, [])), (55, (.getfield 19, 58, false, false, 14, 1, 1, 0, 0, 0, [])), (58, (.getfield 47, 61, false, false, 3, 1, 1, 0, 0, 0, [])), (61, (.iload_n 1, 62, false, false, 1, 0, 0, 0, 0, 0, [])), (62, (.invokevirtual 213, 65, false, false, 258, 1, 1, 5, 0, 0, [])), (65, (.istore 4, 67, false, false, 4, 0, 0, 0, 0, 0, [])), (67, (.iload_n 3, 68, false, false, 3, 0, 0, 0, 0, 0, [])), (68, (.ifCond .ne 13, 71, false, false, 81, 0, 0, 0, 0, 0, [])), (71, (.aload_n 0, 72, false, false, 0, 0, 0, 0, 0, 0, [])), (72, (.getfield 19, 75, false, false, 14, 1, 1, 0, 0, 0, [])), (75, (.iconst 1, 76, false, false, 0, 0, 0, 0, 1, 0, [])), (76, (.iload 4, 78, false, false, 4, 0, 0, 0, 0, 0, [])), (78, (.invokevirtual 105, 81, false, false, 98, 2, 0, 3, 0, 0, [])), (81, (.aload_n 0, 82, false, false, 0, 0, 0, 0, 0, 0, [])), (82, (.getfield 19, 85, false, false, 14, 1, 1, 0, 0, 0, [])), (85, (.bipush 14, 87, false, false, 0, 0, 0, 0, 14, 0, [])), (87, (.iload 4, 89, false, false, 4, 0, 0, 0, 0, 0, [])), (89, (.invokevirtual 216, 92, false, false, 212, 2, 0, 3, 0, 0, [])), (92, (.aload_n 0, 93, false, false, 0, 0, 0, 0, 0, 0, []))]),
  (108, [(93, (.getfield 19, 96, false, false, 14, 1, 1, 0, 0, 0, [])), (96, (.getfield 47, 99, false, false, 3, 1, 1, 0, 0, 0, [])), (99, (.bipush 7, 101, false, false, 0, 0, 0, 0, 7, 0, [])), (101, (.iload_n 1, 102, false, false, 1, 0, 0, 0, 0, 0, [])), (102, (.iconst 0, 103, false, false, 0, 0, 0, 0, 0, 0, [])), (103, (.invokevirtual 57, 106, false, false, 25, 3, 0, 5, 0, 0, [])), (106, (.iload 4, 108, false, false, 4, 0, 0, 0, 0, 0, [])), (108, (.ireturn, 109, false, false, 0, 0, 0, 0, 0, 0, []))])], 0, [])
set_option maxRecDepth 100000 in
theorem v_X11_cut : VE MYT dflT E_X11_cut := ⟨⟨⟨⟨⟨dX11_cut_0, rfl⟩, rfl⟩, ⟨⟨dX11_cut_1, rfl⟩, Or.inl ⟨rfl, _, my_20, sX11_40⟩⟩, ⟨⟨dX11_cut_4, rfl⟩, rfl⟩, ⟨⟨dX11_cut_5, rfl⟩, Or.inl ⟨by decide, _, _, fX11_19⟩⟩, ⟨⟨dX11_cut_8, rfl⟩, rfl⟩, ⟨⟨dX11_cut_9, rfl⟩, Or.inr ⟨by decide, ⟨_, my_160, sX11_129⟩, fun q => absurd q (by decide)⟩⟩, ⟨⟨dX11_cut_12, rfl⟩, rfl⟩, ⟨⟨dX11_cut_13, rfl⟩, rfl⟩, ⟨⟨dX11_cut_16, rfl⟩, rfl⟩, ⟨⟨dX11_cut_17, rfl⟩, rfl⟩, ⟨⟨dX11_cut_20, rfl⟩, rfl⟩, ⟨⟨dX11_cut_21, rfl⟩, Or.inl ⟨rfl, _, my_162, sX11_135⟩⟩, ⟨⟨dX11_cut_24, rfl⟩, rfl⟩, ⟨⟨dX11_cut_25, rfl⟩, Or.inl ⟨by decide, _, _, fX11_19⟩⟩, ⟨⟨dX11_cut_28, rfl⟩, rfl⟩, ⟨⟨dX11_cut_30, rfl⟩, rfl⟩, ⟨⟨dX11_cut_31, rfl⟩, Or.inr ⟨by decide, ⟨_, my_286, sX11_195⟩, fun q => absurd q (by decide)⟩⟩, ⟨⟨dX11_cut_34, rfl⟩, rfl⟩, ⟨⟨dX11_cut_35, rfl⟩, rfl⟩, ⟨⟨dX11_cut_38, rfl⟩, rfl⟩, ⟨⟨dX11_cut_39, rfl⟩, rfl⟩, ⟨⟨dX11_cut_42, rfl⟩, rfl⟩, ⟨⟨dX11_cut_43, rfl⟩, rfl⟩, ⟨⟨dX11_cut_44, rfl⟩, rfl⟩, trivial⟩,
  ⟨⟨⟨dX11_cut_45, rfl⟩, rfl⟩, ⟨⟨dX11_cut_48, rfl⟩, rfl⟩, ⟨⟨dX11_cut_49, rfl⟩, rfl⟩, ⟨⟨dX11_cut_52, rfl⟩, rfl⟩, ⟨⟨dX11_cut_53, rfl⟩, Or.inl ⟨rfl, rfl⟩⟩, ⟨⟨dX11_cut_54, rfl⟩, rfl⟩, ⟨⟨dX11_cut_55, rfl⟩, Or.inl ⟨by decide, _, _, fX11_19⟩⟩, ⟨⟨dX11_cut_58, rfl⟩, Or.inl ⟨by decide, _, _, fX11_47⟩⟩, ⟨⟨dX11_cut_61, rfl⟩, rfl⟩, ⟨⟨dX11_cut_62, rfl⟩, Or.inr ⟨by decide, ⟨_, my_258, sX11_213⟩, fun q => absurd q (by decide)⟩⟩, ⟨⟨dX11_cut_65, rfl⟩, rfl⟩, ⟨⟨dX11_cut_67, rfl⟩, rfl⟩, ⟨⟨dX11_cut_68, rfl⟩, rfl⟩, ⟨⟨dX11_cut_71, rfl⟩, rfl⟩, ⟨⟨dX11_cut_72, rfl⟩, Or.inl ⟨by decide, _, _, fX11_19⟩⟩, ⟨⟨dX11_cut_75, rfl⟩, rfl⟩, ⟨⟨dX11_cut_76, rfl⟩, rfl⟩, ⟨⟨dX11_cut_78, rfl⟩, Or.inr ⟨by decide, ⟨_, my_98, sX11_105⟩, fun q => absurd q (by decide)⟩⟩, ⟨⟨dX11_cut_81, rfl⟩, rfl⟩, ⟨⟨dX11_cut_82, rfl⟩, Or.inl ⟨by decide, _, _, fX11_19⟩⟩, ⟨⟨dX11_cut_85, rfl⟩, rfl⟩, ⟨⟨dX11_cut_87, rfl⟩, rfl⟩, ⟨⟨dX11_cut_89, rfl⟩, Or.inr ⟨by decide, ⟨_, my_212, sX11_216⟩, fun q => absurd q (by decide)⟩⟩, ⟨⟨dX11_cut_92, rfl⟩, rfl⟩, trivial⟩,
  ⟨⟨⟨dX11_cut_93, rfl⟩, Or.inl ⟨by decide, _, _, fX11_19⟩⟩, ⟨⟨dX11_cut_96, rfl⟩, Or.inl ⟨by decide, _, _, fX11_47⟩⟩, ⟨⟨dX11_cut_99, rfl⟩, rfl⟩, ⟨⟨dX11_cut_101, rfl⟩, rfl⟩, ⟨⟨dX11_cut_102, rfl⟩, rfl⟩, ⟨⟨dX11_cut_103, rfl⟩, Or.inr ⟨by decide, ⟨_, my_25, sX11_57⟩, fun q => absurd q (by decide)⟩⟩, ⟨⟨dX11_cut_106, rfl⟩, rfl⟩, ⟨⟨dX11_cut_108, rfl⟩, Or.inl ⟨rfl, rfl⟩⟩, trivial⟩, trivial⟩, by decide, Or.inl ⟨rfl, by decide, rfl⟩⟩
set_option maxRecDepth 100000 in
theorem g_X11_cut_0 (S : sT) (call : cT) (n : Nat) (a0 : Nat) (x1 : Int32) (x2 : Int32) (h : pH) : bd S call dflT E_X11_cut (n + 1) 0 [some (.ref a0), some (.int x1), some (.int x2), none, none] [] h = (cU (call 20 [.int x1] h) (fun h1 => gV h1 (.ref a0) 14 1 (fun w2 => rC h1 w2 3 (cI (call 160 [w2, .int x1] h1) (fun y4 h3 => (if y4 = 3 then bd S call dflT E_X11_cut n 21 [some (.ref a0), some (.int x1), some (.int x2), none, none] [.int 1] h3 else bd S call dflT E_X11_cut n 21 [some (.ref a0), some (.int x1), some (.int x2), none, none] [.int 0] h3)))))) := rfl
set_option maxRecDepth 100000 in
theorem g_X11_cut_21 (S : sT) (call : cT) (n : Nat) (a0 : Nat) (x1 : Int32) (x2 : Int32) (o3 : Option Value) (o4 : Option Value) (y0 : Int32) (h : pH) : bd S call dflT E_X11_cut (n + 1) 21 [some (.ref a0), some (.int x1), some (.int x2), o3, o4] [.int y0] h = (cU (call 162 [.int y0] h) (fun h1 => gV h1 (.ref a0) 14 1 (fun w2 => rC h1 w2 3 (cI (call 286 [w2, .int 18, .int x1] h1) (fun y4 h3 => (if y4 = (-1) then (if (0 : Int32) = 0 then (if x2 = 0 then some (.inl (some (.int (-1))), h3) else bd S call dflT E_X11_cut n 54 [some (.ref a0), some (.int x1), some (.int x2), some (.int 0), o4] [] h3) else bd S call dflT E_X11_cut n 54 [some (.ref a0), some (.int x1), some (.int x2), some (.int 0), o4] [] h3) else (if (1 : Int32) = 0 then (if x2 = 0 then some (.inl (some (.int (-1))), h3) else bd S call dflT E_X11_cut n 54 [some (.ref a0), some (.int x1), some (.int x2), some (.int 1), o4] [] h3) else bd S call dflT E_X11_cut n 54 [some (.ref a0), some (.int x1), some (.int x2), some (.int 1), o4] [] h3))))))) := rfl
set_option maxRecDepth 100000 in
theorem g_X11_cut_54 (S : sT) (call : cT) (n : Nat) (a0 : Nat) (x1 : Int32) (x2 : Int32) (x3 : Int32) (o4 : Option Value) (h : pH) : bd S call dflT E_X11_cut (n + 1) 54 [some (.ref a0), some (.int x1), some (.int x2), some (.int x3), o4] [] h = (gV h (.ref a0) 14 1 (fun w1 => gV h w1 3 1 (fun w2 => rC h w2 5 (cI (call 258 [w2, .int x1] h) (fun y4 h3 => (if x3 = 0 then gV h3 (.ref a0) 14 1 (fun w10 => rC h3 w10 3 (cU (call 98 [w10, .int 1, .int y4] h3) (fun h11 => gV h11 (.ref a0) 14 1 (fun w12 => rC h11 w12 3 (cU (call 212 [w12, .int 14, .int y4] h11) (fun h13 => gV h13 (.ref a0) 14 1 (fun w14 => gV h13 w14 3 1 (fun w15 => rC h13 w15 5 (cU (call 25 [w15, .int 7, .int x1, .int 0] h13) (fun h16 => some (.inl (some (.int y4)), h16))))))))))) else gV h3 (.ref a0) 14 1 (fun w5 => rC h3 w5 3 (cU (call 212 [w5, .int 14, .int y4] h3) (fun h6 => gV h6 (.ref a0) 14 1 (fun w7 => gV h6 w7 3 1 (fun w8 => rC h6 w8 5 (cU (call 25 [w8, .int 7, .int x1, .int 0] h6) (fun h9 => some (.inl (some (.int y4)), h9)))))))))))))) := rfl
theorem dX11_loan_0 : decode cX11_loan 0 = .ok (.iload_n 1, 1) := by decide +kernel
theorem dX11_loan_1 : decode cX11_loan 1 = .ok (.iconst 1, 1) := by decide +kernel
theorem dX11_loan_2 : decode cX11_loan 2 = .ok (.ldc 88, 2) := by decide +kernel
theorem dX11_loan_4 : decode cX11_loan 4 = .ok (.invokestatic 43, 3) := by decide +kernel
theorem dX11_loan_7 : decode cX11_loan 7 = .ok (.iload_n 2, 1) := by decide +kernel
theorem dX11_loan_8 : decode cX11_loan 8 = .ok (.iconst 0, 1) := by decide +kernel
theorem dX11_loan_9 : decode cX11_loan 9 = .ok (.sipush 2000, 3) := by decide +kernel
theorem dX11_loan_12 : decode cX11_loan 12 = .ok (.invokestatic 43, 3) := by decide +kernel
theorem dX11_loan_15 : decode cX11_loan 15 = .ok (.iload_n 3, 1) := by decide +kernel
theorem dX11_loan_16 : decode cX11_loan 16 = .ok (.iconst 1, 1) := by decide +kernel
theorem dX11_loan_17 : decode cX11_loan 17 = .ok (.bipush 40, 2) := by decide +kernel
theorem dX11_loan_19 : decode cX11_loan 19 = .ok (.invokestatic 43, 3) := by decide +kernel
theorem dX11_loan_22 : decode cX11_loan 22 = .ok (.aload_n 0, 1) := by decide +kernel
theorem dX11_loan_23 : decode cX11_loan 23 = .ok (.getfield 19, 3) := by decide +kernel
theorem dX11_loan_26 : decode cX11_loan 26 = .ok (.getfield 219, 3) := by decide +kernel
theorem dX11_loan_29 : decode cX11_loan 29 = .ok (.getfield 223, 3) := by decide +kernel
theorem dX11_loan_32 : decode cX11_loan 32 = .ok (.bipush 12, 2) := by decide +kernel
theorem dX11_loan_34 : decode cX11_loan 34 = .ok (.if_icmp .ge 7, 3) := by decide +kernel
theorem dX11_loan_37 : decode cX11_loan 37 = .ok (.iconst 1, 1) := by decide +kernel
theorem dX11_loan_38 : decode cX11_loan 38 = .ok (.goto 4, 3) := by decide +kernel
theorem dX11_loan_41 : decode cX11_loan 41 = .ok (.iconst 0, 1) := by decide +kernel
theorem dX11_loan_42 : decode cX11_loan 42 = .ok (.invokestatic 180, 3) := by decide +kernel
theorem dX11_loan_45 : decode cX11_loan 45 = .ok (.aload_n 0, 1) := by decide +kernel
theorem dX11_loan_46 : decode cX11_loan 46 = .ok (.getfield 19, 3) := by decide +kernel
theorem dX11_loan_49 : decode cX11_loan 49 = .ok (.getfield 219, 3) := by decide +kernel
theorem dX11_loan_52 : decode cX11_loan 52 = .ok (.invokevirtual 228, 3) := by decide +kernel
theorem dX11_loan_55 : decode cX11_loan 55 = .ok (.iload_n 1, 1) := by decide +kernel
theorem dX11_loan_56 : decode cX11_loan 56 = .ok (.iadd, 1) := by decide +kernel
theorem dX11_loan_57 : decode cX11_loan 57 = .ok (.aload_n 0, 1) := by decide +kernel
theorem dX11_loan_58 : decode cX11_loan 58 = .ok (.getfield 19, 3) := by decide +kernel
theorem dX11_loan_61 : decode cX11_loan 61 = .ok (.invokevirtual 198, 3) := by decide +kernel
theorem dX11_loan_64 : decode cX11_loan 64 = .ok (.if_icmp .gt 7, 3) := by decide +kernel
theorem dX11_loan_67 : decode cX11_loan 67 = .ok (.iconst 1, 1) := by decide +kernel
theorem dX11_loan_68 : decode cX11_loan 68 = .ok (.goto 4, 3) := by decide +kernel
theorem dX11_loan_71 : decode cX11_loan 71 = .ok (.iconst 0, 1) := by decide +kernel
theorem dX11_loan_72 : decode cX11_loan 72 = .ok (.istore 5, 2) := by decide +kernel
theorem dX11_loan_74 : decode cX11_loan 74 = .ok (.iload 5, 2) := by decide +kernel
theorem dX11_loan_76 : decode cX11_loan 76 = .ok (.ifCond .ne 10, 3) := by decide +kernel
theorem dX11_loan_79 : decode cX11_loan 79 = .ok (.iload 4, 2) := by decide +kernel
theorem dX11_loan_81 : decode cX11_loan 81 = .ok (.ifCond .ne 5, 3) := by decide +kernel
theorem dX11_loan_84 : decode cX11_loan 84 = .ok (.iconst (-1), 1) := by decide +kernel
theorem dX11_loan_85 : decode cX11_loan 85 = .ok (.ireturn, 1) := by decide +kernel
theorem dX11_loan_86 : decode cX11_loan 86 = .ok (.iload 5, 2) := by decide +kernel
theorem dX11_loan_88 : decode cX11_loan 88 = .ok (.ifCond .ne 12, 3) := by decide +kernel
theorem dX11_loan_91 : decode cX11_loan 91 = .ok (.aload_n 0, 1) := by decide +kernel
theorem dX11_loan_92 : decode cX11_loan 92 = .ok (.getfield 19, 3) := by decide +kernel
theorem dX11_loan_95 : decode cX11_loan 95 = .ok (.iconst 2, 1) := by decide +kernel
theorem dX11_loan_96 : decode cX11_loan 96 = .ok (.iload_n 1, 1) := by decide +kernel
theorem dX11_loan_97 : decode cX11_loan 97 = .ok (.invokevirtual 105, 3) := by decide +kernel
theorem dX11_loan_100 : decode cX11_loan 100 = .ok (.aload_n 0, 1) := by decide +kernel
theorem dX11_loan_101 : decode cX11_loan 101 = .ok (.getfield 19, 3) := by decide +kernel
theorem dX11_loan_104 : decode cX11_loan 104 = .ok (.getfield 219, 3) := by decide +kernel
theorem dX11_loan_107 : decode cX11_loan 107 = .ok (.iload_n 1, 1) := by decide +kernel
theorem dX11_loan_108 : decode cX11_loan 108 = .ok (.iload_n 2, 1) := by decide +kernel
theorem dX11_loan_109 : decode cX11_loan 109 = .ok (.iload_n 3, 1) := by decide +kernel
theorem dX11_loan_110 : decode cX11_loan 110 = .ok (.invokevirtual 231, 3) := by decide +kernel
theorem dX11_loan_113 : decode cX11_loan 113 = .ok (.ireturn, 1) := by decide +kernel
noncomputable def E_X11_loan : mE := (mX11_loan, [(46, [(0, (.iload_n 1, 1, false, false, 1, 0, 0, 0, 0, 0, [])), (1, (.iconst 1, 2, false, false, 0, 0, 0, 0, 1, 0, [])), (2, (.ldc 88, 4, false, false, 0, 0, 0, 0, 100000, 0, [])), (4, (.invokestatic 43, 7, false, false, 21, 3, 0, 0, 0, 0, [])), (7, (.iload_n 2, 8, false, false, 2, 0, 0, 0, 0, 0, [])), (8, (.iconst 0, 9, false, false, 0, 0, 0, 0, 0, 0, [])), (9, (.sipush 2000, 12, false, false, 0, 0, 0, 0, 2000, 0, [])), (12, (.invokestatic 43, 15, false, false, 21, 3, 0, 0, 0, 0, [])), (15, (.iload_n 3, 16, false, false, 3, 0, 0, 0, 0, 0, [])), (16, (.iconst 1, 17, false, false, 0, 0, 0, 0, 1, 0, [])), (17, (.bipush 40, 19, false, false, 0, 0, 0, 0, 40, 0, [])), (19, (.invokestatic 43, 22, false, false, 21, 3, 0, 0, 0, 0, [])), (22, (.aload_n 0, 23, false, false, 0, 0, 0, 0, 0, 0, [])), (23, (.getfield 19, 26, false, false, 14, 1, 1, 0, 0, 0, [])), (26, (.getfield 219, 29, false, false, 3, 4, 1, 0, 0, 0, [])), (29, (.getfield 223, 32, false, false, 6, 8, 0, 0, 0, 0, [])), (32, (.bipush 12, 34, false, false, 0, 0, 0, 0, 12, 0, [])), (34, (.if_icmp .ge 7, 37, false, false, 41, 0, 0, 0, 0, 0, [])), (37, (.iconst 1, 38, false, false, 0, 0, 0, 0, 1, 0, [])), (38, (.goto 4, 41, false, true, 42, 0, 0, 0, 0, 0, [])), (41, (.iconst 0, 42, true, false, 0, 0, 0, 0, 0, 0, [])), (42, (.invokestatic 180, 45, false, false, 277, 1, 0, 0, 0, 0, [])), (45, (.aload_n 0, 46, false, false, 0, 0, 0, 0, 0, 0, [])), (46, (.getfield 19, 49, false, false, 14, 1, 1, 0, 0, 0, []))]),
  (96, [(49, (.getfield 219, 52, false, false, 3, 4, 1, 0, 0, 0, [])), (52, (.invokevirtual 228, 55, false, false, 301, 0, 1, 6, 0, 0, [])), (55, (.iload_n 1, 56, false, false, 1, 0, 0, 0, 0, 0, [])), (56, (.iadd, 57, false, false, 0, 0, 0, 0, 0, 0, [])), (57, (.aload_n 0, 58, false, false, 0, 0, 0, 0, 0, 0, [])), (58, (.getfield 19, 61, false, false, 14, 1, 1, 0, 0, 0, [])), (61, (.invokevirtual 198, 64, false, false, 287, 0, 1, 3, 0, 0, [])), (64, (.if_icmp .gt 7, 67, false, false, 71, 0, 0, 0, 0, 0, [])), (67, (.iconst 1, 68, false, false, 0, 0, 0, 0, 1, 0, [])), (68, (.goto 4, 71, false, false, 72, 0, 0, 0, 0, 0, [])), (71, (.iconst 0, 72, false, false, 0, 0, 0, 0, 0, 0, [])), (72, (.istore 5, 74, false, false, 5, 0, 0, 0, 0, 0, [])), (74, (.iload 5, 76, false, false, 5, 0, 0, 0, 0, 0, [])), (76, (.ifCond .ne 10, 79, false, true, 86, 0, 0, 0, 0, 0, [])), (79, (.iload 4, 81, false, false, 4, 0, 0, 0, 0, 0, [])), (81, (.ifCond .ne 5, 84, false, true, 86, 0, 0, 0, 0, 0, [])), (84, (.iconst (-1), 85, false, false, 0, 0, 0, 0, -1, 0, [])), (85, (.ireturn, 86, false, false, 0, 0, 0, 0, 0, 0, [])), (86, (.iload 5, 88, false, false, 5, 0, 0, 0, 0, 0, [])), (88, (.ifCond .ne 12, 91, false, false, 100, 0, 0, 0, 0, 0, [])), (91, (.aload_n 0, 92, false, false, 0, 0, 0, 0, 0, 0, [])), (92, (.getfield 19, 95, false, false, 14, 1, 1, 0, 0, 0, [])), (95, (.iconst 2, 96, false, false, 0, 0, 0, 0, 2, 0, [])), (96, (.iload_n 1, 97, false, false, 1, 0, 0, 0, 0, 0, []))]),
  (113, [(97, (.invokevirtual 105, 100, false, false, 98, 2, 0, 3, 0, 0, [])), (100, (.aload_n 0, 101, false, false, 0, 0, 0, 0, 0, 0, [])), (101, (.getfield 19, 104, false, false, 14, 1, 1, 0, 0, 0, [])), (104, (.getfield 219, 107, false, false, 3, 4, 1, 0, 0, 0, [])), (107, (.iload_n 1, 108, false, false, 1, 0, 0, 0, 0, 0, [])), (108, (.iload_n 2, 109, false, false, 2, 0, 0, 0, 0, 0, [])), (109, (.iload_n 3, 110, false, false, 3, 0, 0, 0, 0, 0, [])), (110, (.invokevirtual 231, 113, false, false, 302, 3, 1, 6, 0, 0, [])), (113, (.ireturn, 114, false, false, 0, 0, 0, 0, 0, 0, []))])], 0, [])
set_option maxRecDepth 100000 in
theorem v_X11_loan : VE MYT dflT E_X11_loan := ⟨⟨⟨⟨⟨dX11_loan_0, rfl⟩, rfl⟩, ⟨⟨dX11_loan_1, rfl⟩, rfl⟩, ⟨⟨dX11_loan_2, rfl⟩, Or.inl ⟨rfl, kX11_88⟩⟩, ⟨⟨dX11_loan_4, rfl⟩, Or.inl ⟨rfl, _, my_21, sX11_43⟩⟩, ⟨⟨dX11_loan_7, rfl⟩, rfl⟩, ⟨⟨dX11_loan_8, rfl⟩, rfl⟩, ⟨⟨dX11_loan_9, rfl⟩, rfl⟩, ⟨⟨dX11_loan_12, rfl⟩, Or.inl ⟨rfl, _, my_21, sX11_43⟩⟩, ⟨⟨dX11_loan_15, rfl⟩, rfl⟩, ⟨⟨dX11_loan_16, rfl⟩, rfl⟩, ⟨⟨dX11_loan_17, rfl⟩, rfl⟩, ⟨⟨dX11_loan_19, rfl⟩, Or.inl ⟨rfl, _, my_21, sX11_43⟩⟩, ⟨⟨dX11_loan_22, rfl⟩, rfl⟩, ⟨⟨dX11_loan_23, rfl⟩, Or.inl ⟨by decide, _, _, fX11_19⟩⟩, ⟨⟨dX11_loan_26, rfl⟩, Or.inl ⟨by decide, _, _, fX11_219⟩⟩, ⟨⟨dX11_loan_29, rfl⟩, Or.inl ⟨by decide, _, _, fX11_223⟩⟩, ⟨⟨dX11_loan_32, rfl⟩, rfl⟩, ⟨⟨dX11_loan_34, rfl⟩, rfl⟩, ⟨⟨dX11_loan_37, rfl⟩, rfl⟩, ⟨⟨dX11_loan_38, rfl⟩, rfl⟩, ⟨⟨dX11_loan_41, rfl⟩, rfl⟩, ⟨⟨dX11_loan_42, rfl⟩, Or.inl ⟨rfl, _, my_277, sX11_180⟩⟩, ⟨⟨dX11_loan_45, rfl⟩, rfl⟩, ⟨⟨dX11_loan_46, rfl⟩, Or.inl ⟨by decide, _, _, fX11_19⟩⟩, trivial⟩,
  ⟨⟨⟨dX11_loan_49, rfl⟩, Or.inl ⟨by decide, _, _, fX11_219⟩⟩, ⟨⟨dX11_loan_52, rfl⟩, Or.inr ⟨by decide, ⟨_, my_301, sX11_228⟩, fun q => absurd q (by decide)⟩⟩, ⟨⟨dX11_loan_55, rfl⟩, rfl⟩, ⟨⟨dX11_loan_56, rfl⟩, trivial⟩, ⟨⟨dX11_loan_57, rfl⟩, rfl⟩, ⟨⟨dX11_loan_58, rfl⟩, Or.inl ⟨by decide, _, _, fX11_19⟩⟩, ⟨⟨dX11_loan_61, rfl⟩, Or.inr ⟨by decide, ⟨_, my_287, sX11_198⟩, fun q => absurd q (by decide)⟩⟩, ⟨⟨dX11_loan_64, rfl⟩, rfl⟩, ⟨⟨dX11_loan_67, rfl⟩, rfl⟩, ⟨⟨dX11_loan_68, rfl⟩, rfl⟩, ⟨⟨dX11_loan_71, rfl⟩, rfl⟩, ⟨⟨dX11_loan_72, rfl⟩, rfl⟩, ⟨⟨dX11_loan_74, rfl⟩, rfl⟩, ⟨⟨dX11_loan_76, rfl⟩, rfl⟩, ⟨⟨dX11_loan_79, rfl⟩, rfl⟩, ⟨⟨dX11_loan_81, rfl⟩, rfl⟩, ⟨⟨dX11_loan_84, rfl⟩, rfl⟩, ⟨⟨dX11_loan_85, rfl⟩, Or.inl ⟨rfl, rfl⟩⟩, ⟨⟨dX11_loan_86, rfl⟩, rfl⟩, ⟨⟨dX11_loan_88, rfl⟩, rfl⟩, ⟨⟨dX11_loan_91, rfl⟩, rfl⟩, ⟨⟨dX11_loan_92, rfl⟩, Or.inl ⟨by decide, _, _, fX11_19⟩⟩, ⟨⟨dX11_loan_95, rfl⟩, rfl⟩, ⟨⟨dX11_loan_96, rfl⟩, rfl⟩, trivial⟩,
  ⟨⟨⟨dX11_loan_97, rfl⟩, Or.inr ⟨by decide, ⟨_, my_98, sX11_105⟩, fun q => absurd q (by decide)⟩⟩, ⟨⟨dX11_loan_100, rfl⟩, rfl⟩, ⟨⟨dX11_loan_101, rfl⟩, Or.inl ⟨by decide, _, _, fX11_19⟩⟩, ⟨⟨dX11_loan_104, rfl⟩, Or.inl ⟨by decide, _, _, fX11_219⟩⟩, ⟨⟨dX11_loan_107, rfl⟩, rfl⟩, ⟨⟨dX11_loan_108, rfl⟩, rfl⟩, ⟨⟨dX11_loan_109, rfl⟩, rfl⟩, ⟨⟨dX11_loan_110, rfl⟩, Or.inr ⟨by decide, ⟨_, my_302, sX11_231⟩, fun q => absurd q (by decide)⟩⟩, ⟨⟨dX11_loan_113, rfl⟩, Or.inl ⟨rfl, rfl⟩⟩, trivial⟩, trivial⟩, by decide, Or.inl ⟨rfl, by decide, rfl⟩⟩
set_option maxRecDepth 100000 in
theorem g_X11_loan_0 (S : sT) (call : cT) (n : Nat) (a0 : Nat) (x1 : Int32) (x2 : Int32) (x3 : Int32) (x4 : Int32) (h : pH) : bd S call dflT E_X11_loan (n + 1) 0 [some (.ref a0), some (.int x1), some (.int x2), some (.int x3), some (.int x4), none] [] h = (cU (call 21 [.int x1, .int 1, .int 100000] h) (fun h1 => cU (call 21 [.int x2, .int 0, .int 2000] h1) (fun h2 => cU (call 21 [.int x3, .int 1, .int 40] h2) (fun h3 => gV h3 (.ref a0) 14 1 (fun w4 => gV h3 w4 3 4 (fun w5 => gI h3 w5 6 8 (fun y6 => (if 12 ≤ y6 then bd S call dflT E_X11_loan n 42 [some (.ref a0), some (.int x1), some (.int x2), some (.int x3), some (.int x4), none] [.int 0] h3 else bd S call dflT E_X11_loan n 42 [some (.ref a0), some (.int x1), some (.int x2), some (.int x3), some (.int x4), none] [.int 1] h3)))))))) := rfl
set_option maxRecDepth 100000 in
theorem g_X11_loan_42 (S : sT) (call : cT) (n : Nat) (a0 : Nat) (x1 : Int32) (x2 : Int32) (x3 : Int32) (x4 : Int32) (o5 : Option Value) (y0 : Int32) (h : pH) : bd S call dflT E_X11_loan (n + 1) 42 [some (.ref a0), some (.int x1), some (.int x2), some (.int x3), some (.int x4), o5] [.int y0] h = (cU (call 277 [.int y0] h) (fun h1 => gV h1 (.ref a0) 14 1 (fun w2 => gV h1 w2 3 4 (fun w3 => rC h1 w3 6 (cI (call 301 [w3] h1) (fun y5 h4 => gV h4 (.ref a0) 14 1 (fun w6 => rC h4 w6 3 (cI (call 287 [w6] h4) (fun y8 h7 => (if y8 < (y5 + x1) then (if (0 : Int32) = 0 then (if x4 = 0 then some (.inl (some (.int (-1))), h7) else bd S call dflT E_X11_loan n 86 [some (.ref a0), some (.int x1), some (.int x2), some (.int x3), some (.int x4), some (.int 0)] [] h7) else bd S call dflT E_X11_loan n 86 [some (.ref a0), some (.int x1), some (.int x2), some (.int x3), some (.int x4), some (.int 0)] [] h7) else (if (1 : Int32) = 0 then (if x4 = 0 then some (.inl (some (.int (-1))), h7) else bd S call dflT E_X11_loan n 86 [some (.ref a0), some (.int x1), some (.int x2), some (.int x3), some (.int x4), some (.int 1)] [] h7) else bd S call dflT E_X11_loan n 86 [some (.ref a0), some (.int x1), some (.int x2), some (.int x3), some (.int x4), some (.int 1)] [] h7))))))))))) := rfl
set_option maxRecDepth 100000 in
theorem g_X11_loan_86 (S : sT) (call : cT) (n : Nat) (a0 : Nat) (x1 : Int32) (x2 : Int32) (x3 : Int32) (x4 : Int32) (x5 : Int32) (h : pH) : bd S call dflT E_X11_loan (n + 1) 86 [some (.ref a0), some (.int x1), some (.int x2), some (.int x3), some (.int x4), some (.int x5)] [] h = ((if x5 = 0 then gV h (.ref a0) 14 1 (fun w5 => rC h w5 3 (cU (call 98 [w5, .int 2, .int x1] h) (fun h6 => gV h6 (.ref a0) 14 1 (fun w7 => gV h6 w7 3 4 (fun w8 => rC h6 w8 6 (cI (call 302 [w8, .int x1, .int x2, .int x3] h6) (fun y10 h9 => some (.inl (some (.int y10)), h9)))))))) else gV h (.ref a0) 14 1 (fun w1 => gV h w1 3 4 (fun w2 => rC h w2 6 (cI (call 302 [w2, .int x1, .int x2, .int x3] h) (fun y4 h3 => some (.inl (some (.int y4)), h3))))))) := rfl
theorem dX11_owing_0 : decode cX11_owing 0 = .ok (.iload_n 1, 1) := by decide +kernel
theorem dX11_owing_1 : decode cX11_owing 1 = .ok (.aload_n 0, 1) := by decide +kernel
theorem dX11_owing_2 : decode cX11_owing 2 = .ok (.getfield 19, 3) := by decide +kernel
theorem dX11_owing_5 : decode cX11_owing 5 = .ok (.getfield 219, 3) := by decide +kernel
theorem dX11_owing_8 : decode cX11_owing 8 = .ok (.getfield 223, 3) := by decide +kernel
theorem dX11_owing_11 : decode cX11_owing 11 = .ok (.invokestatic 234, 3) := by decide +kernel
theorem dX11_owing_14 : decode cX11_owing 14 = .ok (.aload_n 0, 1) := by decide +kernel
theorem dX11_owing_15 : decode cX11_owing 15 = .ok (.getfield 19, 3) := by decide +kernel
theorem dX11_owing_18 : decode cX11_owing 18 = .ok (.getfield 219, 3) := by decide +kernel
theorem dX11_owing_21 : decode cX11_owing 21 = .ok (.getfield 237, 3) := by decide +kernel
theorem dX11_owing_24 : decode cX11_owing 24 = .ok (.iload_n 1, 1) := by decide +kernel
theorem dX11_owing_25 : decode cX11_owing 25 = .ok (.iaload, 1) := by decide +kernel
theorem dX11_owing_26 : decode cX11_owing 26 = .ok (.ireturn, 1) := by decide +kernel
noncomputable def E_X11_owing : mE := (mX11_owing, [(26, [(0, (.iload_n 1, 1, false, false, 1, 0, 0, 0, 0, 0, [])), (1, (.aload_n 0, 2, false, false, 0, 0, 0, 0, 0, 0, [])), (2, (.getfield 19, 5, false, false, 14, 1, 1, 0, 0, 0, [])), (5, (.getfield 219, 8, false, false, 3, 4, 1, 0, 0, 0, [])), (8, (.getfield 223, 11, false, false, 6, 8, 0, 0, 0, 0, [])), (11, (.invokestatic 234, 14, false, false, 19, 2, 0, 0, 0, 0, [])), (14, (.aload_n 0, 15, false, false, 0, 0, 0, 0, 0, 0, [])), (15, (.getfield 19, 18, false, false, 14, 1, 1, 0, 0, 0, [])), (18, (.getfield 219, 21, false, false, 3, 4, 1, 0, 0, 0, [])), (21, (.getfield 237, 24, false, false, 6, 11, 1, 0, 0, 0, [])), (24, (.iload_n 1, 25, false, false, 1, 0, 0, 0, 0, 0, [])), (25, (.iaload, 26, false, false, 0, 0, 0, 0, 0, 0, [])), (26, (.ireturn, 27, false, false, 0, 0, 0, 0, 0, 0, []))])], 0, [])
set_option maxRecDepth 100000 in
theorem v_X11_owing : VE MYT dflT E_X11_owing := ⟨⟨⟨⟨⟨dX11_owing_0, rfl⟩, rfl⟩, ⟨⟨dX11_owing_1, rfl⟩, rfl⟩, ⟨⟨dX11_owing_2, rfl⟩, Or.inl ⟨by decide, _, _, fX11_19⟩⟩, ⟨⟨dX11_owing_5, rfl⟩, Or.inl ⟨by decide, _, _, fX11_219⟩⟩, ⟨⟨dX11_owing_8, rfl⟩, Or.inl ⟨by decide, _, _, fX11_223⟩⟩, ⟨⟨dX11_owing_11, rfl⟩, Or.inl ⟨rfl, _, my_19, sX11_234⟩⟩, ⟨⟨dX11_owing_14, rfl⟩, rfl⟩, ⟨⟨dX11_owing_15, rfl⟩, Or.inl ⟨by decide, _, _, fX11_19⟩⟩, ⟨⟨dX11_owing_18, rfl⟩, Or.inl ⟨by decide, _, _, fX11_219⟩⟩, ⟨⟨dX11_owing_21, rfl⟩, Or.inl ⟨by decide, _, _, fX11_237⟩⟩, ⟨⟨dX11_owing_24, rfl⟩, rfl⟩, ⟨⟨dX11_owing_25, rfl⟩, trivial⟩, ⟨⟨dX11_owing_26, rfl⟩, Or.inl ⟨rfl, rfl⟩⟩, trivial⟩, trivial⟩, by decide, Or.inl ⟨rfl, by decide, rfl⟩⟩
set_option maxRecDepth 100000 in
theorem g_X11_owing_0 (S : sT) (call : cT) (n : Nat) (a0 : Nat) (x1 : Int32) (h : pH) : bd S call dflT E_X11_owing (n + 1) 0 [some (.ref a0), some (.int x1)] [] h = (gV h (.ref a0) 14 1 (fun w1 => gV h w1 3 4 (fun w2 => gI h w2 6 8 (fun y3 => cU (call 19 [.int x1, .int y3] h) (fun h4 => gV h4 (.ref a0) 14 1 (fun w5 => gV h4 w5 3 4 (fun w6 => gV h4 w6 6 11 (fun w7 => aI h4 w7 0 x1 (fun y8 => some (.inl (some (.int y8)), h4)))))))))) := rfl
theorem dX11_work_0 : decode cX11_work 0 = .ok (.iload_n 1, 1) := by decide +kernel
theorem dX11_work_1 : decode cX11_work 1 = .ok (.invokestatic 40, 3) := by decide +kernel
theorem dX11_work_4 : decode cX11_work 4 = .ok (.iload_n 2, 1) := by decide +kernel
theorem dX11_work_5 : decode cX11_work 5 = .ok (.ifCond .eq 8, 3) := by decide +kernel
theorem dX11_work_8 : decode cX11_work 8 = .ok (.bipush 12, 2) := by decide +kernel
theorem dX11_work_10 : decode cX11_work 10 = .ok (.goto 5, 3) := by decide +kernel
theorem dX11_work_13 : decode cX11_work 13 = .ok (.bipush 13, 2) := by decide +kernel
theorem dX11_work_15 : decode cX11_work 15 = .ok (.istore_n 3, 1) := by decide +kernel
theorem dX11_work_16 : decode cX11_work 16 = .ok (.aload_n 0, 1) := by decide +kernel
theorem dX11_work_17 : decode cX11_work 17 = .ok (.getfield 19, 3) := by decide +kernel
theorem dX11_work_20 : decode cX11_work 20 = .ok (.getfield 47, 3) := by decide +kernel
theorem dX11_work_23 : decode cX11_work 23 = .ok (.iload_n 1, 1) := by decide +kernel
theorem dX11_work_24 : decode cX11_work 24 = .ok (.invokevirtual 51, 3) := by decide +kernel
theorem dX11_work_27 : decode cX11_work 27 = .ok (.ifCond .ne 25, 3) := by decide +kernel
theorem dX11_work_30 : decode cX11_work 30 = .ok (.aload_n 0, 1) := by decide +kernel
theorem dX11_work_31 : decode cX11_work 31 = .ok (.getfield 19, 3) := by decide +kernel
theorem dX11_work_34 : decode cX11_work 34 = .ok (.iload_n 3, 1) := by decide +kernel
theorem dX11_work_35 : decode cX11_work 35 = .ok (.iload_n 2, 1) := by decide +kernel
theorem dX11_work_36 : decode cX11_work 36 = .ok (.ifCond .eq 8, 3) := by decide +kernel
theorem dX11_work_39 : decode cX11_work 39 = .ok (.bipush 8, 2) := by decide +kernel
theorem dX11_work_41 : decode cX11_work 41 = .ok (.goto 5, 3) := by decide +kernel
theorem dX11_work_44 : decode cX11_work 44 = .ok (.bipush 30, 2) := by decide +kernel
theorem dX11_work_46 : decode cX11_work 46 = .ok (.invokevirtual 241, 3) := by decide +kernel
theorem dX11_work_49 : decode cX11_work 49 = .ok (.ifCond .ne 5, 3) := by decide +kernel
theorem dX11_work_52 : decode cX11_work 52 = .ok (.iconst 0, 1) := by decide +kernel
theorem dX11_work_53 : decode cX11_work 53 = .ok (.ireturn, 1) := by decide +kernel
theorem dX11_work_54 : decode cX11_work 54 = .ok (.aload_n 0, 1) := by decide +kernel
theorem dX11_work_55 : decode cX11_work 55 = .ok (.getfield 19, 3) := by decide +kernel
theorem dX11_work_58 : decode cX11_work 58 = .ok (.getfield 47, 3) := by decide +kernel
theorem dX11_work_61 : decode cX11_work 61 = .ok (.iload_n 2, 1) := by decide +kernel
theorem dX11_work_62 : decode cX11_work 62 = .ok (.ifCond .eq 7, 3) := by decide +kernel
theorem dX11_work_65 : decode cX11_work 65 = .ok (.iconst 5, 1) := by decide +kernel
theorem dX11_work_66 : decode cX11_work 66 = .ok (.goto 4, 3) := by decide +kernel
theorem dX11_work_69 : decode cX11_work 69 = .ok (.iconst 4, 1) := by decide +kernel
theorem dX11_work_70 : decode cX11_work 70 = .ok (.iload_n 1, 1) := by decide +kernel
theorem dX11_work_71 : decode cX11_work 71 = .ok (.iload_n 2, 1) := by decide +kernel
theorem dX11_work_72 : decode cX11_work 72 = .ok (.ifCond .eq 8, 3) := by decide +kernel
theorem dX11_work_75 : decode cX11_work 75 = .ok (.bipush 6, 2) := by decide +kernel
theorem dX11_work_77 : decode cX11_work 77 = .ok (.goto 5, 3) := by decide +kernel
theorem dX11_work_80 : decode cX11_work 80 = .ok (.bipush 20, 2) := by decide +kernel
theorem dX11_work_82 : decode cX11_work 82 = .ok (.invokevirtual 57, 3) := by decide +kernel
theorem dX11_work_85 : decode cX11_work 85 = .ok (.iconst 1, 1) := by decide +kernel
theorem dX11_work_86 : decode cX11_work 86 = .ok (.ireturn, 1) := by decide +kernel
noncomputable def E_X11_work : mE := (mX11_work, [(49, [(0, (.iload_n 1, 1, false, false, 1, 0, 0, 0, 0, 0, [])), (1, (.invokestatic 40, 4, false, false, 20, 1, 0, 0, 0, 0, [])), (4, (.iload_n 2, 5, false, false, 2, 0, 0, 0, 0, 0, [])), (5, (.ifCond .eq 8, 8, false, false, 13, 0, 0, 0, 0, 0, [])), (8, (.bipush 12, 10, false, false, 0, 0, 0, 0, 12, 0, [])), (10, (.goto 5, 13, false, true, 15, 0, 0, 0, 0, 0, [])), (13, (.bipush 13, 15, true, false, 0, 0, 0, 0, 13, 0, [])), (15, (.istore_n 3, 16, false, false, 3, 0, 0, 0, 0, 0, [])), (16, (.aload_n 0, 17, false, false, 0, 0, 0, 0, 0, 0, [])), (17, (.getfield 19, 20, false, false, 14, 1, 1, 0, 0, 0, [])), (20, (.getfield 47, 23, false, false, 3, 1, 1, 0, 0, 0, [])), (23, (.iload_n 1, 24, false, false, 1, 0, 0, 0, 0, 0, [])), (24, (.invokevirtual 51, 27, false, false, 24, 1, 1, 5, 0, 0, [])), (27, (.ifCond .ne 25, 30, false, false, 52, 0, 0, 0, 0, 0, [])), (30, (.aload_n 0, 31, false, false, 0, 0, 0, 0, 0, 0, [])), (31, (.getfield 19, 34, false, false, 14, 1, 1, 0, 0, 0, [])), (34, (.iload_n 3, 35, false, false, 3, 0, 0, 0, 0, 0, [])), (35, (.iload_n 2, 36, false, false, 2, 0, 0, 0, 0, 0, [])), (36, (.ifCond .eq 8, 39, false, false, 44, 0, 0, 0, 0, 0, [])), (39, (.bipush 8, 41, false, false, 0, 0, 0, 0, 8, 0, [])), (41, (.goto 5, 44, false, true, 46, 0, 0, 0, 0, 0, [])), (44, (.bipush 30, 46, true, false, 0, 0, 0, 0, 30, 0, [])), (46, (.invokevirtual 241, 49, false, false, 310, 2, 1, 3, 0, 0, [])), (49, (.ifCond .ne 5, 52, false, false, 54, 0, 0, 0, 0, 0, []))]),
  (86, [(52, (.iconst 0, 53, false, false, 0, 0, 0, 0, 0, 0, [])), (53, (.ireturn, 54, false, false, 0, 0, 1, 0, 0, 0, [])), (54, (.aload_n 0, 55, false, false, 0, 0, 0, 0, 0, 0, [])), (55, (.getfield 19, 58, false, false, 14, 1, 1, 0, 0, 0, [])), (58, (.getfield 47, 61, false, false, 3, 1, 1, 0, 0, 0, [])), (61, (.iload_n 2, 62, false, false, 2, 0, 0, 0, 0, 0, [])), (62, (.ifCond .eq 7, 65, false, false, 69, 0, 0, 0, 0, 0, [])), (65, (.iconst 5, 66, false, false, 0, 0, 0, 0, 5, 0, [])), (66, (.goto 4, 69, false, false, 70, 0, 0, 0, 0, 0, [])), (69, (.iconst 4, 70, false, false, 0, 0, 0, 0, 4, 0, [])), (70, (.iload_n 1, 71, false, false, 1, 0, 0, 0, 0, 0, [])), (71, (.iload_n 2, 72, false, false, 2, 0, 0, 0, 0, 0, [])), (72, (.ifCond .eq 8, 75, false, false, 80, 0, 0, 0, 0, 0, [])), (75, (.bipush 6, 77, false, false, 0, 0, 0, 0, 6, 0, [])), (77, (.goto 5, 80, false, false, 82, 0, 0, 0, 0, 0, [])), (80, (.bipush 20, 82, false, false, 0, 0, 0, 0, 20, 0, [])), (82, (.invokevirtual 57, 85, false, false, 25, 3, 0, 5, 0, 0, [])), (85, (.iconst 1, 86, false, false, 0, 0, 0, 0, 1, 0, [])), (86, (.ireturn, 87, false, false, 0, 0, 1, 0, 0, 0, []))])], 0, [])
set_option maxRecDepth 100000 in
theorem v_X11_work : VE MYT dflT E_X11_work := ⟨⟨⟨⟨⟨dX11_work_0, rfl⟩, rfl⟩, ⟨⟨dX11_work_1, rfl⟩, Or.inl ⟨rfl, _, my_20, sX11_40⟩⟩, ⟨⟨dX11_work_4, rfl⟩, rfl⟩, ⟨⟨dX11_work_5, rfl⟩, rfl⟩, ⟨⟨dX11_work_8, rfl⟩, rfl⟩, ⟨⟨dX11_work_10, rfl⟩, rfl⟩, ⟨⟨dX11_work_13, rfl⟩, rfl⟩, ⟨⟨dX11_work_15, rfl⟩, rfl⟩, ⟨⟨dX11_work_16, rfl⟩, rfl⟩, ⟨⟨dX11_work_17, rfl⟩, Or.inl ⟨by decide, _, _, fX11_19⟩⟩, ⟨⟨dX11_work_20, rfl⟩, Or.inl ⟨by decide, _, _, fX11_47⟩⟩, ⟨⟨dX11_work_23, rfl⟩, rfl⟩, ⟨⟨dX11_work_24, rfl⟩, Or.inr ⟨by decide, ⟨_, my_24, sX11_51⟩, fun q => absurd q (by decide)⟩⟩, ⟨⟨dX11_work_27, rfl⟩, rfl⟩, ⟨⟨dX11_work_30, rfl⟩, rfl⟩, ⟨⟨dX11_work_31, rfl⟩, Or.inl ⟨by decide, _, _, fX11_19⟩⟩, ⟨⟨dX11_work_34, rfl⟩, rfl⟩, ⟨⟨dX11_work_35, rfl⟩, rfl⟩, ⟨⟨dX11_work_36, rfl⟩, rfl⟩, ⟨⟨dX11_work_39, rfl⟩, rfl⟩, ⟨⟨dX11_work_41, rfl⟩, rfl⟩, ⟨⟨dX11_work_44, rfl⟩, rfl⟩, ⟨⟨dX11_work_46, rfl⟩, Or.inr ⟨by decide, ⟨_, my_310, sX11_241⟩, fun q => absurd q (by decide)⟩⟩, ⟨⟨dX11_work_49, rfl⟩, rfl⟩, trivial⟩,
  ⟨⟨⟨dX11_work_52, rfl⟩, rfl⟩, ⟨⟨dX11_work_53, rfl⟩, Or.inr (Or.inl ⟨rfl, rfl⟩)⟩, ⟨⟨dX11_work_54, rfl⟩, rfl⟩, ⟨⟨dX11_work_55, rfl⟩, Or.inl ⟨by decide, _, _, fX11_19⟩⟩, ⟨⟨dX11_work_58, rfl⟩, Or.inl ⟨by decide, _, _, fX11_47⟩⟩, ⟨⟨dX11_work_61, rfl⟩, rfl⟩, ⟨⟨dX11_work_62, rfl⟩, rfl⟩, ⟨⟨dX11_work_65, rfl⟩, rfl⟩, ⟨⟨dX11_work_66, rfl⟩, rfl⟩, ⟨⟨dX11_work_69, rfl⟩, rfl⟩, ⟨⟨dX11_work_70, rfl⟩, rfl⟩, ⟨⟨dX11_work_71, rfl⟩, rfl⟩, ⟨⟨dX11_work_72, rfl⟩, rfl⟩, ⟨⟨dX11_work_75, rfl⟩, rfl⟩, ⟨⟨dX11_work_77, rfl⟩, rfl⟩, ⟨⟨dX11_work_80, rfl⟩, rfl⟩, ⟨⟨dX11_work_82, rfl⟩, Or.inr ⟨by decide, ⟨_, my_25, sX11_57⟩, fun q => absurd q (by decide)⟩⟩, ⟨⟨dX11_work_85, rfl⟩, rfl⟩, ⟨⟨dX11_work_86, rfl⟩, Or.inr (Or.inl ⟨rfl, rfl⟩)⟩, trivial⟩, trivial⟩, by decide, Or.inl ⟨rfl, by decide, rfl⟩⟩
set_option maxRecDepth 100000 in
theorem g_X11_work_0 (S : sT) (call : cT) (n : Nat) (a0 : Nat) (x1 : Int32) (x2 : Int32) (h : pH) : bd S call dflT E_X11_work (n + 1) 0 [some (.ref a0), some (.int x1), some (.int x2), none] [] h = (cU (call 20 [.int x1] h) (fun h1 => (if x2 = 0 then bd S call dflT E_X11_work n 15 [some (.ref a0), some (.int x1), some (.int x2), none] [.int 13] h1 else bd S call dflT E_X11_work n 15 [some (.ref a0), some (.int x1), some (.int x2), none] [.int 12] h1))) := rfl
set_option maxRecDepth 100000 in
theorem g_X11_work_15 (S : sT) (call : cT) (n : Nat) (a0 : Nat) (x1 : Int32) (x2 : Int32) (o3 : Option Value) (y0 : Int32) (h : pH) : bd S call dflT E_X11_work (n + 1) 15 [some (.ref a0), some (.int x1), some (.int x2), o3] [.int y0] h = (gV h (.ref a0) 14 1 (fun w1 => gV h w1 3 1 (fun w2 => rC h w2 5 (cI (call 24 [w2, .int x1] h) (fun y4 h3 => (if y4 = 0 then gV h3 (.ref a0) 14 1 (fun w5 => (if x2 = 0 then bd S call dflT E_X11_work n 46 [some (.ref a0), some (.int x1), some (.int x2), some (.int y0)] [.int 30, .int y0, w5] h3 else bd S call dflT E_X11_work n 46 [some (.ref a0), some (.int x1), some (.int x2), some (.int y0)] [.int 8, .int y0, w5] h3)) else zR 0 (some (.inl (some (.int 0)), h3)))))))) := rfl
set_option maxRecDepth 100000 in
theorem g_X11_work_46 (S : sT) (call : cT) (n : Nat) (a0 : Nat) (x1 : Int32) (x2 : Int32) (x3 : Int32) (u0 : Value) (y1 : Int32) (y2 : Int32) (h : pH) : bd S call dflT E_X11_work (n + 1) 46 [some (.ref a0), some (.int x1), some (.int x2), some (.int x3)] [.int y2, .int y1, u0] h = (rC h u0 3 (cI (call 310 [u0, .int y1, .int y2] h) (fun y2 h1 => (if y2 = 0 then zR 0 (some (.inl (some (.int 0)), h1)) else gV h1 (.ref a0) 14 1 (fun w3 => gV h1 w3 3 1 (fun w4 => (if x2 = 0 then (if x2 = 0 then rC h1 w4 5 (cU (call 25 [w4, .int 4, .int x1, .int 20] h1) (fun h5 => zR 1 (some (.inl (some (.int 1)), h5)))) else rC h1 w4 5 (cU (call 25 [w4, .int 4, .int x1, .int 6] h1) (fun h6 => zR 1 (some (.inl (some (.int 1)), h6))))) else (if x2 = 0 then rC h1 w4 5 (cU (call 25 [w4, .int 5, .int x1, .int 20] h1) (fun h7 => zR 1 (some (.inl (some (.int 1)), h7)))) else rC h1 w4 5 (cU (call 25 [w4, .int 5, .int x1, .int 6] h1) (fun h8 => zR 1 (some (.inl (some (.int 1)), h8)))))))))))) := rfl
theorem dX11_sell_0 : decode cX11_sell 0 = .ok (.iload_n 1, 1) := by decide +kernel
theorem dX11_sell_1 : decode cX11_sell 1 = .ok (.invokestatic 40, 3) := by decide +kernel
theorem dX11_sell_4 : decode cX11_sell 4 = .ok (.aload_n 0, 1) := by decide +kernel
theorem dX11_sell_5 : decode cX11_sell 5 = .ok (.getfield 19, 3) := by decide +kernel
theorem dX11_sell_8 : decode cX11_sell 8 = .ok (.getfield 47, 3) := by decide +kernel
theorem dX11_sell_11 : decode cX11_sell 11 = .ok (.iload_n 1, 1) := by decide +kernel
theorem dX11_sell_12 : decode cX11_sell 12 = .ok (.invokevirtual 51, 3) := by decide +kernel
theorem dX11_sell_15 : decode cX11_sell 15 = .ok (.ifCond .ne 20, 3) := by decide +kernel
theorem dX11_sell_18 : decode cX11_sell 18 = .ok (.aload_n 0, 1) := by decide +kernel
theorem dX11_sell_19 : decode cX11_sell 19 = .ok (.getfield 19, 3) := by decide +kernel
theorem dX11_sell_22 : decode cX11_sell 22 = .ok (.getfield 47, 3) := by decide +kernel
theorem dX11_sell_25 : decode cX11_sell 25 = .ok (.bipush 10, 2) := by decide +kernel
theorem dX11_sell_27 : decode cX11_sell 27 = .ok (.iload_n 1, 1) := by decide +kernel
theorem dX11_sell_28 : decode cX11_sell 28 = .ok (.invokevirtual 138, 3) := by decide +kernel
theorem dX11_sell_31 : decode cX11_sell 31 = .ok (.iconst (-1), 1) := by decide +kernel
theorem dX11_sell_32 : decode cX11_sell 32 = .ok (.if_icmp .eq 5, 3) := by decide +kernel
theorem dX11_sell_35 : decode cX11_sell 35 = .ok (.iconst (-1), 1) := by decide +kernel
theorem dX11_sell_36 : decode cX11_sell 36 = .ok (.ireturn, 1) := by decide +kernel
theorem dX11_sell_37 : decode cX11_sell 37 = .ok (.aload_n 0, 1) := by decide +kernel
theorem dX11_sell_38 : decode cX11_sell 38 = .ok (.getfield 19, 3) := by decide +kernel
theorem dX11_sell_41 : decode cX11_sell 41 = .ok (.bipush 20, 2) := by decide +kernel
theorem dX11_sell_43 : decode cX11_sell 43 = .ok (.iload_n 1, 1) := by decide +kernel
theorem dX11_sell_44 : decode cX11_sell 44 = .ok (.invokevirtual 195, 3) := by decide +kernel
theorem dX11_sell_47 : decode cX11_sell 47 = .ok (.iconst (-1), 1) := by decide +kernel
theorem dX11_sell_48 : decode cX11_sell 48 = .ok (.if_icmp .eq 7, 3) := by decide +kernel
theorem dX11_sell_51 : decode cX11_sell 51 = .ok (.iconst 1, 1) := by decide +kernel
theorem dX11_sell_52 : decode cX11_sell 52 = .ok (.goto 4, 3) := by decide +kernel
theorem dX11_sell_55 : decode cX11_sell 55 = .ok (.iconst 0, 1) := by decide +kernel
theorem dX11_sell_56 : decode cX11_sell 56 = .ok (.istore_n 3, 1) := by decide +kernel
theorem dX11_sell_57 : decode cX11_sell 57 = .ok (.iload_n 3, 1) := by decide +kernel
theorem dX11_sell_58 : decode cX11_sell 58 = .ok (.ifCond .ne 9, 3) := by decide +kernel
theorem dX11_sell_61 : decode cX11_sell 61 = .ok (.iload_n 2, 1) := by decide +kernel
theorem dX11_sell_62 : decode cX11_sell 62 = .ok (.ifCond .ne 5, 3) := by decide +kernel
theorem dX11_sell_65 : decode cX11_sell 65 = .ok (.iconst (-1), 1) := by decide +kernel
theorem dX11_sell_66 : decode cX11_sell 66 = .ok (.ireturn, 1) := by decide +kernel
theorem dX11_sell_67 : decode cX11_sell 67 = .ok (.aload_n 0, 1) := by decide +kernel
theorem dX11_sell_68 : decode cX11_sell 68 = .ok (.getfield 19, 3) := by decide +kernel
theorem dX11_sell_71 : decode cX11_sell 71 = .ok (.getfield 47, 3) := by decide +kernel
theorem dX11_sell_74 : decode cX11_sell 74 = .ok (.iload_n 1, 1) := by decide +kernel
theorem dX11_sell_75 : decode cX11_sell 75 = .ok (.invokevirtual 159, 3) := by decide +kernel
theorem dX11_sell_78 : decode cX11_sell 78 = .ok (.istore 4, 2) := by decide +kernel
theorem dX11_sell_80 : decode cX11_sell 80 = .ok (.iload_n 3, 1) := by decide +kernel
theorem dX11_sell_81 : decode cX11_sell 81 = .ok (.ifCond .ne 13, 3) := by decide +kernel
theorem dX11_sell_84 : decode cX11_sell 84 = .ok (.aload_n 0, 1) := by decide +kernel
theorem dX11_sell_85 : decode cX11_sell 85 = .ok (.getfield 19, 3) := by decide +kernel
theorem dX11_sell_88 : decode cX11_sell 88 = .ok (.iconst 3, 1) := by decide +kernel
theorem dX11_sell_89 : decode cX11_sell 89 = .ok (.iload 4, 2) := by decide +kernel
theorem dX11_sell_91 : decode cX11_sell 91 = .ok (.invokevirtual 105, 3) := by decide +kernel
theorem dX11_sell_94 : decode cX11_sell 94 = .ok (.aload_n 0, 1) := by decide +kernel
theorem dX11_sell_95 : decode cX11_sell 95 = .ok (.getfield 19, 3) := by decide +kernel
theorem dX11_sell_98 : decode cX11_sell 98 = .ok (.bipush 16, 2) := by decide +kernel
theorem dX11_sell_100 : decode cX11_sell 100 = .ok (.iload 4, 2) := by decide +kernel
theorem dX11_sell_102 : decode cX11_sell 102 = .ok (.invokevirtual 216, 3) := by decide +kernel
theorem dX11_sell_105 : decode cX11_sell 105 = .ok (.aload_n 0, 1) := by decide +kernel
theorem dX11_sell_106 : decode cX11_sell 106 = .ok (.getfield 19, 3) := by decide +kernel
theorem dX11_sell_109 : decode cX11_sell 109 = .ok (.getfield 47, 3) := by decide +kernel
theorem dX11_sell_112 : decode cX11_sell 112 = .ok (.bipush 11, 2) := by decide +kernel
theorem dX11_sell_114 : decode cX11_sell 114 = .ok (.iload_n 1, 1) := by decide +kernel
theorem dX11_sell_115 : decode cX11_sell 115 = .ok (.iconst 1, 1) := by decide +kernel
theorem dX11_sell_116 : decode cX11_sell 116 = .ok (.invokevirtual 57, 3) := by decide +kernel
theorem dX11_sell_119 : decode cX11_sell 119 = .ok (.iload 4, 2) := by decide +kernel
theorem dX11_sell_121 : decode cX11_sell 121 = .ok (.ireturn, 1) := by decide +kernel
noncomputable def E_X11_sell : mE := (mX11_sell, [(47, [(0, (.iload_n 1, 1, false, false, 1, 0, 0, 0, 0, 0, [])), (1, (.invokestatic 40, 4, false, false, 20, 1, 0, 0, 0, 0, [])), (4, (.aload_n 0, 5, false, false, 0, 0, 0, 0, 0, 0, [])), (5, (.getfield 19, 8, false, false, 14, 1, 1, 0, 0, 0, [])), (8, (.getfield 47, 11, false, false, 3, 1, 1, 0, 0, 0, [])), (11, (.iload_n 1, 12, false, false, 1, 0, 0, 0, 0, 0, [])), (12, (.invokevirtual 51, 15, false, false, 24, 1, 1, 5, 0, 0, [])), (15, (.ifCond .ne 20, 18, false, false, 35, 0, 0, 0, 0, 0, [])), (18, (.aload_n 0, 19, false, false, 0, 0, 0, 0, 0, 0, [])), (19, (.getfield 19, 22, false, false, 14, 1, 1, 0, 0, 0, [])), (22, (.getfield 47, 25, false, false, 3, 1, 1, 0, 0, 0, [])), (25, (.bipush 10, 27, false, false, 0, 0, 0, 0, 10, 0, [])), (27, (.iload_n 1, 28, false, false, 1, 0, 0, 0, 0, 0, [])), (28, (.invokevirtual 138, 31, false, false, 23, 2, 1, 5, 0, 0, [])), (31, (.iconst (-1), 32, false, false, 0, 0, 0, 0, -1, 0, [])), (32, (.if_icmp .eq 5, 35, false, false, 37, 0, 0, 0, 0, 0, [])), (35, (.iconst (-1), 36, false, false, 0, 0, 0, 0, -1, 0, [])), (36, (.ireturn, 37, false, false, 0, 0, 0, 0, 0, 0, [])), (37, (.aload_n 0, 38, false, false, 0, 0, 0, 0, 0, 0, [])), (38, (.getfield 19, 41, false, false, 14, 1, 1, 0, 0, 0, [])), (41, (.bipush 20, 43, false, false, 0, 0, 0, 0, 20, 0, [])), (43, (.iload_n 1, 44, false, false, 1, 0, 0, 0, 0, 0, [])), (44, (.invokevirtual 195, 47, false, false, 286, 2, 1, 3, 0, 0, [])), (47, (.iconst (-1), 48, false, false, 0, 0, 0, 0, -1, 0, []))]),
  (91, [(48, (.if_icmp .eq 7, 51, false, false, 55, 0, 0, 0, 0, 0, [])), (51, (.iconst 1, 52, false, false, 0, 0, 0, 0, 1, 0, [])), (52, (.goto 4, 55, false, false, 56, 0, 0, 0, 0, 0, [])), (55, (.iconst 0, 56, false, false, 0, 0, 0, 0, 0, 0, [])), (56, (.istore_n 3, 57, false, false, 3, 0, 0, 0, 0, 0, [])), (57, (.iload_n 3, 58, false, false, 3, 0, 0, 0, 0, 0, [])), (58, (.ifCond .ne 9, 61, false, true, 67, 0, 0, 0, 0, 0, [])), (61, (.iload_n 2, 62, false, false, 2, 0, 0, 0, 0, 0, [])), (62, (.ifCond .ne 5, 65, false, true, 67, 0, 0, 0, 0, 0, [])), (65, (.iconst (-1), 66, false, false, 0, 0, 0, 0, -1, 0, [])), (66, (.ireturn, 67, false, false, 0, 0, 0, 0, 0, 0, [])), (67, (.aload_n 0, 68, false, false, 0, 0, 0, 0, 0, 0, [])), (68, (.getfield 19, 71, false, false, 14, 1, 1, 0, 0, 0, [])), (71, (.getfield 47, 74, false, false, 3, 1, 1, 0, 0, 0, [])), (74, (.iload_n 1, 75, false, false, 1, 0, 0, 0, 0, 0, [])), (75, (.invokevirtual 159, 78, false, false, 259, 1, 1, 5, 0, 0, [])), (78, (.istore 4, 80, false, false, 4, 0, 0, 0, 0, 0, [])), (80, (.iload_n 3, 81, false, false, 3, 0, 0, 0, 0, 0, [])), (81, (.ifCond .ne 13, 84, false, false, 94, 0, 0, 0, 0, 0, [])), (84, (.aload_n 0, 85, false, false, 0, 0, 0, 0, 0, 0, [])), (85, (.getfield 19, 88, false, false, 14, 1, 1, 0, 0, 0, [])), (88, (.iconst 3, 89, false, false, 0, 0, 0, 0, 3, 0, [])), (89, (.iload 4, 91, false, false, 4, 0, 0, 0, 0, 0, [])), (91, (.invokevirtual 105, 94, false, false, 98, 2, 0, 3, 0, 0, []))]),
  (121, [(94, (.aload_n 0, 95, false, false, 0, 0, 0, 0, 0, 0, [])), (95, (.getfield 19, 98, false, false, 14, 1, 1, 0, 0, 0, [])), (98, (.bipush 16, 100, false, false, 0, 0, 0, 0, 16, 0, [])), (100, (.iload 4, 102, false, false, 4, 0, 0, 0, 0, 0, [])), (102, (.invokevirtual 216, 105, false, false, 212, 2, 0, 3, 0, 0, [])), (105, (.aload_n 0, 106, false, false, 0, 0, 0, 0, 0, 0, [])), (106, (.getfield 19, 109, false, false, 14, 1, 1, 0, 0, 0, [])), (109, (.getfield 47, 112, false, false, 3, 1, 1, 0, 0, 0, [])), (112, (.bipush 11, 114, false, false, 0, 0, 0, 0, 11, 0, [])), (114, (.iload_n 1, 115, false, false, 1, 0, 0, 0, 0, 0, [])), (115, (.iconst 1, 116, false, false, 0, 0, 0, 0, 1, 0, [])), (116, (.invokevirtual 57, 119, false, false, 25, 3, 0, 5, 0, 0, [])), (119, (.iload 4, 121, false, false, 4, 0, 0, 0, 0, 0, [])), (121, (.ireturn, 122, false, false, 0, 0, 0, 0, 0, 0, []))])], 0, [])
set_option maxRecDepth 100000 in
theorem v_X11_sell : VE MYT dflT E_X11_sell := ⟨⟨⟨⟨⟨dX11_sell_0, rfl⟩, rfl⟩, ⟨⟨dX11_sell_1, rfl⟩, Or.inl ⟨rfl, _, my_20, sX11_40⟩⟩, ⟨⟨dX11_sell_4, rfl⟩, rfl⟩, ⟨⟨dX11_sell_5, rfl⟩, Or.inl ⟨by decide, _, _, fX11_19⟩⟩, ⟨⟨dX11_sell_8, rfl⟩, Or.inl ⟨by decide, _, _, fX11_47⟩⟩, ⟨⟨dX11_sell_11, rfl⟩, rfl⟩, ⟨⟨dX11_sell_12, rfl⟩, Or.inr ⟨by decide, ⟨_, my_24, sX11_51⟩, fun q => absurd q (by decide)⟩⟩, ⟨⟨dX11_sell_15, rfl⟩, rfl⟩, ⟨⟨dX11_sell_18, rfl⟩, rfl⟩, ⟨⟨dX11_sell_19, rfl⟩, Or.inl ⟨by decide, _, _, fX11_19⟩⟩, ⟨⟨dX11_sell_22, rfl⟩, Or.inl ⟨by decide, _, _, fX11_47⟩⟩, ⟨⟨dX11_sell_25, rfl⟩, rfl⟩, ⟨⟨dX11_sell_27, rfl⟩, rfl⟩, ⟨⟨dX11_sell_28, rfl⟩, Or.inr ⟨by decide, ⟨_, my_23, sX11_138⟩, fun q => absurd q (by decide)⟩⟩, ⟨⟨dX11_sell_31, rfl⟩, rfl⟩, ⟨⟨dX11_sell_32, rfl⟩, rfl⟩, ⟨⟨dX11_sell_35, rfl⟩, rfl⟩, ⟨⟨dX11_sell_36, rfl⟩, Or.inl ⟨rfl, rfl⟩⟩, ⟨⟨dX11_sell_37, rfl⟩, rfl⟩, ⟨⟨dX11_sell_38, rfl⟩, Or.inl ⟨by decide, _, _, fX11_19⟩⟩, ⟨⟨dX11_sell_41, rfl⟩, rfl⟩, ⟨⟨dX11_sell_43, rfl⟩, rfl⟩, ⟨⟨dX11_sell_44, rfl⟩, Or.inr ⟨by decide, ⟨_, my_286, sX11_195⟩, fun q => absurd q (by decide)⟩⟩, ⟨⟨dX11_sell_47, rfl⟩, rfl⟩, trivial⟩,
  ⟨⟨⟨dX11_sell_48, rfl⟩, rfl⟩, ⟨⟨dX11_sell_51, rfl⟩, rfl⟩, ⟨⟨dX11_sell_52, rfl⟩, rfl⟩, ⟨⟨dX11_sell_55, rfl⟩, rfl⟩, ⟨⟨dX11_sell_56, rfl⟩, rfl⟩, ⟨⟨dX11_sell_57, rfl⟩, rfl⟩, ⟨⟨dX11_sell_58, rfl⟩, rfl⟩, ⟨⟨dX11_sell_61, rfl⟩, rfl⟩, ⟨⟨dX11_sell_62, rfl⟩, rfl⟩, ⟨⟨dX11_sell_65, rfl⟩, rfl⟩, ⟨⟨dX11_sell_66, rfl⟩, Or.inl ⟨rfl, rfl⟩⟩, ⟨⟨dX11_sell_67, rfl⟩, rfl⟩, ⟨⟨dX11_sell_68, rfl⟩, Or.inl ⟨by decide, _, _, fX11_19⟩⟩, ⟨⟨dX11_sell_71, rfl⟩, Or.inl ⟨by decide, _, _, fX11_47⟩⟩, ⟨⟨dX11_sell_74, rfl⟩, rfl⟩, ⟨⟨dX11_sell_75, rfl⟩, Or.inr ⟨by decide, ⟨_, my_259, sX11_159⟩, fun q => absurd q (by decide)⟩⟩, ⟨⟨dX11_sell_78, rfl⟩, rfl⟩, ⟨⟨dX11_sell_80, rfl⟩, rfl⟩, ⟨⟨dX11_sell_81, rfl⟩, rfl⟩, ⟨⟨dX11_sell_84, rfl⟩, rfl⟩, ⟨⟨dX11_sell_85, rfl⟩, Or.inl ⟨by decide, _, _, fX11_19⟩⟩, ⟨⟨dX11_sell_88, rfl⟩, rfl⟩, ⟨⟨dX11_sell_89, rfl⟩, rfl⟩, ⟨⟨dX11_sell_91, rfl⟩, Or.inr ⟨by decide, ⟨_, my_98, sX11_105⟩, fun q => absurd q (by decide)⟩⟩, trivial⟩,
  ⟨⟨⟨dX11_sell_94, rfl⟩, rfl⟩, ⟨⟨dX11_sell_95, rfl⟩, Or.inl ⟨by decide, _, _, fX11_19⟩⟩, ⟨⟨dX11_sell_98, rfl⟩, rfl⟩, ⟨⟨dX11_sell_100, rfl⟩, rfl⟩, ⟨⟨dX11_sell_102, rfl⟩, Or.inr ⟨by decide, ⟨_, my_212, sX11_216⟩, fun q => absurd q (by decide)⟩⟩, ⟨⟨dX11_sell_105, rfl⟩, rfl⟩, ⟨⟨dX11_sell_106, rfl⟩, Or.inl ⟨by decide, _, _, fX11_19⟩⟩, ⟨⟨dX11_sell_109, rfl⟩, Or.inl ⟨by decide, _, _, fX11_47⟩⟩, ⟨⟨dX11_sell_112, rfl⟩, rfl⟩, ⟨⟨dX11_sell_114, rfl⟩, rfl⟩, ⟨⟨dX11_sell_115, rfl⟩, rfl⟩, ⟨⟨dX11_sell_116, rfl⟩, Or.inr ⟨by decide, ⟨_, my_25, sX11_57⟩, fun q => absurd q (by decide)⟩⟩, ⟨⟨dX11_sell_119, rfl⟩, rfl⟩, ⟨⟨dX11_sell_121, rfl⟩, Or.inl ⟨rfl, rfl⟩⟩, trivial⟩, trivial⟩, by decide, Or.inl ⟨rfl, by decide, rfl⟩⟩
set_option maxRecDepth 100000 in
theorem g_X11_sell_0 (S : sT) (call : cT) (n : Nat) (a0 : Nat) (x1 : Int32) (x2 : Int32) (h : pH) : bd S call dflT E_X11_sell (n + 1) 0 [some (.ref a0), some (.int x1), some (.int x2), none, none] [] h = (cU (call 20 [.int x1] h) (fun h1 => gV h1 (.ref a0) 14 1 (fun w2 => gV h1 w2 3 1 (fun w3 => rC h1 w3 5 (cI (call 24 [w3, .int x1] h1) (fun y5 h4 => (if y5 = 0 then gV h4 (.ref a0) 14 1 (fun w6 => gV h4 w6 3 1 (fun w7 => rC h4 w7 5 (cI (call 23 [w7, .int 10, .int x1] h4) (fun y9 h8 => (if y9 = (-1) then gV h8 (.ref a0) 14 1 (fun w10 => rC h8 w10 3 (cI (call 286 [w10, .int 20, .int x1] h8) (fun y12 h11 => (if y12 = (-1) then (if (0 : Int32) = 0 then (if x2 = 0 then some (.inl (some (.int (-1))), h11) else bd S call dflT E_X11_sell n 67 [some (.ref a0), some (.int x1), some (.int x2), some (.int 0), none] [] h11) else bd S call dflT E_X11_sell n 67 [some (.ref a0), some (.int x1), some (.int x2), some (.int 0), none] [] h11) else (if (1 : Int32) = 0 then (if x2 = 0 then some (.inl (some (.int (-1))), h11) else bd S call dflT E_X11_sell n 67 [some (.ref a0), some (.int x1), some (.int x2), some (.int 1), none] [] h11) else bd S call dflT E_X11_sell n 67 [some (.ref a0), some (.int x1), some (.int x2), some (.int 1), none] [] h11))))) else some (.inl (some (.int (-1))), h8)))))) else some (.inl (some (.int (-1))), h4)))))))) := rfl
set_option maxRecDepth 100000 in
theorem g_X11_sell_67 (S : sT) (call : cT) (n : Nat) (a0 : Nat) (x1 : Int32) (x2 : Int32) (x3 : Int32) (o4 : Option Value) (h : pH) : bd S call dflT E_X11_sell (n + 1) 67 [some (.ref a0), some (.int x1), some (.int x2), some (.int x3), o4] [] h = (gV h (.ref a0) 14 1 (fun w1 => gV h w1 3 1 (fun w2 => rC h w2 5 (cI (call 259 [w2, .int x1] h) (fun y4 h3 => (if x3 = 0 then gV h3 (.ref a0) 14 1 (fun w10 => rC h3 w10 3 (cU (call 98 [w10, .int 3, .int y4] h3) (fun h11 => gV h11 (.ref a0) 14 1 (fun w12 => rC h11 w12 3 (cU (call 212 [w12, .int 16, .int y4] h11) (fun h13 => gV h13 (.ref a0) 14 1 (fun w14 => gV h13 w14 3 1 (fun w15 => rC h13 w15 5 (cU (call 25 [w15, .int 11, .int x1, .int 1] h13) (fun h16 => some (.inl (some (.int y4)), h16))))))))))) else gV h3 (.ref a0) 14 1 (fun w5 => rC h3 w5 3 (cU (call 212 [w5, .int 16, .int y4] h3) (fun h6 => gV h6 (.ref a0) 14 1 (fun w7 => gV h6 w7 3 1 (fun w8 => rC h6 w8 5 (cU (call 25 [w8, .int 11, .int x1, .int 1] h6) (fun h9 => some (.inl (some (.int y4)), h9)))))))))))))) := rfl
theorem dX11_heir_0 : decode cX11_heir 0 = .ok (.aload_n 0, 1) := by decide +kernel
theorem dX11_heir_1 : decode cX11_heir 1 = .ok (.getfield 19, 3) := by decide +kernel
theorem dX11_heir_4 : decode cX11_heir 4 = .ok (.getfield 219, 3) := by decide +kernel
theorem dX11_heir_7 : decode cX11_heir 7 = .ok (.invokevirtual 244, 3) := by decide +kernel
theorem dX11_heir_10 : decode cX11_heir 10 = .ok (.ireturn, 1) := by decide +kernel
noncomputable def E_X11_heir : mE := (mX11_heir, [(10, [(0, (.aload_n 0, 1, false, false, 0, 0, 0, 0, 0, 0, [])), (1, (.getfield 19, 4, false, false, 14, 1, 1, 0, 0, 0, [])), (4, (.getfield 219, 7, false, false, 3, 4, 1, 0, 0, 0, [])), (7, (.invokevirtual 244, 10, false, false, 317, 0, 1, 6, 0, 0, [])), (10, (.ireturn, 11, false, false, 0, 0, 0, 0, 0, 0, []))])], 0, [])
set_option maxRecDepth 100000 in
theorem v_X11_heir : VE MYT dflT E_X11_heir := ⟨⟨⟨⟨⟨dX11_heir_0, rfl⟩, rfl⟩, ⟨⟨dX11_heir_1, rfl⟩, Or.inl ⟨by decide, _, _, fX11_19⟩⟩, ⟨⟨dX11_heir_4, rfl⟩, Or.inl ⟨by decide, _, _, fX11_219⟩⟩, ⟨⟨dX11_heir_7, rfl⟩, Or.inr ⟨by decide, ⟨_, my_317, sX11_244⟩, fun q => absurd q (by decide)⟩⟩, ⟨⟨dX11_heir_10, rfl⟩, Or.inl ⟨rfl, rfl⟩⟩, trivial⟩, trivial⟩, by decide, Or.inl ⟨rfl, by decide, rfl⟩⟩
set_option maxRecDepth 100000 in
theorem g_X11_heir_0 (S : sT) (call : cT) (n : Nat) (a0 : Nat) (h : pH) : bd S call dflT E_X11_heir (n + 1) 0 [some (.ref a0)] [] h = (gV h (.ref a0) 14 1 (fun w1 => gV h w1 3 4 (fun w2 => rC h w2 6 (cI (call 317 [w2] h) (fun y4 h3 => some (.inl (some (.int y4)), h3)))))) := rfl
theorem dX11_wrong_0 : decode cX11_wrong 0 = .ok (.iload_n 1, 1) := by decide +kernel
theorem dX11_wrong_1 : decode cX11_wrong 1 = .ok (.ifCond .lt 26, 3) := by decide +kernel
theorem dX11_wrong_4 : decode cX11_wrong 4 = .ok (.iload_n 1, 1) := by decide +kernel
theorem dX11_wrong_5 : decode cX11_wrong 5 = .ok (.aload_n 0, 1) := by decide +kernel
theorem dX11_wrong_6 : decode cX11_wrong 6 = .ok (.getfield 19, 3) := by decide +kernel
theorem dX11_wrong_9 : decode cX11_wrong 9 = .ok (.getfield 219, 3) := by decide +kernel
theorem dX11_wrong_12 : decode cX11_wrong 12 = .ok (.getfield 247, 3) := by decide +kernel
theorem dX11_wrong_15 : decode cX11_wrong 15 = .ok (.bipush 60, 2) := by decide +kernel
theorem dX11_wrong_17 : decode cX11_wrong 17 = .ok (.invokestatic 250, 3) := by decide +kernel
theorem dX11_wrong_20 : decode cX11_wrong 20 = .ok (.if_icmp .ge 7, 3) := by decide +kernel
theorem dX11_wrong_23 : decode cX11_wrong 23 = .ok (.iconst 1, 1) := by decide +kernel
theorem dX11_wrong_24 : decode cX11_wrong 24 = .ok (.goto 4, 3) := by decide +kernel
theorem dX11_wrong_27 : decode cX11_wrong 27 = .ok (.iconst 0, 1) := by decide +kernel
theorem dX11_wrong_28 : decode cX11_wrong 28 = .ok (.invokestatic 156, 3) := by decide +kernel
theorem dX11_wrong_31 : decode cX11_wrong 31 = .ok (.iload_n 2, 1) := by decide +kernel
theorem dX11_wrong_32 : decode cX11_wrong 32 = .ok (.ifCond .lt 12, 3) := by decide +kernel
theorem dX11_wrong_35 : decode cX11_wrong 35 = .ok (.iload_n 2, 1) := by decide +kernel
theorem dX11_wrong_36 : decode cX11_wrong 36 = .ok (.iconst 3, 1) := by decide +kernel
theorem dX11_wrong_37 : decode cX11_wrong 37 = .ok (.if_icmp .gt 7, 3) := by decide +kernel
theorem dX11_wrong_40 : decode cX11_wrong 40 = .ok (.iconst 1, 1) := by decide +kernel
theorem dX11_wrong_41 : decode cX11_wrong 41 = .ok (.goto 4, 3) := by decide +kernel
theorem dX11_wrong_44 : decode cX11_wrong 44 = .ok (.iconst 0, 1) := by decide +kernel
theorem dX11_wrong_45 : decode cX11_wrong 45 = .ok (.invokestatic 156, 3) := by decide +kernel
theorem dX11_wrong_48 : decode cX11_wrong 48 = .ok (.aload_n 0, 1) := by decide +kernel
theorem dX11_wrong_49 : decode cX11_wrong 49 = .ok (.getfield 19, 3) := by decide +kernel
theorem dX11_wrong_52 : decode cX11_wrong 52 = .ok (.getfield 219, 3) := by decide +kernel
theorem dX11_wrong_55 : decode cX11_wrong 55 = .ok (.iload_n 1, 1) := by decide +kernel
theorem dX11_wrong_56 : decode cX11_wrong 56 = .ok (.iload_n 2, 1) := by decide +kernel
theorem dX11_wrong_57 : decode cX11_wrong 57 = .ok (.invokevirtual 255, 3) := by decide +kernel
theorem dX11_wrong_60 : decode cX11_wrong 60 = .ok (.ireturn, 1) := by decide +kernel
noncomputable def E_X11_wrong : mE := (mX11_wrong, [(48, [(0, (.iload_n 1, 1, false, false, 1, 0, 0, 0, 0, 0, [])), (1, (.ifCond .lt 26, 4, false, false, 27, 0, 0, 0, 0, 0, [])), (4, (.iload_n 1, 5, false, false, 1, 0, 0, 0, 0, 0, [])), (5, (.aload_n 0, 6, false, false, 0, 0, 0, 0, 0, 0, [])), (6, (.getfield 19, 9, false, false, 14, 1, 1, 0, 0, 0, [])), (9, (.getfield 219, 12, false, false, 3, 4, 1, 0, 0, 0, [])), (12, (.getfield 247, 15, false, false, 6, 6, 0, 0, 0, 0, [])), (15, (.bipush 60, 17, false, false, 0, 0, 0, 0, 60, 0, [])), (17, (.invokestatic 250, 20, false, false, 0, 2, 1, 6, 0, 0, [])), (20, (.if_icmp .ge 7, 23, false, false, 27, 0, 0, 0, 0, 0, [])), (23, (.iconst 1, 24, false, false, 0, 0, 0, 0, 1, 0, [])), (24, (.goto 4, 27, false, true, 28, 0, 0, 0, 0, 0, [])), (27, (.iconst 0, 28, true, false, 0, 0, 0, 0, 0, 0, [])), (28, (.invokestatic 156, 31, false, false, 257, 1, 0, 0, 0, 0, [])), (31, (.iload_n 2, 32, false, false, 2, 0, 0, 0, 0, 0, [])), (32, (.ifCond .lt 12, 35, false, false, 44, 0, 0, 0, 0, 0, [])), (35, (.iload_n 2, 36, false, false, 2, 0, 0, 0, 0, 0, [])), (36, (.iconst 3, 37, false, false, 0, 0, 0, 0, 3, 0, [])), (37, (.if_icmp .gt 7, 40, false, false, 44, 0, 0, 0, 0, 0, [])), (40, (.iconst 1, 41, false, false, 0, 0, 0, 0, 1, 0, [])), (41, (.goto 4, 44, false, false, 45, 0, 0, 0, 0, 0, [])), (44, (.iconst 0, 45, false, false, 0, 0, 0, 0, 0, 0, [])), (45, (.invokestatic 156, 48, false, false, 257, 1, 0, 0, 0, 0, [])), (48, (.aload_n 0, 49, false, false, 0, 0, 0, 0, 0, 0, []))]),
  (60, [(49, (.getfield 19, 52, false, false, 14, 1, 1, 0, 0, 0, [])), (52, (.getfield 219, 55, false, false, 3, 4, 1, 0, 0, 0, [])), (55, (.iload_n 1, 56, false, false, 1, 0, 0, 0, 0, 0, [])), (56, (.iload_n 2, 57, false, false, 2, 0, 0, 0, 0, 0, [])), (57, (.invokevirtual 255, 60, false, false, 320, 2, 1, 6, 0, 0, [])), (60, (.ireturn, 61, false, false, 0, 0, 0, 0, 0, 0, []))])], 0, [])
set_option maxRecDepth 100000 in
theorem v_X11_wrong : VE MYT dflT E_X11_wrong := ⟨⟨⟨⟨⟨dX11_wrong_0, rfl⟩, rfl⟩, ⟨⟨dX11_wrong_1, rfl⟩, rfl⟩, ⟨⟨dX11_wrong_4, rfl⟩, rfl⟩, ⟨⟨dX11_wrong_5, rfl⟩, rfl⟩, ⟨⟨dX11_wrong_6, rfl⟩, Or.inl ⟨by decide, _, _, fX11_19⟩⟩, ⟨⟨dX11_wrong_9, rfl⟩, Or.inl ⟨by decide, _, _, fX11_219⟩⟩, ⟨⟨dX11_wrong_12, rfl⟩, Or.inl ⟨by decide, _, _, fX11_247⟩⟩, ⟨⟨dX11_wrong_15, rfl⟩, rfl⟩, ⟨⟨dX11_wrong_17, rfl⟩, Or.inr (Or.inr (Or.inr (Or.inr (Or.inr (Or.inl ⟨rfl, sX11_250⟩)))))⟩, ⟨⟨dX11_wrong_20, rfl⟩, rfl⟩, ⟨⟨dX11_wrong_23, rfl⟩, rfl⟩, ⟨⟨dX11_wrong_24, rfl⟩, rfl⟩, ⟨⟨dX11_wrong_27, rfl⟩, rfl⟩, ⟨⟨dX11_wrong_28, rfl⟩, Or.inl ⟨rfl, _, my_257, sX11_156⟩⟩, ⟨⟨dX11_wrong_31, rfl⟩, rfl⟩, ⟨⟨dX11_wrong_32, rfl⟩, rfl⟩, ⟨⟨dX11_wrong_35, rfl⟩, rfl⟩, ⟨⟨dX11_wrong_36, rfl⟩, rfl⟩, ⟨⟨dX11_wrong_37, rfl⟩, rfl⟩, ⟨⟨dX11_wrong_40, rfl⟩, rfl⟩, ⟨⟨dX11_wrong_41, rfl⟩, rfl⟩, ⟨⟨dX11_wrong_44, rfl⟩, rfl⟩, ⟨⟨dX11_wrong_45, rfl⟩, Or.inl ⟨rfl, _, my_257, sX11_156⟩⟩, ⟨⟨dX11_wrong_48, rfl⟩, rfl⟩, trivial⟩,
  ⟨⟨⟨dX11_wrong_49, rfl⟩, Or.inl ⟨by decide, _, _, fX11_19⟩⟩, ⟨⟨dX11_wrong_52, rfl⟩, Or.inl ⟨by decide, _, _, fX11_219⟩⟩, ⟨⟨dX11_wrong_55, rfl⟩, rfl⟩, ⟨⟨dX11_wrong_56, rfl⟩, rfl⟩, ⟨⟨dX11_wrong_57, rfl⟩, Or.inr ⟨by decide, ⟨_, my_320, sX11_255⟩, fun q => absurd q (by decide)⟩⟩, ⟨⟨dX11_wrong_60, rfl⟩, Or.inl ⟨rfl, rfl⟩⟩, trivial⟩, trivial⟩, by decide, Or.inl ⟨rfl, by decide, rfl⟩⟩
set_option maxRecDepth 100000 in
theorem g_X11_wrong_0 (S : sT) (call : cT) (n : Nat) (a0 : Nat) (x1 : Int32) (x2 : Int32) (h : pH) : bd S call dflT E_X11_wrong (n + 1) 0 [some (.ref a0), some (.int x1), some (.int x2)] [] h = ((if x1 < 0 then bd S call dflT E_X11_wrong n 28 [some (.ref a0), some (.int x1), some (.int x2)] [.int 0] h else gV h (.ref a0) 14 1 (fun w1 => gV h w1 3 4 (fun w2 => gI h w2 6 6 (fun y3 => (if (if (60 : Int32) < y3 then (60 : Int32) else y3) ≤ x1 then bd S call dflT E_X11_wrong n 28 [some (.ref a0), some (.int x1), some (.int x2)] [.int 0] h else bd S call dflT E_X11_wrong n 28 [some (.ref a0), some (.int x1), some (.int x2)] [.int 1] h)))))) := rfl
set_option maxRecDepth 100000 in
theorem g_X11_wrong_28 (S : sT) (call : cT) (n : Nat) (a0 : Nat) (x1 : Int32) (x2 : Int32) (y0 : Int32) (h : pH) : bd S call dflT E_X11_wrong (n + 1) 28 [some (.ref a0), some (.int x1), some (.int x2)] [.int y0] h = (cU (call 257 [.int y0] h) (fun h1 => (if x2 < 0 then cU (call 257 [.int 0] h1) (fun h2 => gV h2 (.ref a0) 14 1 (fun w3 => gV h2 w3 3 4 (fun w4 => rC h2 w4 6 (cI (call 320 [w4, .int x1, .int x2] h2) (fun y6 h5 => some (.inl (some (.int y6)), h5)))))) else (if 3 < x2 then cU (call 257 [.int 0] h1) (fun h7 => gV h7 (.ref a0) 14 1 (fun w8 => gV h7 w8 3 4 (fun w9 => rC h7 w9 6 (cI (call 320 [w9, .int x1, .int x2] h7) (fun y11 h10 => some (.inl (some (.int y11)), h10)))))) else cU (call 257 [.int 1] h1) (fun h12 => gV h12 (.ref a0) 14 1 (fun w13 => gV h12 w13 3 4 (fun w14 => rC h12 w14 6 (cI (call 320 [w14, .int x1, .int x2] h12) (fun y16 h15 => some (.inl (some (.int y16)), h15)))))))))) := rfl
theorem dX11_job_0 : decode cX11_job 0 = .ok (.iload_n 1, 1) := by decide +kernel
theorem dX11_job_1 : decode cX11_job 1 = .ok (.iconst 0, 1) := by decide +kernel
theorem dX11_job_2 : decode cX11_job 2 = .ok (.ldc 88, 2) := by decide +kernel
theorem dX11_job_4 : decode cX11_job 4 = .ok (.invokestatic 43, 3) := by decide +kernel
theorem dX11_job_7 : decode cX11_job 7 = .ok (.iload_n 2, 1) := by decide +kernel
theorem dX11_job_8 : decode cX11_job 8 = .ok (.iconst 0, 1) := by decide +kernel
theorem dX11_job_9 : decode cX11_job 9 = .ok (.sipush 10000, 3) := by decide +kernel
theorem dX11_job_12 : decode cX11_job 12 = .ok (.invokestatic 43, 3) := by decide +kernel
theorem dX11_job_15 : decode cX11_job 15 = .ok (.iload_n 3, 1) := by decide +kernel
theorem dX11_job_16 : decode cX11_job 16 = .ok (.iconst 0, 1) := by decide +kernel
theorem dX11_job_17 : decode cX11_job 17 = .ok (.bipush 29, 2) := by decide +kernel
theorem dX11_job_19 : decode cX11_job 19 = .ok (.invokestatic 43, 3) := by decide +kernel
theorem dX11_job_22 : decode cX11_job 22 = .ok (.aload_n 0, 1) := by decide +kernel
theorem dX11_job_23 : decode cX11_job 23 = .ok (.getfield 19, 3) := by decide +kernel
theorem dX11_job_26 : decode cX11_job 26 = .ok (.getfield 258, 3) := by decide +kernel
theorem dX11_job_29 : decode cX11_job 29 = .ok (.iload_n 1, 1) := by decide +kernel
theorem dX11_job_30 : decode cX11_job 30 = .ok (.iload_n 2, 1) := by decide +kernel
theorem dX11_job_31 : decode cX11_job 31 = .ok (.iload_n 3, 1) := by decide +kernel
theorem dX11_job_32 : decode cX11_job 32 = .ok (.invokevirtual 262, 3) := by decide +kernel
theorem dX11_job_35 : decode cX11_job 35 = .ok (.ireturn, 1) := by decide +kernel
noncomputable def E_X11_job : mE := (mX11_job, [(35, [(0, (.iload_n 1, 1, false, false, 1, 0, 0, 0, 0, 0, [])), (1, (.iconst 0, 2, false, false, 0, 0, 0, 0, 0, 0, [])), (2, (.ldc 88, 4, false, false, 0, 0, 0, 0, 100000, 0, [])), (4, (.invokestatic 43, 7, false, false, 21, 3, 0, 0, 0, 0, [])), (7, (.iload_n 2, 8, false, false, 2, 0, 0, 0, 0, 0, [])), (8, (.iconst 0, 9, false, false, 0, 0, 0, 0, 0, 0, [])), (9, (.sipush 10000, 12, false, false, 0, 0, 0, 0, 10000, 0, [])), (12, (.invokestatic 43, 15, false, false, 21, 3, 0, 0, 0, 0, [])), (15, (.iload_n 3, 16, false, false, 3, 0, 0, 0, 0, 0, [])), (16, (.iconst 0, 17, false, false, 0, 0, 0, 0, 0, 0, [])), (17, (.bipush 29, 19, false, false, 0, 0, 0, 0, 29, 0, [])), (19, (.invokestatic 43, 22, false, false, 21, 3, 0, 0, 0, 0, [])), (22, (.aload_n 0, 23, false, false, 0, 0, 0, 0, 0, 0, [])), (23, (.getfield 19, 26, false, false, 14, 1, 1, 0, 0, 0, [])), (26, (.getfield 258, 29, false, false, 3, 5, 1, 0, 0, 0, [])), (29, (.iload_n 1, 30, false, false, 1, 0, 0, 0, 0, 0, [])), (30, (.iload_n 2, 31, false, false, 2, 0, 0, 0, 0, 0, [])), (31, (.iload_n 3, 32, false, false, 3, 0, 0, 0, 0, 0, [])), (32, (.invokevirtual 262, 35, false, false, 324, 3, 1, 8, 0, 0, [])), (35, (.ireturn, 36, false, false, 0, 0, 0, 0, 0, 0, []))])], 0, [])
set_option maxRecDepth 100000 in
theorem v_X11_job : VE MYT dflT E_X11_job := ⟨⟨⟨⟨⟨dX11_job_0, rfl⟩, rfl⟩, ⟨⟨dX11_job_1, rfl⟩, rfl⟩, ⟨⟨dX11_job_2, rfl⟩, Or.inl ⟨rfl, kX11_88⟩⟩, ⟨⟨dX11_job_4, rfl⟩, Or.inl ⟨rfl, _, my_21, sX11_43⟩⟩, ⟨⟨dX11_job_7, rfl⟩, rfl⟩, ⟨⟨dX11_job_8, rfl⟩, rfl⟩, ⟨⟨dX11_job_9, rfl⟩, rfl⟩, ⟨⟨dX11_job_12, rfl⟩, Or.inl ⟨rfl, _, my_21, sX11_43⟩⟩, ⟨⟨dX11_job_15, rfl⟩, rfl⟩, ⟨⟨dX11_job_16, rfl⟩, rfl⟩, ⟨⟨dX11_job_17, rfl⟩, rfl⟩, ⟨⟨dX11_job_19, rfl⟩, Or.inl ⟨rfl, _, my_21, sX11_43⟩⟩, ⟨⟨dX11_job_22, rfl⟩, rfl⟩, ⟨⟨dX11_job_23, rfl⟩, Or.inl ⟨by decide, _, _, fX11_19⟩⟩, ⟨⟨dX11_job_26, rfl⟩, Or.inl ⟨by decide, _, _, fX11_258⟩⟩, ⟨⟨dX11_job_29, rfl⟩, rfl⟩, ⟨⟨dX11_job_30, rfl⟩, rfl⟩, ⟨⟨dX11_job_31, rfl⟩, rfl⟩, ⟨⟨dX11_job_32, rfl⟩, Or.inr ⟨by decide, ⟨_, my_324, sX11_262⟩, fun q => absurd q (by decide)⟩⟩, ⟨⟨dX11_job_35, rfl⟩, Or.inl ⟨rfl, rfl⟩⟩, trivial⟩, trivial⟩, by decide, Or.inl ⟨rfl, by decide, rfl⟩⟩
set_option maxRecDepth 100000 in
theorem g_X11_job_0 (S : sT) (call : cT) (n : Nat) (a0 : Nat) (x1 : Int32) (x2 : Int32) (x3 : Int32) (h : pH) : bd S call dflT E_X11_job (n + 1) 0 [some (.ref a0), some (.int x1), some (.int x2), some (.int x3)] [] h = (cU (call 21 [.int x1, .int 0, .int 100000] h) (fun h1 => cU (call 21 [.int x2, .int 0, .int 10000] h1) (fun h2 => cU (call 21 [.int x3, .int 0, .int 29] h2) (fun h3 => gV h3 (.ref a0) 14 1 (fun w4 => gV h3 w4 3 5 (fun w5 => rC h3 w5 8 (cI (call 324 [w5, .int x1, .int x2, .int x3] h3) (fun y7 h6 => some (.inl (some (.int y7)), h6))))))))) := rfl
theorem dX11_trouble_0 : decode cX11_trouble 0 = .ok (.iload_n 1, 1) := by decide +kernel
theorem dX11_trouble_1 : decode cX11_trouble 1 = .ok (.ldc_w 267, 3) := by decide +kernel
theorem dX11_trouble_4 : decode cX11_trouble 4 = .ok (.ldc 88, 2) := by decide +kernel
theorem dX11_trouble_6 : decode cX11_trouble 6 = .ok (.invokestatic 43, 3) := by decide +kernel
theorem dX11_trouble_9 : decode cX11_trouble 9 = .ok (.iload_n 2, 1) := by decide +kernel
theorem dX11_trouble_10 : decode cX11_trouble 10 = .ok (.sipush (-1000), 3) := by decide +kernel
theorem dX11_trouble_13 : decode cX11_trouble 13 = .ok (.sipush 1000, 3) := by decide +kernel
theorem dX11_trouble_16 : decode cX11_trouble 16 = .ok (.invokestatic 43, 3) := by decide +kernel
theorem dX11_trouble_19 : decode cX11_trouble 19 = .ok (.aload_n 0, 1) := by decide +kernel
theorem dX11_trouble_20 : decode cX11_trouble 20 = .ok (.getfield 19, 3) := by decide +kernel
theorem dX11_trouble_23 : decode cX11_trouble 23 = .ok (.getfield 258, 3) := by decide +kernel
theorem dX11_trouble_26 : decode cX11_trouble 26 = .ok (.iload_n 1, 1) := by decide +kernel
theorem dX11_trouble_27 : decode cX11_trouble 27 = .ok (.iload_n 2, 1) := by decide +kernel
theorem dX11_trouble_28 : decode cX11_trouble 28 = .ok (.invokevirtual 268, 3) := by decide +kernel
theorem dX11_trouble_31 : decode cX11_trouble 31 = .ok (.ireturn, 1) := by decide +kernel
noncomputable def E_X11_trouble : mE := (mX11_trouble, [(31, [(0, (.iload_n 1, 1, false, false, 1, 0, 0, 0, 0, 0, [])), (1, (.ldc_w 267, 4, false, false, 0, 0, 0, 0, -100000, 0, [])), (4, (.ldc 88, 6, false, false, 0, 0, 0, 0, 100000, 0, [])), (6, (.invokestatic 43, 9, false, false, 21, 3, 0, 0, 0, 0, [])), (9, (.iload_n 2, 10, false, false, 2, 0, 0, 0, 0, 0, [])), (10, (.sipush (-1000), 13, false, false, 0, 0, 0, 0, -1000, 0, [])), (13, (.sipush 1000, 16, false, false, 0, 0, 0, 0, 1000, 0, [])), (16, (.invokestatic 43, 19, false, false, 21, 3, 0, 0, 0, 0, [])), (19, (.aload_n 0, 20, false, false, 0, 0, 0, 0, 0, 0, [])), (20, (.getfield 19, 23, false, false, 14, 1, 1, 0, 0, 0, [])), (23, (.getfield 258, 26, false, false, 3, 5, 1, 0, 0, 0, [])), (26, (.iload_n 1, 27, false, false, 1, 0, 0, 0, 0, 0, [])), (27, (.iload_n 2, 28, false, false, 2, 0, 0, 0, 0, 0, [])), (28, (.invokevirtual 268, 31, false, false, 328, 2, 1, 8, 0, 0, [])), (31, (.ireturn, 32, false, false, 0, 0, 0, 0, 0, 0, []))])], 0, [])
set_option maxRecDepth 100000 in
theorem v_X11_trouble : VE MYT dflT E_X11_trouble := ⟨⟨⟨⟨⟨dX11_trouble_0, rfl⟩, rfl⟩, ⟨⟨dX11_trouble_1, rfl⟩, Or.inl ⟨rfl, kX11_267⟩⟩, ⟨⟨dX11_trouble_4, rfl⟩, Or.inl ⟨rfl, kX11_88⟩⟩, ⟨⟨dX11_trouble_6, rfl⟩, Or.inl ⟨rfl, _, my_21, sX11_43⟩⟩, ⟨⟨dX11_trouble_9, rfl⟩, rfl⟩, ⟨⟨dX11_trouble_10, rfl⟩, rfl⟩, ⟨⟨dX11_trouble_13, rfl⟩, rfl⟩, ⟨⟨dX11_trouble_16, rfl⟩, Or.inl ⟨rfl, _, my_21, sX11_43⟩⟩, ⟨⟨dX11_trouble_19, rfl⟩, rfl⟩, ⟨⟨dX11_trouble_20, rfl⟩, Or.inl ⟨by decide, _, _, fX11_19⟩⟩, ⟨⟨dX11_trouble_23, rfl⟩, Or.inl ⟨by decide, _, _, fX11_258⟩⟩, ⟨⟨dX11_trouble_26, rfl⟩, rfl⟩, ⟨⟨dX11_trouble_27, rfl⟩, rfl⟩, ⟨⟨dX11_trouble_28, rfl⟩, Or.inr ⟨by decide, ⟨_, my_328, sX11_268⟩, fun q => absurd q (by decide)⟩⟩, ⟨⟨dX11_trouble_31, rfl⟩, Or.inl ⟨rfl, rfl⟩⟩, trivial⟩, trivial⟩, by decide, Or.inl ⟨rfl, by decide, rfl⟩⟩
set_option maxRecDepth 100000 in
theorem g_X11_trouble_0 (S : sT) (call : cT) (n : Nat) (a0 : Nat) (x1 : Int32) (x2 : Int32) (h : pH) : bd S call dflT E_X11_trouble (n + 1) 0 [some (.ref a0), some (.int x1), some (.int x2)] [] h = (cU (call 21 [.int x1, .int (-100000), .int 100000] h) (fun h1 => cU (call 21 [.int x2, .int (-1000), .int 1000] h1) (fun h2 => gV h2 (.ref a0) 14 1 (fun w3 => gV h2 w3 3 5 (fun w4 => rC h2 w4 8 (cI (call 328 [w4, .int x1, .int x2] h2) (fun y6 h5 => some (.inl (some (.int y6)), h5)))))))) := rfl
theorem dX11_worth_0 : decode cX11_worth 0 = .ok (.iload_n 1, 1) := by decide +kernel
theorem dX11_worth_1 : decode cX11_worth 1 = .ok (.iconst 0, 1) := by decide +kernel
theorem dX11_worth_2 : decode cX11_worth 2 = .ok (.ldc_w 271, 3) := by decide +kernel
theorem dX11_worth_5 : decode cX11_worth 5 = .ok (.invokestatic 43, 3) := by decide +kernel
theorem dX11_worth_8 : decode cX11_worth 8 = .ok (.iload_n 2, 1) := by decide +kernel
theorem dX11_worth_9 : decode cX11_worth 9 = .ok (.iconst 0, 1) := by decide +kernel
theorem dX11_worth_10 : decode cX11_worth 10 = .ok (.ldc 88, 2) := by decide +kernel
theorem dX11_worth_12 : decode cX11_worth 12 = .ok (.invokestatic 43, 3) := by decide +kernel
theorem dX11_worth_15 : decode cX11_worth 15 = .ok (.aload_n 0, 1) := by decide +kernel
theorem dX11_worth_16 : decode cX11_worth 16 = .ok (.getfield 19, 3) := by decide +kernel
theorem dX11_worth_19 : decode cX11_worth 19 = .ok (.getfield 258, 3) := by decide +kernel
theorem dX11_worth_22 : decode cX11_worth 22 = .ok (.iload_n 1, 1) := by decide +kernel
theorem dX11_worth_23 : decode cX11_worth 23 = .ok (.iload_n 2, 1) := by decide +kernel
theorem dX11_worth_24 : decode cX11_worth 24 = .ok (.iload_n 3, 1) := by decide +kernel
theorem dX11_worth_25 : decode cX11_worth 25 = .ok (.invokevirtual 272, 3) := by decide +kernel
theorem dX11_worth_28 : decode cX11_worth 28 = .ok (.ireturn, 1) := by decide +kernel
noncomputable def E_X11_worth : mE := (mX11_worth, [(28, [(0, (.iload_n 1, 1, false, false, 1, 0, 0, 0, 0, 0, [])), (1, (.iconst 0, 2, false, false, 0, 0, 0, 0, 0, 0, [])), (2, (.ldc_w 271, 5, false, false, 0, 0, 0, 0, 1000000, 0, [])), (5, (.invokestatic 43, 8, false, false, 21, 3, 0, 0, 0, 0, [])), (8, (.iload_n 2, 9, false, false, 2, 0, 0, 0, 0, 0, [])), (9, (.iconst 0, 10, false, false, 0, 0, 0, 0, 0, 0, [])), (10, (.ldc 88, 12, false, false, 0, 0, 0, 0, 100000, 0, [])), (12, (.invokestatic 43, 15, false, false, 21, 3, 0, 0, 0, 0, [])), (15, (.aload_n 0, 16, false, false, 0, 0, 0, 0, 0, 0, [])), (16, (.getfield 19, 19, false, false, 14, 1, 1, 0, 0, 0, [])), (19, (.getfield 258, 22, false, false, 3, 5, 1, 0, 0, 0, [])), (22, (.iload_n 1, 23, false, false, 1, 0, 0, 0, 0, 0, [])), (23, (.iload_n 2, 24, false, false, 2, 0, 0, 0, 0, 0, [])), (24, (.iload_n 3, 25, false, false, 3, 0, 0, 0, 0, 0, [])), (25, (.invokevirtual 272, 28, false, false, 334, 3, 1, 8, 0, 0, [])), (28, (.ireturn, 29, false, false, 0, 0, 0, 0, 0, 0, []))])], 0, [])
set_option maxRecDepth 100000 in
theorem v_X11_worth : VE MYT dflT E_X11_worth := ⟨⟨⟨⟨⟨dX11_worth_0, rfl⟩, rfl⟩, ⟨⟨dX11_worth_1, rfl⟩, rfl⟩, ⟨⟨dX11_worth_2, rfl⟩, Or.inl ⟨rfl, kX11_271⟩⟩, ⟨⟨dX11_worth_5, rfl⟩, Or.inl ⟨rfl, _, my_21, sX11_43⟩⟩, ⟨⟨dX11_worth_8, rfl⟩, rfl⟩, ⟨⟨dX11_worth_9, rfl⟩, rfl⟩, ⟨⟨dX11_worth_10, rfl⟩, Or.inl ⟨rfl, kX11_88⟩⟩, ⟨⟨dX11_worth_12, rfl⟩, Or.inl ⟨rfl, _, my_21, sX11_43⟩⟩, ⟨⟨dX11_worth_15, rfl⟩, rfl⟩, ⟨⟨dX11_worth_16, rfl⟩, Or.inl ⟨by decide, _, _, fX11_19⟩⟩, ⟨⟨dX11_worth_19, rfl⟩, Or.inl ⟨by decide, _, _, fX11_258⟩⟩, ⟨⟨dX11_worth_22, rfl⟩, rfl⟩, ⟨⟨dX11_worth_23, rfl⟩, rfl⟩, ⟨⟨dX11_worth_24, rfl⟩, rfl⟩, ⟨⟨dX11_worth_25, rfl⟩, Or.inr ⟨by decide, ⟨_, my_334, sX11_272⟩, fun q => absurd q (by decide)⟩⟩, ⟨⟨dX11_worth_28, rfl⟩, Or.inl ⟨rfl, rfl⟩⟩, trivial⟩, trivial⟩, by decide, Or.inl ⟨rfl, by decide, rfl⟩⟩
set_option maxRecDepth 100000 in
theorem g_X11_worth_0 (S : sT) (call : cT) (n : Nat) (a0 : Nat) (x1 : Int32) (x2 : Int32) (x3 : Int32) (h : pH) : bd S call dflT E_X11_worth (n + 1) 0 [some (.ref a0), some (.int x1), some (.int x2), some (.int x3)] [] h = (cU (call 21 [.int x1, .int 0, .int 1000000] h) (fun h1 => cU (call 21 [.int x2, .int 0, .int 100000] h1) (fun h2 => gV h2 (.ref a0) 14 1 (fun w3 => gV h2 w3 3 5 (fun w4 => rC h2 w4 8 (cI (call 334 [w4, .int x1, .int x2, .int x3] h2) (fun y6 h5 => some (.inl (some (.int y6)), h5)))))))) := rfl
theorem dX11_best_0 : decode cX11_best 0 = .ok (.iload_n 1, 1) := by decide +kernel
theorem dX11_best_1 : decode cX11_best 1 = .ok (.iconst 0, 1) := by decide +kernel
theorem dX11_best_2 : decode cX11_best 2 = .ok (.ldc_w 271, 3) := by decide +kernel
theorem dX11_best_5 : decode cX11_best 5 = .ok (.invokestatic 43, 3) := by decide +kernel
theorem dX11_best_8 : decode cX11_best 8 = .ok (.iload_n 2, 1) := by decide +kernel
theorem dX11_best_9 : decode cX11_best 9 = .ok (.iconst 0, 1) := by decide +kernel
theorem dX11_best_10 : decode cX11_best 10 = .ok (.ldc 88, 2) := by decide +kernel
theorem dX11_best_12 : decode cX11_best 12 = .ok (.invokestatic 43, 3) := by decide +kernel
theorem dX11_best_15 : decode cX11_best 15 = .ok (.aload_n 0, 1) := by decide +kernel
theorem dX11_best_16 : decode cX11_best 16 = .ok (.getfield 19, 3) := by decide +kernel
theorem dX11_best_19 : decode cX11_best 19 = .ok (.getfield 258, 3) := by decide +kernel
theorem dX11_best_22 : decode cX11_best 22 = .ok (.iload_n 1, 1) := by decide +kernel
theorem dX11_best_23 : decode cX11_best 23 = .ok (.iload_n 2, 1) := by decide +kernel
theorem dX11_best_24 : decode cX11_best 24 = .ok (.invokevirtual 275, 3) := by decide +kernel
theorem dX11_best_27 : decode cX11_best 27 = .ok (.ireturn, 1) := by decide +kernel
noncomputable def E_X11_best : mE := (mX11_best, [(27, [(0, (.iload_n 1, 1, false, false, 1, 0, 0, 0, 0, 0, [])), (1, (.iconst 0, 2, false, false, 0, 0, 0, 0, 0, 0, [])), (2, (.ldc_w 271, 5, false, false, 0, 0, 0, 0, 1000000, 0, [])), (5, (.invokestatic 43, 8, false, false, 21, 3, 0, 0, 0, 0, [])), (8, (.iload_n 2, 9, false, false, 2, 0, 0, 0, 0, 0, [])), (9, (.iconst 0, 10, false, false, 0, 0, 0, 0, 0, 0, [])), (10, (.ldc 88, 12, false, false, 0, 0, 0, 0, 100000, 0, [])), (12, (.invokestatic 43, 15, false, false, 21, 3, 0, 0, 0, 0, [])), (15, (.aload_n 0, 16, false, false, 0, 0, 0, 0, 0, 0, [])), (16, (.getfield 19, 19, false, false, 14, 1, 1, 0, 0, 0, [])), (19, (.getfield 258, 22, false, false, 3, 5, 1, 0, 0, 0, [])), (22, (.iload_n 1, 23, false, false, 1, 0, 0, 0, 0, 0, [])), (23, (.iload_n 2, 24, false, false, 2, 0, 0, 0, 0, 0, [])), (24, (.invokevirtual 275, 27, false, false, 342, 2, 1, 8, 0, 0, [])), (27, (.ireturn, 28, false, false, 0, 0, 0, 0, 0, 0, []))])], 0, [])
set_option maxRecDepth 100000 in
theorem v_X11_best : VE MYT dflT E_X11_best := ⟨⟨⟨⟨⟨dX11_best_0, rfl⟩, rfl⟩, ⟨⟨dX11_best_1, rfl⟩, rfl⟩, ⟨⟨dX11_best_2, rfl⟩, Or.inl ⟨rfl, kX11_271⟩⟩, ⟨⟨dX11_best_5, rfl⟩, Or.inl ⟨rfl, _, my_21, sX11_43⟩⟩, ⟨⟨dX11_best_8, rfl⟩, rfl⟩, ⟨⟨dX11_best_9, rfl⟩, rfl⟩, ⟨⟨dX11_best_10, rfl⟩, Or.inl ⟨rfl, kX11_88⟩⟩, ⟨⟨dX11_best_12, rfl⟩, Or.inl ⟨rfl, _, my_21, sX11_43⟩⟩, ⟨⟨dX11_best_15, rfl⟩, rfl⟩, ⟨⟨dX11_best_16, rfl⟩, Or.inl ⟨by decide, _, _, fX11_19⟩⟩, ⟨⟨dX11_best_19, rfl⟩, Or.inl ⟨by decide, _, _, fX11_258⟩⟩, ⟨⟨dX11_best_22, rfl⟩, rfl⟩, ⟨⟨dX11_best_23, rfl⟩, rfl⟩, ⟨⟨dX11_best_24, rfl⟩, Or.inr ⟨by decide, ⟨_, my_342, sX11_275⟩, fun q => absurd q (by decide)⟩⟩, ⟨⟨dX11_best_27, rfl⟩, Or.inl ⟨rfl, rfl⟩⟩, trivial⟩, trivial⟩, by decide, Or.inl ⟨rfl, by decide, rfl⟩⟩
set_option maxRecDepth 100000 in
theorem g_X11_best_0 (S : sT) (call : cT) (n : Nat) (a0 : Nat) (x1 : Int32) (x2 : Int32) (h : pH) : bd S call dflT E_X11_best (n + 1) 0 [some (.ref a0), some (.int x1), some (.int x2)] [] h = (cU (call 21 [.int x1, .int 0, .int 1000000] h) (fun h1 => cU (call 21 [.int x2, .int 0, .int 100000] h1) (fun h2 => gV h2 (.ref a0) 14 1 (fun w3 => gV h2 w3 3 5 (fun w4 => rC h2 w4 8 (cI (call 342 [w4, .int x1, .int x2] h2) (fun y6 h5 => some (.inl (some (.int y6)), h5)))))))) := rfl
theorem dX11_toSell_0 : decode cX11_toSell 0 = .ok (.iload_n 1, 1) := by decide +kernel
theorem dX11_toSell_1 : decode cX11_toSell 1 = .ok (.invokestatic 40, 3) := by decide +kernel
theorem dX11_toSell_4 : decode cX11_toSell 4 = .ok (.iload_n 2, 1) := by decide +kernel
theorem dX11_toSell_5 : decode cX11_toSell 5 = .ok (.iconst 1, 1) := by decide +kernel
theorem dX11_toSell_6 : decode cX11_toSell 6 = .ok (.bipush 8, 2) := by decide +kernel
theorem dX11_toSell_8 : decode cX11_toSell 8 = .ok (.invokestatic 43, 3) := by decide +kernel
theorem dX11_toSell_11 : decode cX11_toSell 11 = .ok (.iload_n 1, 1) := by decide +kernel
theorem dX11_toSell_12 : decode cX11_toSell 12 = .ok (.iload_n 2, 1) := by decide +kernel
theorem dX11_toSell_13 : decode cX11_toSell 13 = .ok (.iadd, 1) := by decide +kernel
theorem dX11_toSell_14 : decode cX11_toSell 14 = .ok (.iconst 1, 1) := by decide +kernel
theorem dX11_toSell_15 : decode cX11_toSell 15 = .ok (.bipush 48, 2) := by decide +kernel
theorem dX11_toSell_17 : decode cX11_toSell 17 = .ok (.invokestatic 43, 3) := by decide +kernel
theorem dX11_toSell_20 : decode cX11_toSell 20 = .ok (.iload_n 3, 1) := by decide +kernel
theorem dX11_toSell_21 : decode cX11_toSell 21 = .ok (.iconst 0, 1) := by decide +kernel
theorem dX11_toSell_22 : decode cX11_toSell 22 = .ok (.ldc 88, 2) := by decide +kernel
theorem dX11_toSell_24 : decode cX11_toSell 24 = .ok (.invokestatic 43, 3) := by decide +kernel
theorem dX11_toSell_27 : decode cX11_toSell 27 = .ok (.aload_n 0, 1) := by decide +kernel
theorem dX11_toSell_28 : decode cX11_toSell 28 = .ok (.getfield 19, 3) := by decide +kernel
theorem dX11_toSell_31 : decode cX11_toSell 31 = .ok (.iload_n 1, 1) := by decide +kernel
theorem dX11_toSell_32 : decode cX11_toSell 32 = .ok (.iload_n 2, 1) := by decide +kernel
theorem dX11_toSell_33 : decode cX11_toSell 33 = .ok (.iload_n 3, 1) := by decide +kernel
theorem dX11_toSell_34 : decode cX11_toSell 34 = .ok (.invokevirtual 278, 3) := by decide +kernel
theorem dX11_toSell_37 : decode cX11_toSell 37 = .ok (.ireturn, 1) := by decide +kernel
noncomputable def E_X11_toSell : mE := (mX11_toSell, [(37, [(0, (.iload_n 1, 1, false, false, 1, 0, 0, 0, 0, 0, [])), (1, (.invokestatic 40, 4, false, false, 20, 1, 0, 0, 0, 0, [])), (4, (.iload_n 2, 5, false, false, 2, 0, 0, 0, 0, 0, [])), (5, (.iconst 1, 6, false, false, 0, 0, 0, 0, 1, 0, [])), (6, (.bipush 8, 8, false, false, 0, 0, 0, 0, 8, 0, [])), (8, (.invokestatic 43, 11, false, false, 21, 3, 0, 0, 0, 0, [])), (11, (.iload_n 1, 12, false, false, 1, 0, 0, 0, 0, 0, [])), (12, (.iload_n 2, 13, false, false, 2, 0, 0, 0, 0, 0, [])), (13, (.iadd, 14, false, false, 0, 0, 0, 0, 0, 0, [])), (14, (.iconst 1, 15, false, false, 0, 0, 0, 0, 1, 0, [])), (15, (.bipush 48, 17, false, false, 0, 0, 0, 0, 48, 0, [])), (17, (.invokestatic 43, 20, false, false, 21, 3, 0, 0, 0, 0, [])), (20, (.iload_n 3, 21, false, false, 3, 0, 0, 0, 0, 0, [])), (21, (.iconst 0, 22, false, false, 0, 0, 0, 0, 0, 0, [])), (22, (.ldc 88, 24, false, false, 0, 0, 0, 0, 100000, 0, [])), (24, (.invokestatic 43, 27, false, false, 21, 3, 0, 0, 0, 0, [])), (27, (.aload_n 0, 28, false, false, 0, 0, 0, 0, 0, 0, [])), (28, (.getfield 19, 31, false, false, 14, 1, 1, 0, 0, 0, [])), (31, (.iload_n 1, 32, false, false, 1, 0, 0, 0, 0, 0, [])), (32, (.iload_n 2, 33, false, false, 2, 0, 0, 0, 0, 0, [])), (33, (.iload_n 3, 34, false, false, 3, 0, 0, 0, 0, 0, [])), (34, (.invokevirtual 278, 37, false, false, 349, 3, 1, 3, 0, 0, [])), (37, (.ireturn, 38, false, false, 0, 0, 0, 0, 0, 0, []))])], 0, [])
set_option maxRecDepth 100000 in
theorem v_X11_toSell : VE MYT dflT E_X11_toSell := ⟨⟨⟨⟨⟨dX11_toSell_0, rfl⟩, rfl⟩, ⟨⟨dX11_toSell_1, rfl⟩, Or.inl ⟨rfl, _, my_20, sX11_40⟩⟩, ⟨⟨dX11_toSell_4, rfl⟩, rfl⟩, ⟨⟨dX11_toSell_5, rfl⟩, rfl⟩, ⟨⟨dX11_toSell_6, rfl⟩, rfl⟩, ⟨⟨dX11_toSell_8, rfl⟩, Or.inl ⟨rfl, _, my_21, sX11_43⟩⟩, ⟨⟨dX11_toSell_11, rfl⟩, rfl⟩, ⟨⟨dX11_toSell_12, rfl⟩, rfl⟩, ⟨⟨dX11_toSell_13, rfl⟩, trivial⟩, ⟨⟨dX11_toSell_14, rfl⟩, rfl⟩, ⟨⟨dX11_toSell_15, rfl⟩, rfl⟩, ⟨⟨dX11_toSell_17, rfl⟩, Or.inl ⟨rfl, _, my_21, sX11_43⟩⟩, ⟨⟨dX11_toSell_20, rfl⟩, rfl⟩, ⟨⟨dX11_toSell_21, rfl⟩, rfl⟩, ⟨⟨dX11_toSell_22, rfl⟩, Or.inl ⟨rfl, kX11_88⟩⟩, ⟨⟨dX11_toSell_24, rfl⟩, Or.inl ⟨rfl, _, my_21, sX11_43⟩⟩, ⟨⟨dX11_toSell_27, rfl⟩, rfl⟩, ⟨⟨dX11_toSell_28, rfl⟩, Or.inl ⟨by decide, _, _, fX11_19⟩⟩, ⟨⟨dX11_toSell_31, rfl⟩, rfl⟩, ⟨⟨dX11_toSell_32, rfl⟩, rfl⟩, ⟨⟨dX11_toSell_33, rfl⟩, rfl⟩, ⟨⟨dX11_toSell_34, rfl⟩, Or.inr ⟨by decide, ⟨_, my_349, sX11_278⟩, fun q => absurd q (by decide)⟩⟩, ⟨⟨dX11_toSell_37, rfl⟩, Or.inl ⟨rfl, rfl⟩⟩, trivial⟩, trivial⟩, by decide, Or.inl ⟨rfl, by decide, rfl⟩⟩
set_option maxRecDepth 100000 in
theorem g_X11_toSell_0 (S : sT) (call : cT) (n : Nat) (a0 : Nat) (x1 : Int32) (x2 : Int32) (x3 : Int32) (h : pH) : bd S call dflT E_X11_toSell (n + 1) 0 [some (.ref a0), some (.int x1), some (.int x2), some (.int x3)] [] h = (cU (call 20 [.int x1] h) (fun h1 => cU (call 21 [.int x2, .int 1, .int 8] h1) (fun h2 => cU (call 21 [.int (x1 + x2), .int 1, .int 48] h2) (fun h3 => cU (call 21 [.int x3, .int 0, .int 100000] h3) (fun h4 => gV h4 (.ref a0) 14 1 (fun w5 => rC h4 w5 3 (cI (call 349 [w5, .int x1, .int x2, .int x3] h4) (fun y7 h6 => some (.inl (some (.int y7)), h6))))))))) := rfl
theorem dX11_row_0 : decode cX11_row 0 = .ok (.iload_n 2, 1) := by decide +kernel
theorem dX11_row_1 : decode cX11_row 1 = .ok (.invokestatic 40, 3) := by decide +kernel
theorem dX11_row_4 : decode cX11_row 4 = .ok (.iload_n 1, 1) := by decide +kernel
theorem dX11_row_5 : decode cX11_row 5 = .ok (.ifCond .lt 21, 3) := by decide +kernel
theorem dX11_row_8 : decode cX11_row 8 = .ok (.iload_n 1, 1) := by decide +kernel
theorem dX11_row_9 : decode cX11_row 9 = .ok (.aload_n 0, 1) := by decide +kernel
theorem dX11_row_10 : decode cX11_row 10 = .ok (.getfield 19, 3) := by decide +kernel
theorem dX11_row_13 : decode cX11_row 13 = .ok (.getfield 281, 3) := by decide +kernel
theorem dX11_row_16 : decode cX11_row 16 = .ok (.getfield 285, 3) := by decide +kernel
theorem dX11_row_19 : decode cX11_row 19 = .ok (.if_icmp .ge 7, 3) := by decide +kernel
theorem dX11_row_22 : decode cX11_row 22 = .ok (.iconst 1, 1) := by decide +kernel
theorem dX11_row_23 : decode cX11_row 23 = .ok (.goto 4, 3) := by decide +kernel
theorem dX11_row_26 : decode cX11_row 26 = .ok (.iconst 0, 1) := by decide +kernel
theorem dX11_row_27 : decode cX11_row 27 = .ok (.invokestatic 156, 3) := by decide +kernel
theorem dX11_row_30 : decode cX11_row 30 = .ok (.aload_n 0, 1) := by decide +kernel
theorem dX11_row_31 : decode cX11_row 31 = .ok (.getfield 19, 3) := by decide +kernel
theorem dX11_row_34 : decode cX11_row 34 = .ok (.getfield 281, 3) := by decide +kernel
theorem dX11_row_37 : decode cX11_row 37 = .ok (.getfield 288, 3) := by decide +kernel
theorem dX11_row_40 : decode cX11_row 40 = .ok (.iload_n 1, 1) := by decide +kernel
theorem dX11_row_41 : decode cX11_row 41 = .ok (.bipush 48, 2) := by decide +kernel
theorem dX11_row_43 : decode cX11_row 43 = .ok (.imul, 1) := by decide +kernel
theorem dX11_row_44 : decode cX11_row 44 = .ok (.iload_n 2, 1) := by decide +kernel
theorem dX11_row_45 : decode cX11_row 45 = .ok (.iadd, 1) := by decide +kernel
theorem dX11_row_46 : decode cX11_row 46 = .ok (.iaload, 1) := by decide +kernel
theorem dX11_row_47 : decode cX11_row 47 = .ok (.ireturn, 1) := by decide +kernel
noncomputable def E_X11_row : mE := (mX11_row, [(46, [(0, (.iload_n 2, 1, false, false, 2, 0, 0, 0, 0, 0, [])), (1, (.invokestatic 40, 4, false, false, 20, 1, 0, 0, 0, 0, [])), (4, (.iload_n 1, 5, false, false, 1, 0, 0, 0, 0, 0, [])), (5, (.ifCond .lt 21, 8, false, false, 26, 0, 0, 0, 0, 0, [])), (8, (.iload_n 1, 9, false, false, 1, 0, 0, 0, 0, 0, [])), (9, (.aload_n 0, 10, false, false, 0, 0, 0, 0, 0, 0, [])), (10, (.getfield 19, 13, false, false, 14, 1, 1, 0, 0, 0, [])), (13, (.getfield 281, 16, false, false, 3, 6, 1, 0, 0, 0, [])), (16, (.getfield 285, 19, false, false, 10, 0, 0, 0, 0, 0, [])), (19, (.if_icmp .ge 7, 22, false, false, 26, 0, 0, 0, 0, 0, [])), (22, (.iconst 1, 23, false, false, 0, 0, 0, 0, 1, 0, [])), (23, (.goto 4, 26, false, false, 27, 0, 0, 0, 0, 0, [])), (26, (.iconst 0, 27, false, false, 0, 0, 0, 0, 0, 0, [])), (27, (.invokestatic 156, 30, false, false, 257, 1, 0, 0, 0, 0, [])), (30, (.aload_n 0, 31, false, false, 0, 0, 0, 0, 0, 0, [])), (31, (.getfield 19, 34, false, false, 14, 1, 1, 0, 0, 0, [])), (34, (.getfield 281, 37, false, false, 3, 6, 1, 0, 0, 0, [])), (37, (.getfield 288, 40, false, false, 10, 1, 1, 0, 0, 0, [])), (40, (.iload_n 1, 41, false, false, 1, 0, 0, 0, 0, 0, [])), (41, (.bipush 48, 43, false, false, 0, 0, 0, 0, 48, 0, [])), (43, (.imul, 44, false, false, 0, 0, 0, 0, 0, 0, [])), (44, (.iload_n 2, 45, false, false, 2, 0, 0, 0, 0, 0, [])), (45, (.iadd, 46, false, false, 0, 0, 0, 0, 0, 0, [])), (46, (.iaload, 47, false, false, 0, 0, 0, 0, 0, 0, []))]),
  (47, [(47, (.ireturn, 48, false, false, 0, 0, 0, 0, 0, 0, []))])], 0, [])
set_option maxRecDepth 100000 in
theorem v_X11_row : VE MYT dflT E_X11_row := ⟨⟨⟨⟨⟨dX11_row_0, rfl⟩, rfl⟩, ⟨⟨dX11_row_1, rfl⟩, Or.inl ⟨rfl, _, my_20, sX11_40⟩⟩, ⟨⟨dX11_row_4, rfl⟩, rfl⟩, ⟨⟨dX11_row_5, rfl⟩, rfl⟩, ⟨⟨dX11_row_8, rfl⟩, rfl⟩, ⟨⟨dX11_row_9, rfl⟩, rfl⟩, ⟨⟨dX11_row_10, rfl⟩, Or.inl ⟨by decide, _, _, fX11_19⟩⟩, ⟨⟨dX11_row_13, rfl⟩, Or.inl ⟨by decide, _, _, fX11_281⟩⟩, ⟨⟨dX11_row_16, rfl⟩, Or.inl ⟨by decide, _, _, fX11_285⟩⟩, ⟨⟨dX11_row_19, rfl⟩, rfl⟩, ⟨⟨dX11_row_22, rfl⟩, rfl⟩, ⟨⟨dX11_row_23, rfl⟩, rfl⟩, ⟨⟨dX11_row_26, rfl⟩, rfl⟩, ⟨⟨dX11_row_27, rfl⟩, Or.inl ⟨rfl, _, my_257, sX11_156⟩⟩, ⟨⟨dX11_row_30, rfl⟩, rfl⟩, ⟨⟨dX11_row_31, rfl⟩, Or.inl ⟨by decide, _, _, fX11_19⟩⟩, ⟨⟨dX11_row_34, rfl⟩, Or.inl ⟨by decide, _, _, fX11_281⟩⟩, ⟨⟨dX11_row_37, rfl⟩, Or.inl ⟨by decide, _, _, fX11_288⟩⟩, ⟨⟨dX11_row_40, rfl⟩, rfl⟩, ⟨⟨dX11_row_41, rfl⟩, rfl⟩, ⟨⟨dX11_row_43, rfl⟩, trivial⟩, ⟨⟨dX11_row_44, rfl⟩, rfl⟩, ⟨⟨dX11_row_45, rfl⟩, trivial⟩, ⟨⟨dX11_row_46, rfl⟩, trivial⟩, trivial⟩,
  ⟨⟨⟨dX11_row_47, rfl⟩, Or.inl ⟨rfl, rfl⟩⟩, trivial⟩, trivial⟩, by decide, Or.inl ⟨rfl, by decide, rfl⟩⟩
set_option maxRecDepth 100000 in
theorem g_X11_row_0 (S : sT) (call : cT) (n : Nat) (a0 : Nat) (x1 : Int32) (x2 : Int32) (h : pH) : bd S call dflT E_X11_row (n + 1) 0 [some (.ref a0), some (.int x1), some (.int x2)] [] h = (cU (call 20 [.int x2] h) (fun h1 => (if x1 < 0 then cU (call 257 [.int 0] h1) (fun h2 => gV h2 (.ref a0) 14 1 (fun w3 => gV h2 w3 3 6 (fun w4 => gV h2 w4 10 1 (fun w5 => aI h2 w5 0 ((x1 * 48) + x2) (fun y6 => some (.inl (some (.int y6)), h2)))))) else gV h1 (.ref a0) 14 1 (fun w7 => gV h1 w7 3 6 (fun w8 => gI h1 w8 10 0 (fun y9 => (if y9 ≤ x1 then cU (call 257 [.int 0] h1) (fun h10 => gV h10 (.ref a0) 14 1 (fun w11 => gV h10 w11 3 6 (fun w12 => gV h10 w12 10 1 (fun w13 => aI h10 w13 0 ((x1 * 48) + x2) (fun y14 => some (.inl (some (.int y14)), h10)))))) else cU (call 257 [.int 1] h1) (fun h15 => gV h15 (.ref a0) 14 1 (fun w16 => gV h15 w16 3 6 (fun w17 => gV h15 w17 10 1 (fun w18 => aI h15 w18 0 ((x1 * 48) + x2) (fun y19 => some (.inl (some (.int y19)), h15))))))))))))) := rfl
theorem dX11_tear_0 : decode cX11_tear 0 = .ok (.iload_n 2, 1) := by decide +kernel
theorem dX11_tear_1 : decode cX11_tear 1 = .ok (.invokestatic 40, 3) := by decide +kernel
theorem dX11_tear_4 : decode cX11_tear 4 = .ok (.iload_n 1, 1) := by decide +kernel
theorem dX11_tear_5 : decode cX11_tear 5 = .ok (.ifCond .lt 21, 3) := by decide +kernel
theorem dX11_tear_8 : decode cX11_tear 8 = .ok (.iload_n 1, 1) := by decide +kernel
theorem dX11_tear_9 : decode cX11_tear 9 = .ok (.aload_n 0, 1) := by decide +kernel
theorem dX11_tear_10 : decode cX11_tear 10 = .ok (.getfield 19, 3) := by decide +kernel
theorem dX11_tear_13 : decode cX11_tear 13 = .ok (.getfield 281, 3) := by decide +kernel
theorem dX11_tear_16 : decode cX11_tear 16 = .ok (.getfield 285, 3) := by decide +kernel
theorem dX11_tear_19 : decode cX11_tear 19 = .ok (.if_icmp .ge 7, 3) := by decide +kernel
theorem dX11_tear_22 : decode cX11_tear 22 = .ok (.iconst 1, 1) := by decide +kernel
theorem dX11_tear_23 : decode cX11_tear 23 = .ok (.goto 4, 3) := by decide +kernel
theorem dX11_tear_26 : decode cX11_tear 26 = .ok (.iconst 0, 1) := by decide +kernel
theorem dX11_tear_27 : decode cX11_tear 27 = .ok (.invokestatic 156, 3) := by decide +kernel
theorem dX11_tear_30 : decode cX11_tear 30 = .ok (.aload_n 0, 1) := by decide +kernel
theorem dX11_tear_31 : decode cX11_tear 31 = .ok (.getfield 19, 3) := by decide +kernel
theorem dX11_tear_34 : decode cX11_tear 34 = .ok (.getfield 281, 3) := by decide +kernel
theorem dX11_tear_37 : decode cX11_tear 37 = .ok (.getfield 288, 3) := by decide +kernel
theorem dX11_tear_40 : decode cX11_tear 40 = .ok (.iload_n 1, 1) := by decide +kernel
theorem dX11_tear_41 : decode cX11_tear 41 = .ok (.bipush 48, 2) := by decide +kernel
theorem dX11_tear_43 : decode cX11_tear 43 = .ok (.imul, 1) := by decide +kernel
theorem dX11_tear_44 : decode cX11_tear 44 = .ok (.iload_n 2, 1) := by decide +kernel
theorem dX11_tear_45 : decode cX11_tear 45 = .ok (.iadd, 1) := by decide +kernel
theorem dX11_tear_46 : decode cX11_tear 46 = .ok (.dup2, 1) := by decide +kernel
theorem dX11_tear_47 : decode cX11_tear 47 = .ok (.iaload, 1) := by decide +kernel
theorem dX11_tear_48 : decode cX11_tear 48 = .ok (.iload_n 3, 1) := by decide +kernel
theorem dX11_tear_49 : decode cX11_tear 49 = .ok (.ixor, 1) := by decide +kernel
theorem dX11_tear_50 : decode cX11_tear 50 = .ok (.iastore, 1) := by decide +kernel
theorem dX11_tear_51 : decode cX11_tear 51 = .ok (.aload_n 0, 1) := by decide +kernel
theorem dX11_tear_52 : decode cX11_tear 52 = .ok (.getfield 19, 3) := by decide +kernel
theorem dX11_tear_55 : decode cX11_tear 55 = .ok (.getfield 281, 3) := by decide +kernel
theorem dX11_tear_58 : decode cX11_tear 58 = .ok (.getfield 288, 3) := by decide +kernel
theorem dX11_tear_61 : decode cX11_tear 61 = .ok (.iload_n 1, 1) := by decide +kernel
theorem dX11_tear_62 : decode cX11_tear 62 = .ok (.bipush 48, 2) := by decide +kernel
theorem dX11_tear_64 : decode cX11_tear 64 = .ok (.imul, 1) := by decide +kernel
theorem dX11_tear_65 : decode cX11_tear 65 = .ok (.iload_n 2, 1) := by decide +kernel
theorem dX11_tear_66 : decode cX11_tear 66 = .ok (.iadd, 1) := by decide +kernel
theorem dX11_tear_67 : decode cX11_tear 67 = .ok (.iaload, 1) := by decide +kernel
theorem dX11_tear_68 : decode cX11_tear 68 = .ok (.ireturn, 1) := by decide +kernel
noncomputable def E_X11_tear : mE := (mX11_tear, [(46, [(0, (.iload_n 2, 1, false, false, 2, 0, 0, 0, 0, 0, [])), (1, (.invokestatic 40, 4, false, false, 20, 1, 0, 0, 0, 0, [])), (4, (.iload_n 1, 5, false, false, 1, 0, 0, 0, 0, 0, [])), (5, (.ifCond .lt 21, 8, false, false, 26, 0, 0, 0, 0, 0, [])), (8, (.iload_n 1, 9, false, false, 1, 0, 0, 0, 0, 0, [])), (9, (.aload_n 0, 10, false, false, 0, 0, 0, 0, 0, 0, [])), (10, (.getfield 19, 13, false, false, 14, 1, 1, 0, 0, 0, [])), (13, (.getfield 281, 16, false, false, 3, 6, 1, 0, 0, 0, [])), (16, (.getfield 285, 19, false, false, 10, 0, 0, 0, 0, 0, [])), (19, (.if_icmp .ge 7, 22, false, false, 26, 0, 0, 0, 0, 0, [])), (22, (.iconst 1, 23, false, false, 0, 0, 0, 0, 1, 0, [])), (23, (.goto 4, 26, false, true, 27, 0, 0, 0, 0, 0, [])), (26, (.iconst 0, 27, true, false, 0, 0, 0, 0, 0, 0, [])), (27, (.invokestatic 156, 30, false, false, 257, 1, 0, 0, 0, 0, [])), (30, (.aload_n 0, 31, false, false, 0, 0, 0, 0, 0, 0, [])), (31, (.getfield 19, 34, false, false, 14, 1, 1, 0, 0, 0, [])), (34, (.getfield 281, 37, false, false, 3, 6, 1, 0, 0, 0, [])), (37, (.getfield 288, 40, false, false, 10, 1, 1, 0, 0, 0, [])), (40, (.iload_n 1, 41, false, false, 1, 0, 0, 0, 0, 0, [])), (41, (.bipush 48, 43, false, false, 0, 0, 0, 0, 48, 0, [])), (43, (.imul, 44, false, false, 0, 0, 0, 0, 0, 0, [])), (44, (.iload_n 2, 45, false, false, 2, 0, 0, 0, 0, 0, [])), (45, (.iadd, 46, false, false, 0, 0, 0, 0, 0, 0, [])), (46, (.dup2, 47, false, false, 0, 0, 0, 0, 0, 0, []))]),
  (68, [(47, (.iaload, 48, false, false, 0, 0, 0, 0, 0, 0, [])), (48, (.iload_n 3, 49, false, false, 3, 0, 0, 0, 0, 0, [])), (49, (.ixor, 50, false, false, 0, 0, 0, 0, 0, 0, [])), (50, (.iastore, 51, false, false, 0, 0, 0, 0, 0, 0, [])), (51, (.aload_n 0, 52, false, false, 0, 0, 0, 0, 0, 0, [])), (52, (.getfield 19, 55, false, false, 14, 1, 1, 0, 0, 0, [])), (55, (.getfield 281, 58, false, false, 3, 6, 1, 0, 0, 0, [])), (58, (.getfield 288, 61, false, false, 10, 1, 1, 0, 0, 0, [])), (61, (.iload_n 1, 62, false, false, 1, 0, 0, 0, 0, 0, [])), (62, (.bipush 48, 64, false, false, 0, 0, 0, 0, 48, 0, [])), (64, (.imul, 65, false, false, 0, 0, 0, 0, 0, 0, [])), (65, (.iload_n 2, 66, false, false, 2, 0, 0, 0, 0, 0, [])), (66, (.iadd, 67, false, false, 0, 0, 0, 0, 0, 0, [])), (67, (.iaload, 68, false, false, 0, 0, 0, 0, 0, 0, [])), (68, (.ireturn, 69, false, false, 0, 0, 0, 0, 0, 0, []))])], 0, [])
set_option maxRecDepth 100000 in
theorem v_X11_tear : VE MYT dflT E_X11_tear := ⟨⟨⟨⟨⟨dX11_tear_0, rfl⟩, rfl⟩, ⟨⟨dX11_tear_1, rfl⟩, Or.inl ⟨rfl, _, my_20, sX11_40⟩⟩, ⟨⟨dX11_tear_4, rfl⟩, rfl⟩, ⟨⟨dX11_tear_5, rfl⟩, rfl⟩, ⟨⟨dX11_tear_8, rfl⟩, rfl⟩, ⟨⟨dX11_tear_9, rfl⟩, rfl⟩, ⟨⟨dX11_tear_10, rfl⟩, Or.inl ⟨by decide, _, _, fX11_19⟩⟩, ⟨⟨dX11_tear_13, rfl⟩, Or.inl ⟨by decide, _, _, fX11_281⟩⟩, ⟨⟨dX11_tear_16, rfl⟩, Or.inl ⟨by decide, _, _, fX11_285⟩⟩, ⟨⟨dX11_tear_19, rfl⟩, rfl⟩, ⟨⟨dX11_tear_22, rfl⟩, rfl⟩, ⟨⟨dX11_tear_23, rfl⟩, rfl⟩, ⟨⟨dX11_tear_26, rfl⟩, rfl⟩, ⟨⟨dX11_tear_27, rfl⟩, Or.inl ⟨rfl, _, my_257, sX11_156⟩⟩, ⟨⟨dX11_tear_30, rfl⟩, rfl⟩, ⟨⟨dX11_tear_31, rfl⟩, Or.inl ⟨by decide, _, _, fX11_19⟩⟩, ⟨⟨dX11_tear_34, rfl⟩, Or.inl ⟨by decide, _, _, fX11_281⟩⟩, ⟨⟨dX11_tear_37, rfl⟩, Or.inl ⟨by decide, _, _, fX11_288⟩⟩, ⟨⟨dX11_tear_40, rfl⟩, rfl⟩, ⟨⟨dX11_tear_41, rfl⟩, rfl⟩, ⟨⟨dX11_tear_43, rfl⟩, trivial⟩, ⟨⟨dX11_tear_44, rfl⟩, rfl⟩, ⟨⟨dX11_tear_45, rfl⟩, trivial⟩, ⟨⟨dX11_tear_46, rfl⟩, trivial⟩, trivial⟩,
  ⟨⟨⟨dX11_tear_47, rfl⟩, trivial⟩, ⟨⟨dX11_tear_48, rfl⟩, rfl⟩, ⟨⟨dX11_tear_49, rfl⟩, trivial⟩, ⟨⟨dX11_tear_50, rfl⟩, trivial⟩, ⟨⟨dX11_tear_51, rfl⟩, rfl⟩, ⟨⟨dX11_tear_52, rfl⟩, Or.inl ⟨by decide, _, _, fX11_19⟩⟩, ⟨⟨dX11_tear_55, rfl⟩, Or.inl ⟨by decide, _, _, fX11_281⟩⟩, ⟨⟨dX11_tear_58, rfl⟩, Or.inl ⟨by decide, _, _, fX11_288⟩⟩, ⟨⟨dX11_tear_61, rfl⟩, rfl⟩, ⟨⟨dX11_tear_62, rfl⟩, rfl⟩, ⟨⟨dX11_tear_64, rfl⟩, trivial⟩, ⟨⟨dX11_tear_65, rfl⟩, rfl⟩, ⟨⟨dX11_tear_66, rfl⟩, trivial⟩, ⟨⟨dX11_tear_67, rfl⟩, trivial⟩, ⟨⟨dX11_tear_68, rfl⟩, Or.inl ⟨rfl, rfl⟩⟩, trivial⟩, trivial⟩, by decide, Or.inl ⟨rfl, by decide, rfl⟩⟩
set_option maxRecDepth 100000 in
theorem g_X11_tear_0 (S : sT) (call : cT) (n : Nat) (a0 : Nat) (x1 : Int32) (x2 : Int32) (x3 : Int32) (h : pH) : bd S call dflT E_X11_tear (n + 1) 0 [some (.ref a0), some (.int x1), some (.int x2), some (.int x3)] [] h = (cU (call 20 [.int x2] h) (fun h1 => (if x1 < 0 then bd S call dflT E_X11_tear n 27 [some (.ref a0), some (.int x1), some (.int x2), some (.int x3)] [.int 0] h1 else gV h1 (.ref a0) 14 1 (fun w2 => gV h1 w2 3 6 (fun w3 => gI h1 w3 10 0 (fun y4 => (if y4 ≤ x1 then bd S call dflT E_X11_tear n 27 [some (.ref a0), some (.int x1), some (.int x2), some (.int x3)] [.int 0] h1 else bd S call dflT E_X11_tear n 27 [some (.ref a0), some (.int x1), some (.int x2), some (.int x3)] [.int 1] h1))))))) := rfl
set_option maxRecDepth 100000 in
theorem g_X11_tear_27 (S : sT) (call : cT) (n : Nat) (a0 : Nat) (x1 : Int32) (x2 : Int32) (x3 : Int32) (y0 : Int32) (h : pH) : bd S call dflT E_X11_tear (n + 1) 27 [some (.ref a0), some (.int x1), some (.int x2), some (.int x3)] [.int y0] h = (cU (call 257 [.int y0] h) (fun h1 => gV h1 (.ref a0) 14 1 (fun w2 => gV h1 w2 3 6 (fun w3 => gV h1 w3 10 1 (fun w4 => nl w4 (aI h1 w4 0 ((x1 * 48) + x2) (fun y5 => sI h1 w4 0 ((x1 * 48) + x2) (y5 ^^^ x3) (fun h6 => gV h6 (.ref a0) 14 1 (fun w7 => gV h6 w7 3 6 (fun w8 => gV h6 w8 10 1 (fun w9 => aI h6 w9 0 ((x1 * 48) + x2) (fun y10 => some (.inl (some (.int y10)), h6))))))))))))) := rfl
theorem dX11_check_0 : decode cX11_check 0 = .ok (.aload_n 0, 1) := by decide +kernel
theorem dX11_check_1 : decode cX11_check 1 = .ok (.getfield 19, 3) := by decide +kernel
theorem dX11_check_4 : decode cX11_check 4 = .ok (.getfield 281, 3) := by decide +kernel
theorem dX11_check_7 : decode cX11_check 7 = .ok (.invokevirtual 291, 3) := by decide +kernel
theorem dX11_check_10 : decode cX11_check 10 = .ok (.ireturn, 1) := by decide +kernel
noncomputable def E_X11_check : mE := (mX11_check, [(10, [(0, (.aload_n 0, 1, false, false, 0, 0, 0, 0, 0, 0, [])), (1, (.getfield 19, 4, false, false, 14, 1, 1, 0, 0, 0, [])), (4, (.getfield 281, 7, false, false, 3, 6, 1, 0, 0, 0, [])), (7, (.invokevirtual 291, 10, false, false, 362, 0, 1, 10, 0, 0, [])), (10, (.ireturn, 11, false, false, 0, 0, 0, 0, 0, 0, []))])], 0, [])
set_option maxRecDepth 100000 in
theorem v_X11_check : VE MYT dflT E_X11_check := ⟨⟨⟨⟨⟨dX11_check_0, rfl⟩, rfl⟩, ⟨⟨dX11_check_1, rfl⟩, Or.inl ⟨by decide, _, _, fX11_19⟩⟩, ⟨⟨dX11_check_4, rfl⟩, Or.inl ⟨by decide, _, _, fX11_281⟩⟩, ⟨⟨dX11_check_7, rfl⟩, Or.inr ⟨by decide, ⟨_, my_362, sX11_291⟩, fun q => absurd q (by decide)⟩⟩, ⟨⟨dX11_check_10, rfl⟩, Or.inl ⟨rfl, rfl⟩⟩, trivial⟩, trivial⟩, by decide, Or.inl ⟨rfl, by decide, rfl⟩⟩
set_option maxRecDepth 100000 in
theorem g_X11_check_0 (S : sT) (call : cT) (n : Nat) (a0 : Nat) (h : pH) : bd S call dflT E_X11_check (n + 1) 0 [some (.ref a0)] [] h = (gV h (.ref a0) 14 1 (fun w1 => gV h w1 3 6 (fun w2 => rC h w2 10 (cI (call 362 [w2] h) (fun y4 h3 => some (.inl (some (.int y4)), h3)))))) := rfl
theorem dX11_image_0 : decode cX11_image 0 = .ok (.aload_n 0, 1) := by decide +kernel
theorem dX11_image_1 : decode cX11_image 1 = .ok (.getfield 294, 3) := by decide +kernel
theorem dX11_image_4 : decode cX11_image 4 = .ok (.ifnonnull 14, 3) := by decide +kernel
theorem dX11_image_7 : decode cX11_image 7 = .ok (.aload_n 0, 1) := by decide +kernel
theorem dX11_image_8 : decode cX11_image 8 = .ok (.new 16, 3) := by decide +kernel
theorem dX11_image_11 : decode cX11_image 11 = .ok (.dup, 1) := by decide +kernel
theorem dX11_image_12 : decode cX11_image 12 = .ok (.invokespecial 18, 3) := by decide +kernel
theorem dX11_image_15 : decode cX11_image 15 = .ok (.putfield 294, 3) := by decide +kernel
theorem dX11_image_18 : decode cX11_image 18 = .ok (.aload_n 0, 1) := by decide +kernel
theorem dX11_image_19 : decode cX11_image 19 = .ok (.getfield 294, 3) := by decide +kernel
theorem dX11_image_22 : decode cX11_image 22 = .ok (.aload_n 0, 1) := by decide +kernel
theorem dX11_image_23 : decode cX11_image 23 = .ok (.getfield 19, 3) := by decide +kernel
theorem dX11_image_26 : decode cX11_image 26 = .ok (.invokevirtual 297, 3) := by decide +kernel
theorem dX11_image_29 : decode cX11_image 29 = .ok (.return_, 1) := by decide +kernel
noncomputable def E_X11_image : mE := (mX11_image, [(29, [(0, (.aload_n 0, 1, false, false, 0, 0, 0, 0, 0, 0, [])), (1, (.getfield 294, 4, false, false, 14, 3, 1, 0, 0, 0, [])), (4, (.ifnonnull 14, 7, false, false, 18, 0, 0, 0, 0, 0, [])), (7, (.aload_n 0, 8, false, false, 0, 0, 0, 0, 0, 0, [])), (8, (.new 16, 11, false, false, 3, 0, 0, 0, 0, 0, [])), (11, (.dup, 12, false, false, 0, 0, 0, 0, 0, 0, [])), (12, (.invokespecial 18, 15, false, false, 9, 0, 0, 0, 0, 0, [])), (15, (.putfield 294, 18, false, false, 14, 3, 3, 0, 0, 0, [])), (18, (.aload_n 0, 19, false, false, 0, 0, 0, 0, 0, 0, [])), (19, (.getfield 294, 22, false, false, 14, 3, 1, 0, 0, 0, [])), (22, (.aload_n 0, 23, false, false, 0, 0, 0, 0, 0, 0, [])), (23, (.getfield 19, 26, false, false, 14, 1, 1, 0, 0, 0, [])), (26, (.invokevirtual 297, 29, false, false, 372, 1, 0, 3, 0, 0, [])), (29, (.return_, 30, false, false, 0, 0, 0, 0, 0, 0, []))])], 0, [])
set_option maxRecDepth 100000 in
theorem v_X11_image : VE MYT dflT E_X11_image := ⟨⟨⟨⟨⟨dX11_image_0, rfl⟩, rfl⟩, ⟨⟨dX11_image_1, rfl⟩, Or.inl ⟨by decide, _, _, fX11_294⟩⟩, ⟨⟨dX11_image_4, rfl⟩, rfl⟩, ⟨⟨dX11_image_7, rfl⟩, rfl⟩, ⟨⟨dX11_image_8, rfl⟩, Or.inl ⟨rfl, _, rfl, nX11_16⟩⟩, ⟨⟨dX11_image_11, rfl⟩, trivial⟩, ⟨⟨dX11_image_12, rfl⟩, Or.inl ⟨rfl, _, my_9, sX11_18⟩⟩, ⟨⟨dX11_image_15, rfl⟩, Or.inr (Or.inr (Or.inr (Or.inl ⟨rfl, _, (Or.inl ⟨_, rfl⟩), fX11_294⟩)))⟩, ⟨⟨dX11_image_18, rfl⟩, rfl⟩, ⟨⟨dX11_image_19, rfl⟩, Or.inl ⟨by decide, _, _, fX11_294⟩⟩, ⟨⟨dX11_image_22, rfl⟩, rfl⟩, ⟨⟨dX11_image_23, rfl⟩, Or.inl ⟨by decide, _, _, fX11_19⟩⟩, ⟨⟨dX11_image_26, rfl⟩, Or.inr ⟨by decide, ⟨_, my_372, sX11_297⟩, fun q => absurd q (by decide)⟩⟩, ⟨⟨dX11_image_29, rfl⟩, rfl⟩, trivial⟩, trivial⟩, by decide, Or.inl ⟨rfl, by decide, rfl⟩⟩
set_option maxRecDepth 100000 in
theorem g_X11_image_0 (S : sT) (call : cT) (n : Nat) (a0 : Nat) (h : pH) : bd S call dflT E_X11_image (n + 1) 0 [some (.ref a0)] [] h = (gV h (.ref a0) 14 3 (fun w1 => iA w1 (nz w1 (cUx tN (call 9 [.ref (List.length h)] (h ++ [.inr (3, dflT 3)])) (fun h5 => pF h5 (.ref a0) 14 3 (.ref (List.length h)) (fun h6 => gV h6 (.ref a0) 14 3 (fun w7 => gV h6 (.ref a0) 14 1 (fun w8 => rC h6 w7 3 (cU (call 372 [w7, w8] h6) (fun h9 => some (.inl none, h9)))))))) (gV h (.ref a0) 14 3 (fun w2 => gV h (.ref a0) 14 1 (fun w3 => rC h w2 3 (cU (call 372 [w2, w3] h) (fun h4 => some (.inl none, h4))))))))) := rfl
theorem dX11_back_0 : decode cX11_back 0 = .ok (.aload_n 0, 1) := by decide +kernel
theorem dX11_back_1 : decode cX11_back 1 = .ok (.getfield 294, 3) := by decide +kernel
theorem dX11_back_4 : decode cX11_back 4 = .ok (.ifnonnull 5, 3) := by decide +kernel
theorem dX11_back_7 : decode cX11_back 7 = .ok (.iconst 0, 1) := by decide +kernel
theorem dX11_back_8 : decode cX11_back 8 = .ok (.ireturn, 1) := by decide +kernel
theorem dX11_back_9 : decode cX11_back 9 = .ok (.aload_n 0, 1) := by decide +kernel
theorem dX11_back_10 : decode cX11_back 10 = .ok (.getfield 19, 3) := by decide +kernel
theorem dX11_back_13 : decode cX11_back 13 = .ok (.aload_n 0, 1) := by decide +kernel
theorem dX11_back_14 : decode cX11_back 14 = .ok (.getfield 294, 3) := by decide +kernel
theorem dX11_back_17 : decode cX11_back 17 = .ok (.invokevirtual 297, 3) := by decide +kernel
theorem dX11_back_20 : decode cX11_back 20 = .ok (.iconst 1, 1) := by decide +kernel
theorem dX11_back_21 : decode cX11_back 21 = .ok (.ireturn, 1) := by decide +kernel
noncomputable def E_X11_back : mE := (mX11_back, [(21, [(0, (.aload_n 0, 1, false, false, 0, 0, 0, 0, 0, 0, [])), (1, (.getfield 294, 4, false, false, 14, 3, 1, 0, 0, 0, [])), (4, (.ifnonnull 5, 7, false, false, 9, 0, 0, 0, 0, 0, [])), (7, (.iconst 0, 8, false, false, 0, 0, 0, 0, 0, 0, [])), (8, (.ireturn, 9, false, false, 0, 0, 1, 0, 0, 0, [])), (9, (.aload_n 0, 10, false, false, 0, 0, 0, 0, 0, 0, [])), (10, (.getfield 19, 13, false, false, 14, 1, 1, 0, 0, 0, [])), (13, (.aload_n 0, 14, false, false, 0, 0, 0, 0, 0, 0, [])), (14, (.getfield 294, 17, false, false, 14, 3, 1, 0, 0, 0, [])), (17, (.invokevirtual 297, 20, false, false, 372, 1, 0, 3, 0, 0, [])), (20, (.iconst 1, 21, false, false, 0, 0, 0, 0, 1, 0, [])), (21, (.ireturn, 22, false, false, 0, 0, 1, 0, 0, 0, []))])], 0, [])
set_option maxRecDepth 100000 in
theorem v_X11_back : VE MYT dflT E_X11_back := ⟨⟨⟨⟨⟨dX11_back_0, rfl⟩, rfl⟩, ⟨⟨dX11_back_1, rfl⟩, Or.inl ⟨by decide, _, _, fX11_294⟩⟩, ⟨⟨dX11_back_4, rfl⟩, rfl⟩, ⟨⟨dX11_back_7, rfl⟩, rfl⟩, ⟨⟨dX11_back_8, rfl⟩, Or.inr (Or.inl ⟨rfl, rfl⟩)⟩, ⟨⟨dX11_back_9, rfl⟩, rfl⟩, ⟨⟨dX11_back_10, rfl⟩, Or.inl ⟨by decide, _, _, fX11_19⟩⟩, ⟨⟨dX11_back_13, rfl⟩, rfl⟩, ⟨⟨dX11_back_14, rfl⟩, Or.inl ⟨by decide, _, _, fX11_294⟩⟩, ⟨⟨dX11_back_17, rfl⟩, Or.inr ⟨by decide, ⟨_, my_372, sX11_297⟩, fun q => absurd q (by decide)⟩⟩, ⟨⟨dX11_back_20, rfl⟩, rfl⟩, ⟨⟨dX11_back_21, rfl⟩, Or.inr (Or.inl ⟨rfl, rfl⟩)⟩, trivial⟩, trivial⟩, by decide, Or.inl ⟨rfl, by decide, rfl⟩⟩
set_option maxRecDepth 100000 in
theorem g_X11_back_0 (S : sT) (call : cT) (n : Nat) (a0 : Nat) (h : pH) : bd S call dflT E_X11_back (n + 1) 0 [some (.ref a0)] [] h = (gV h (.ref a0) 14 3 (fun w1 => iA w1 (nz w1 (zR 0 (some (.inl (some (.int 0)), h))) (gV h (.ref a0) 14 1 (fun w2 => gV h (.ref a0) 14 3 (fun w3 => rC h w2 3 (cU (call 372 [w2, w3] h) (fun h4 => zR 1 (some (.inl (some (.int 1)), h4)))))))))) := rfl
theorem dX11_count_0 : decode cX11_count 0 = .ok (.iload_n 1, 1) := by decide +kernel
theorem dX11_count_1 : decode cX11_count 1 = .ok (.tableswitch 202 0 17 #[87, 95, 202, 202, 105, 116, 127, 139, 151, 162, 202, 202, 202, 202, 180, 202, 202, 191], 87) := by decide +kernel
theorem dX11_count_88 : decode cX11_count 88 = .ok (.aload_n 0, 1) := by decide +kernel
theorem dX11_count_89 : decode cX11_count 89 = .ok (.getfield 19, 3) := by decide +kernel
theorem dX11_count_92 : decode cX11_count 92 = .ok (.getfield 74, 3) := by decide +kernel
theorem dX11_count_95 : decode cX11_count 95 = .ok (.ireturn, 1) := by decide +kernel
theorem dX11_count_96 : decode cX11_count 96 = .ok (.aload_n 0, 1) := by decide +kernel
theorem dX11_count_97 : decode cX11_count 97 = .ok (.getfield 19, 3) := by decide +kernel
theorem dX11_count_100 : decode cX11_count 100 = .ok (.getfield 74, 3) := by decide +kernel
theorem dX11_count_103 : decode cX11_count 103 = .ok (.iconst 4, 1) := by decide +kernel
theorem dX11_count_104 : decode cX11_count 104 = .ok (.idiv, 1) := by decide +kernel
theorem dX11_count_105 : decode cX11_count 105 = .ok (.ireturn, 1) := by decide +kernel
theorem dX11_count_106 : decode cX11_count 106 = .ok (.aload_n 0, 1) := by decide +kernel
theorem dX11_count_107 : decode cX11_count 107 = .ok (.getfield 19, 3) := by decide +kernel
theorem dX11_count_110 : decode cX11_count 110 = .ok (.getfield 111, 3) := by decide +kernel
theorem dX11_count_113 : decode cX11_count 113 = .ok (.getfield 300, 3) := by decide +kernel
theorem dX11_count_116 : decode cX11_count 116 = .ok (.ireturn, 1) := by decide +kernel
theorem dX11_count_117 : decode cX11_count 117 = .ok (.aload_n 0, 1) := by decide +kernel
theorem dX11_count_118 : decode cX11_count 118 = .ok (.getfield 19, 3) := by decide +kernel
theorem dX11_count_121 : decode cX11_count 121 = .ok (.getfield 111, 3) := by decide +kernel
theorem dX11_count_124 : decode cX11_count 124 = .ok (.invokevirtual 301, 3) := by decide +kernel
theorem dX11_count_127 : decode cX11_count 127 = .ok (.ireturn, 1) := by decide +kernel
theorem dX11_count_128 : decode cX11_count 128 = .ok (.aload_n 0, 1) := by decide +kernel
theorem dX11_count_129 : decode cX11_count 129 = .ok (.getfield 19, 3) := by decide +kernel
theorem dX11_count_132 : decode cX11_count 132 = .ok (.getfield 111, 3) := by decide +kernel
theorem dX11_count_135 : decode cX11_count 135 = .ok (.iconst 3, 1) := by decide +kernel
theorem dX11_count_136 : decode cX11_count 136 = .ok (.invokevirtual 304, 3) := by decide +kernel
theorem dX11_count_139 : decode cX11_count 139 = .ok (.ireturn, 1) := by decide +kernel
theorem dX11_count_140 : decode cX11_count 140 = .ok (.aload_n 0, 1) := by decide +kernel
theorem dX11_count_141 : decode cX11_count 141 = .ok (.getfield 19, 3) := by decide +kernel
theorem dX11_count_144 : decode cX11_count 144 = .ok (.getfield 111, 3) := by decide +kernel
theorem dX11_count_147 : decode cX11_count 147 = .ok (.iconst 4, 1) := by decide +kernel
theorem dX11_count_148 : decode cX11_count 148 = .ok (.invokevirtual 304, 3) := by decide +kernel
theorem dX11_count_151 : decode cX11_count 151 = .ok (.ireturn, 1) := by decide +kernel
theorem dX11_count_152 : decode cX11_count 152 = .ok (.aload_n 0, 1) := by decide +kernel
theorem dX11_count_153 : decode cX11_count 153 = .ok (.getfield 19, 3) := by decide +kernel
theorem dX11_count_156 : decode cX11_count 156 = .ok (.getfield 171, 3) := by decide +kernel
theorem dX11_count_159 : decode cX11_count 159 = .ok (.getfield 175, 3) := by decide +kernel
theorem dX11_count_162 : decode cX11_count 162 = .ok (.ireturn, 1) := by decide +kernel
theorem dX11_count_163 : decode cX11_count 163 = .ok (.aload_n 0, 1) := by decide +kernel
theorem dX11_count_164 : decode cX11_count 164 = .ok (.getfield 19, 3) := by decide +kernel
theorem dX11_count_167 : decode cX11_count 167 = .ok (.getfield 171, 3) := by decide +kernel
theorem dX11_count_170 : decode cX11_count 170 = .ok (.aload_n 0, 1) := by decide +kernel
theorem dX11_count_171 : decode cX11_count 171 = .ok (.getfield 19, 3) := by decide +kernel
theorem dX11_count_174 : decode cX11_count 174 = .ok (.getfield 74, 3) := by decide +kernel
theorem dX11_count_177 : decode cX11_count 177 = .ok (.invokevirtual 307, 3) := by decide +kernel
theorem dX11_count_180 : decode cX11_count 180 = .ok (.ireturn, 1) := by decide +kernel
theorem dX11_count_181 : decode cX11_count 181 = .ok (.aload_n 0, 1) := by decide +kernel
theorem dX11_count_182 : decode cX11_count 182 = .ok (.getfield 19, 3) := by decide +kernel
theorem dX11_count_185 : decode cX11_count 185 = .ok (.getfield 47, 3) := by decide +kernel
theorem dX11_count_188 : decode cX11_count 188 = .ok (.invokevirtual 310, 3) := by decide +kernel
theorem dX11_count_191 : decode cX11_count 191 = .ok (.ireturn, 1) := by decide +kernel
theorem dX11_count_192 : decode cX11_count 192 = .ok (.aload_n 0, 1) := by decide +kernel
theorem dX11_count_193 : decode cX11_count 193 = .ok (.getfield 19, 3) := by decide +kernel
theorem dX11_count_196 : decode cX11_count 196 = .ok (.getfield 281, 3) := by decide +kernel
theorem dX11_count_199 : decode cX11_count 199 = .ok (.getfield 285, 3) := by decide +kernel
theorem dX11_count_202 : decode cX11_count 202 = .ok (.ireturn, 1) := by decide +kernel
theorem dX11_count_203 : decode cX11_count 203 = .ok (.aload_n 0, 1) := by decide +kernel
theorem dX11_count_204 : decode cX11_count 204 = .ok (.getfield 19, 3) := by decide +kernel
theorem dX11_count_207 : decode cX11_count 207 = .ok (.getfield 219, 3) := by decide +kernel
theorem dX11_count_210 : decode cX11_count 210 = .ok (.iload_n 1, 1) := by decide +kernel
theorem dX11_count_211 : decode cX11_count 211 = .ok (.invokevirtual 313, 3) := by decide +kernel
theorem dX11_count_214 : decode cX11_count 214 = .ok (.ireturn, 1) := by decide +kernel
noncomputable def E_X11_count : mE := (mX11_count, [(129, [(0, (.iload_n 1, 1, false, false, 1, 0, 0, 0, 0, 0, [])), (1, (.tableswitch 202 0 17 #[87, 95, 202, 202, 105, 116, 127, 139, 151, 162, 202, 202, 202, 202, 180, 202, 202, 191], 0, false, false, 203, 0, 0, 0, 0, 0, [(0, 88), (1, 96), (2, 203), (3, 203), (4, 106), (5, 117), (6, 128), (7, 140), (8, 152), (9, 163), (10, 203), (11, 203), (12, 203), (13, 203), (14, 181), (15, 203), (16, 203), (17, 192)])), (88, (.aload_n 0, 89, false, false, 0, 0, 0, 0, 0, 0, [])), (89, (.getfield 19, 92, false, false, 14, 1, 1, 0, 0, 0, [])), (92, (.getfield 74, 95, false, false, 3, 7, 0, 0, 0, 0, [])), (95, (.ireturn, 96, false, false, 0, 0, 0, 0, 0, 0, [])), (96, (.aload_n 0, 97, false, false, 0, 0, 0, 0, 0, 0, [])), (97, (.getfield 19, 100, false, false, 14, 1, 1, 0, 0, 0, [])), (100, (.getfield 74, 103, false, false, 3, 7, 0, 0, 0, 0, [])), (103, (.iconst 4, 104, false, false, 0, 0, 0, 0, 4, 0, [])), (104, (.idiv, 105, false, false, 0, 0, 0, 0, 0, 0, [])), (105, (.ireturn, 106, false, false, 0, 0, 0, 0, 0, 0, [])), (106, (.aload_n 0, 107, false, false, 0, 0, 0, 0, 0, 0, [])), (107, (.getfield 19, 110, false, false, 14, 1, 1, 0, 0, 0, [])), (110, (.getfield 111, 113, false, false, 3, 2, 1, 0, 0, 0, [])), (113, (.getfield 300, 116, false, false, 4, 0, 0, 0, 0, 0, [])), (116, (.ireturn, 117, false, false, 0, 0, 0, 0, 0, 0, [])), (117, (.aload_n 0, 118, false, false, 0, 0, 0, 0, 0, 0, [])), (118, (.getfield 19, 121, false, false, 14, 1, 1, 0, 0, 0, [])), (121, (.getfield 111, 124, false, false, 3, 2, 1, 0, 0, 0, [])), (124, (.invokevirtual 301, 127, false, false, 377, 0, 1, 4, 0, 0, [])), (127, (.ireturn, 128, false, false, 0, 0, 0, 0, 0, 0, [])), (128, (.aload_n 0, 129, false, false, 0, 0, 0, 0, 0, 0, [])), (129, (.getfield 19, 132, false, false, 14, 1, 1, 0, 0, 0, []))]),
  (181, [(132, (.getfield 111, 135, false, false, 3, 2, 1, 0, 0, 0, [])), (135, (.iconst 3, 136, false, false, 0, 0, 0, 0, 3, 0, [])), (136, (.invokevirtual 304, 139, false, false, 378, 1, 1, 4, 0, 0, [])), (139, (.ireturn, 140, false, false, 0, 0, 0, 0, 0, 0, [])), (140, (.aload_n 0, 141, false, false, 0, 0, 0, 0, 0, 0, [])), (141, (.getfield 19, 144, false, false, 14, 1, 1, 0, 0, 0, [])), (144, (.getfield 111, 147, false, false, 3, 2, 1, 0, 0, 0, [])), (147, (.iconst 4, 148, false, false, 0, 0, 0, 0, 4, 0, [])), (148, (.invokevirtual 304, 151, false, false, 378, 1, 1, 4, 0, 0, [])), (151, (.ireturn, 152, false, false, 0, 0, 0, 0, 0, 0, [])), (152, (.aload_n 0, 153, false, false, 0, 0, 0, 0, 0, 0, [])), (153, (.getfield 19, 156, false, false, 14, 1, 1, 0, 0, 0, [])), (156, (.getfield 171, 159, false, false, 3, 0, 1, 0, 0, 0, [])), (159, (.getfield 175, 162, false, false, 12, 0, 0, 0, 0, 0, [])), (162, (.ireturn, 163, false, false, 0, 0, 0, 0, 0, 0, [])), (163, (.aload_n 0, 164, false, false, 0, 0, 0, 0, 0, 0, [])), (164, (.getfield 19, 167, false, false, 14, 1, 1, 0, 0, 0, [])), (167, (.getfield 171, 170, false, false, 3, 0, 1, 0, 0, 0, [])), (170, (.aload_n 0, 171, false, false, 0, 0, 0, 0, 0, 0, [])), (171, (.getfield 19, 174, false, false, 14, 1, 1, 0, 0, 0, [])), (174, (.getfield 74, 177, false, false, 3, 7, 0, 0, 0, 0, [])), (177, (.invokevirtual 307, 180, false, false, 380, 1, 1, 12, 0, 0, [])), (180, (.ireturn, 181, false, false, 0, 0, 0, 0, 0, 0, [])), (181, (.aload_n 0, 182, false, false, 0, 0, 0, 0, 0, 0, []))]),
  (214, [(182, (.getfield 19, 185, false, false, 14, 1, 1, 0, 0, 0, [])), (185, (.getfield 47, 188, false, false, 3, 1, 1, 0, 0, 0, [])), (188, (.invokevirtual 310, 191, false, false, 381, 0, 1, 5, 0, 0, [])), (191, (.ireturn, 192, false, false, 0, 0, 0, 0, 0, 0, [])), (192, (.aload_n 0, 193, false, false, 0, 0, 0, 0, 0, 0, [])), (193, (.getfield 19, 196, false, false, 14, 1, 1, 0, 0, 0, [])), (196, (.getfield 281, 199, false, false, 3, 6, 1, 0, 0, 0, [])), (199, (.getfield 285, 202, false, false, 10, 0, 0, 0, 0, 0, [])), (202, (.ireturn, 203, false, false, 0, 0, 0, 0, 0, 0, [])), (203, (.aload_n 0, 204, false, false, 0, 0, 0, 0, 0, 0, [])), (204, (.getfield 19, 207, false, false, 14, 1, 1, 0, 0, 0, [])), (207, (.getfield 219, 210, false, false, 3, 4, 1, 0, 0, 0, [])), (210, (.iload_n 1, 211, false, false, 1, 0, 0, 0, 0, 0, [])), (211, (.invokevirtual 313, 214, false, false, 382, 1, 1, 6, 0, 0, [])), (214, (.ireturn, 215, false, false, 0, 0, 0, 0, 0, 0, []))])], 0, [])
set_option maxRecDepth 100000 in
theorem v_X11_count : VE MYT dflT E_X11_count := ⟨⟨⟨⟨⟨dX11_count_0, rfl⟩, rfl⟩, ⟨⟨_, dX11_count_1⟩, ⟨rfl, rfl, rfl, rfl, rfl, rfl, rfl, rfl, rfl, rfl, rfl, rfl, rfl, rfl, rfl, rfl, rfl, rfl, rfl, rfl, rfl, rfl, rfl, rfl, rfl, rfl, rfl, rfl, rfl, rfl, rfl, rfl, rfl, rfl, rfl, rfl, rfl, rfl, trivial⟩⟩, ⟨⟨dX11_count_88, rfl⟩, rfl⟩, ⟨⟨dX11_count_89, rfl⟩, Or.inl ⟨by decide, _, _, fX11_19⟩⟩, ⟨⟨dX11_count_92, rfl⟩, Or.inl ⟨by decide, _, _, fX11_74⟩⟩, ⟨⟨dX11_count_95, rfl⟩, Or.inl ⟨rfl, rfl⟩⟩, ⟨⟨dX11_count_96, rfl⟩, rfl⟩, ⟨⟨dX11_count_97, rfl⟩, Or.inl ⟨by decide, _, _, fX11_19⟩⟩, ⟨⟨dX11_count_100, rfl⟩, Or.inl ⟨by decide, _, _, fX11_74⟩⟩, ⟨⟨dX11_count_103, rfl⟩, rfl⟩, ⟨⟨dX11_count_104, rfl⟩, trivial⟩, ⟨⟨dX11_count_105, rfl⟩, Or.inl ⟨rfl, rfl⟩⟩, ⟨⟨dX11_count_106, rfl⟩, rfl⟩, ⟨⟨dX11_count_107, rfl⟩, Or.inl ⟨by decide, _, _, fX11_19⟩⟩, ⟨⟨dX11_count_110, rfl⟩, Or.inl ⟨by decide, _, _, fX11_111⟩⟩, ⟨⟨dX11_count_113, rfl⟩, Or.inl ⟨by decide, _, _, fX11_300⟩⟩, ⟨⟨dX11_count_116, rfl⟩, Or.inl ⟨rfl, rfl⟩⟩, ⟨⟨dX11_count_117, rfl⟩, rfl⟩, ⟨⟨dX11_count_118, rfl⟩, Or.inl ⟨by decide, _, _, fX11_19⟩⟩, ⟨⟨dX11_count_121, rfl⟩, Or.inl ⟨by decide, _, _, fX11_111⟩⟩, ⟨⟨dX11_count_124, rfl⟩, Or.inr ⟨by decide, ⟨_, my_377, sX11_301⟩, fun q => absurd q (by decide)⟩⟩, ⟨⟨dX11_count_127, rfl⟩, Or.inl ⟨rfl, rfl⟩⟩, ⟨⟨dX11_count_128, rfl⟩, rfl⟩, ⟨⟨dX11_count_129, rfl⟩, Or.inl ⟨by decide, _, _, fX11_19⟩⟩, trivial⟩,
  ⟨⟨⟨dX11_count_132, rfl⟩, Or.inl ⟨by decide, _, _, fX11_111⟩⟩, ⟨⟨dX11_count_135, rfl⟩, rfl⟩, ⟨⟨dX11_count_136, rfl⟩, Or.inr ⟨by decide, ⟨_, my_378, sX11_304⟩, fun q => absurd q (by decide)⟩⟩, ⟨⟨dX11_count_139, rfl⟩, Or.inl ⟨rfl, rfl⟩⟩, ⟨⟨dX11_count_140, rfl⟩, rfl⟩, ⟨⟨dX11_count_141, rfl⟩, Or.inl ⟨by decide, _, _, fX11_19⟩⟩, ⟨⟨dX11_count_144, rfl⟩, Or.inl ⟨by decide, _, _, fX11_111⟩⟩, ⟨⟨dX11_count_147, rfl⟩, rfl⟩, ⟨⟨dX11_count_148, rfl⟩, Or.inr ⟨by decide, ⟨_, my_378, sX11_304⟩, fun q => absurd q (by decide)⟩⟩, ⟨⟨dX11_count_151, rfl⟩, Or.inl ⟨rfl, rfl⟩⟩, ⟨⟨dX11_count_152, rfl⟩, rfl⟩, ⟨⟨dX11_count_153, rfl⟩, Or.inl ⟨by decide, _, _, fX11_19⟩⟩, ⟨⟨dX11_count_156, rfl⟩, Or.inl ⟨by decide, _, _, fX11_171⟩⟩, ⟨⟨dX11_count_159, rfl⟩, Or.inl ⟨by decide, _, _, fX11_175⟩⟩, ⟨⟨dX11_count_162, rfl⟩, Or.inl ⟨rfl, rfl⟩⟩, ⟨⟨dX11_count_163, rfl⟩, rfl⟩, ⟨⟨dX11_count_164, rfl⟩, Or.inl ⟨by decide, _, _, fX11_19⟩⟩, ⟨⟨dX11_count_167, rfl⟩, Or.inl ⟨by decide, _, _, fX11_171⟩⟩, ⟨⟨dX11_count_170, rfl⟩, rfl⟩, ⟨⟨dX11_count_171, rfl⟩, Or.inl ⟨by decide, _, _, fX11_19⟩⟩, ⟨⟨dX11_count_174, rfl⟩, Or.inl ⟨by decide, _, _, fX11_74⟩⟩, ⟨⟨dX11_count_177, rfl⟩, Or.inr ⟨by decide, ⟨_, my_380, sX11_307⟩, fun q => absurd q (by decide)⟩⟩, ⟨⟨dX11_count_180, rfl⟩, Or.inl ⟨rfl, rfl⟩⟩, ⟨⟨dX11_count_181, rfl⟩, rfl⟩, trivial⟩,
  ⟨⟨⟨dX11_count_182, rfl⟩, Or.inl ⟨by decide, _, _, fX11_19⟩⟩, ⟨⟨dX11_count_185, rfl⟩, Or.inl ⟨by decide, _, _, fX11_47⟩⟩, ⟨⟨dX11_count_188, rfl⟩, Or.inr ⟨by decide, ⟨_, my_381, sX11_310⟩, fun q => absurd q (by decide)⟩⟩, ⟨⟨dX11_count_191, rfl⟩, Or.inl ⟨rfl, rfl⟩⟩, ⟨⟨dX11_count_192, rfl⟩, rfl⟩, ⟨⟨dX11_count_193, rfl⟩, Or.inl ⟨by decide, _, _, fX11_19⟩⟩, ⟨⟨dX11_count_196, rfl⟩, Or.inl ⟨by decide, _, _, fX11_281⟩⟩, ⟨⟨dX11_count_199, rfl⟩, Or.inl ⟨by decide, _, _, fX11_285⟩⟩, ⟨⟨dX11_count_202, rfl⟩, Or.inl ⟨rfl, rfl⟩⟩, ⟨⟨dX11_count_203, rfl⟩, rfl⟩, ⟨⟨dX11_count_204, rfl⟩, Or.inl ⟨by decide, _, _, fX11_19⟩⟩, ⟨⟨dX11_count_207, rfl⟩, Or.inl ⟨by decide, _, _, fX11_219⟩⟩, ⟨⟨dX11_count_210, rfl⟩, rfl⟩, ⟨⟨dX11_count_211, rfl⟩, Or.inr ⟨by decide, ⟨_, my_382, sX11_313⟩, fun q => absurd q (by decide)⟩⟩, ⟨⟨dX11_count_214, rfl⟩, Or.inl ⟨rfl, rfl⟩⟩, trivial⟩, trivial⟩, by decide, Or.inl ⟨rfl, by decide, rfl⟩⟩
set_option maxRecDepth 100000 in
theorem g_X11_count_0 (S : sT) (call : cT) (n : Nat) (a0 : Nat) (x1 : Int32) (h : pH) : bd S call dflT E_X11_count (n + 1) 0 [some (.ref a0), some (.int x1)] [] h = ((if x1 = 0 then bd S call dflT E_X11_count n 88 [some (.ref a0), some (.int x1)] [] h else (if x1 = 1 then bd S call dflT E_X11_count n 96 [some (.ref a0), some (.int x1)] [] h else (if x1 = 2 then bd S call dflT E_X11_count n 203 [some (.ref a0), some (.int x1)] [] h else (if x1 = 3 then bd S call dflT E_X11_count n 203 [some (.ref a0), some (.int x1)] [] h else (if x1 = 4 then bd S call dflT E_X11_count n 106 [some (.ref a0), some (.int x1)] [] h else (if x1 = 5 then bd S call dflT E_X11_count n 117 [some (.ref a0), some (.int x1)] [] h else (if x1 = 6 then bd S call dflT E_X11_count n 128 [some (.ref a0), some (.int x1)] [] h else (if x1 = 7 then bd S call dflT E_X11_count n 140 [some (.ref a0), some (.int x1)] [] h else (if x1 = 8 then bd S call dflT E_X11_count n 152 [some (.ref a0), some (.int x1)] [] h else (if x1 = 9 then bd S call dflT E_X11_count n 163 [some (.ref a0), some (.int x1)] [] h else (if x1 = 10 then bd S call dflT E_X11_count n 203 [some (.ref a0), some (.int x1)] [] h else (if x1 = 11 then bd S call dflT E_X11_count n 203 [some (.ref a0), some (.int x1)] [] h else (if x1 = 12 then bd S call dflT E_X11_count n 203 [some (.ref a0), some (.int x1)] [] h else (if x1 = 13 then bd S call dflT E_X11_count n 203 [some (.ref a0), some (.int x1)] [] h else (if x1 = 14 then bd S call dflT E_X11_count n 181 [some (.ref a0), some (.int x1)] [] h else (if x1 = 15 then bd S call dflT E_X11_count n 203 [some (.ref a0), some (.int x1)] [] h else (if x1 = 16 then bd S call dflT E_X11_count n 203 [some (.ref a0), some (.int x1)] [] h else (if x1 = 17 then bd S call dflT E_X11_count n 192 [some (.ref a0), some (.int x1)] [] h else bd S call dflT E_X11_count n 203 [some (.ref a0), some (.int x1)] [] h))))))))))))))))))) := rfl
set_option maxRecDepth 100000 in
theorem g_X11_count_88 (S : sT) (call : cT) (n : Nat) (a0 : Nat) (x1 : Int32) (h : pH) : bd S call dflT E_X11_count (n + 1) 88 [some (.ref a0), some (.int x1)] [] h = (gV h (.ref a0) 14 1 (fun w1 => gI h w1 3 7 (fun y2 => some (.inl (some (.int y2)), h)))) := rfl
set_option maxRecDepth 100000 in
theorem g_X11_count_96 (S : sT) (call : cT) (n : Nat) (a0 : Nat) (x1 : Int32) (h : pH) : bd S call dflT E_X11_count (n + 1) 96 [some (.ref a0), some (.int x1)] [] h = (gV h (.ref a0) 14 1 (fun w1 => gI h w1 3 7 (fun y2 => dv 4 (some (.inl (some (.int (y2 / 4))), h))))) := rfl
set_option maxRecDepth 100000 in
theorem g_X11_count_106 (S : sT) (call : cT) (n : Nat) (a0 : Nat) (x1 : Int32) (h : pH) : bd S call dflT E_X11_count (n + 1) 106 [some (.ref a0), some (.int x1)] [] h = (gV h (.ref a0) 14 1 (fun w1 => gV h w1 3 2 (fun w2 => gI h w2 4 0 (fun y3 => some (.inl (some (.int y3)), h))))) := rfl
set_option maxRecDepth 100000 in
theorem g_X11_count_117 (S : sT) (call : cT) (n : Nat) (a0 : Nat) (x1 : Int32) (h : pH) : bd S call dflT E_X11_count (n + 1) 117 [some (.ref a0), some (.int x1)] [] h = (gV h (.ref a0) 14 1 (fun w1 => gV h w1 3 2 (fun w2 => rC h w2 4 (cI (call 377 [w2] h) (fun y4 h3 => some (.inl (some (.int y4)), h3)))))) := rfl
set_option maxRecDepth 100000 in
theorem g_X11_count_128 (S : sT) (call : cT) (n : Nat) (a0 : Nat) (x1 : Int32) (h : pH) : bd S call dflT E_X11_count (n + 1) 128 [some (.ref a0), some (.int x1)] [] h = (gV h (.ref a0) 14 1 (fun w1 => gV h w1 3 2 (fun w2 => rC h w2 4 (cI (call 378 [w2, .int 3] h) (fun y4 h3 => some (.inl (some (.int y4)), h3)))))) := rfl
set_option maxRecDepth 100000 in
theorem g_X11_count_140 (S : sT) (call : cT) (n : Nat) (a0 : Nat) (x1 : Int32) (h : pH) : bd S call dflT E_X11_count (n + 1) 140 [some (.ref a0), some (.int x1)] [] h = (gV h (.ref a0) 14 1 (fun w1 => gV h w1 3 2 (fun w2 => rC h w2 4 (cI (call 378 [w2, .int 4] h) (fun y4 h3 => some (.inl (some (.int y4)), h3)))))) := rfl
set_option maxRecDepth 100000 in
theorem g_X11_count_152 (S : sT) (call : cT) (n : Nat) (a0 : Nat) (x1 : Int32) (h : pH) : bd S call dflT E_X11_count (n + 1) 152 [some (.ref a0), some (.int x1)] [] h = (gV h (.ref a0) 14 1 (fun w1 => gV h w1 3 0 (fun w2 => gI h w2 12 0 (fun y3 => some (.inl (some (.int y3)), h))))) := rfl
set_option maxRecDepth 100000 in
theorem g_X11_count_163 (S : sT) (call : cT) (n : Nat) (a0 : Nat) (x1 : Int32) (h : pH) : bd S call dflT E_X11_count (n + 1) 163 [some (.ref a0), some (.int x1)] [] h = (gV h (.ref a0) 14 1 (fun w1 => gV h w1 3 0 (fun w2 => gV h (.ref a0) 14 1 (fun w3 => gI h w3 3 7 (fun y4 => rC h w2 12 (cI (call 380 [w2, .int y4] h) (fun y6 h5 => some (.inl (some (.int y6)), h5)))))))) := rfl
set_option maxRecDepth 100000 in
theorem g_X11_count_181 (S : sT) (call : cT) (n : Nat) (a0 : Nat) (x1 : Int32) (h : pH) : bd S call dflT E_X11_count (n + 1) 181 [some (.ref a0), some (.int x1)] [] h = (gV h (.ref a0) 14 1 (fun w1 => gV h w1 3 1 (fun w2 => rC h w2 5 (cI (call 381 [w2] h) (fun y4 h3 => some (.inl (some (.int y4)), h3)))))) := rfl
set_option maxRecDepth 100000 in
theorem g_X11_count_192 (S : sT) (call : cT) (n : Nat) (a0 : Nat) (x1 : Int32) (h : pH) : bd S call dflT E_X11_count (n + 1) 192 [some (.ref a0), some (.int x1)] [] h = (gV h (.ref a0) 14 1 (fun w1 => gV h w1 3 6 (fun w2 => gI h w2 10 0 (fun y3 => some (.inl (some (.int y3)), h))))) := rfl
set_option maxRecDepth 100000 in
theorem g_X11_count_203 (S : sT) (call : cT) (n : Nat) (a0 : Nat) (x1 : Int32) (h : pH) : bd S call dflT E_X11_count (n + 1) 203 [some (.ref a0), some (.int x1)] [] h = (gV h (.ref a0) 14 1 (fun w1 => gV h w1 3 4 (fun w2 => rC h w2 6 (cI (call 382 [w2, .int x1] h) (fun y4 h3 => some (.inl (some (.int y4)), h3)))))) := rfl
