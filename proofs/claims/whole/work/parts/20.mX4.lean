/-! by program: methods as data, that they are right, what their bodies do -/
theorem dX4_init_0 : decode cX4_init 0 = .ok (.aload_n 0, 1) := by decide +kernel
theorem dX4_init_1 : decode cX4_init 1 = .ok (.invokespecial 3, 3) := by decide +kernel
theorem dX4_init_4 : decode cX4_init 4 = .ok (.aload_n 0, 1) := by decide +kernel
theorem dX4_init_5 : decode cX4_init 5 = .ok (.bipush 101, 2) := by decide +kernel
theorem dX4_init_7 : decode cX4_init 7 = .ok (.newarray .int, 2) := by decide +kernel
theorem dX4_init_9 : decode cX4_init 9 = .ok (.putfield 9, 3) := by decide +kernel
theorem dX4_init_12 : decode cX4_init 12 = .ok (.aload_n 0, 1) := by decide +kernel
theorem dX4_init_13 : decode cX4_init 13 = .ok (.sipush 200, 3) := by decide +kernel
theorem dX4_init_16 : decode cX4_init 16 = .ok (.newarray .int, 2) := by decide +kernel
theorem dX4_init_18 : decode cX4_init 18 = .ok (.putfield 15, 3) := by decide +kernel
theorem dX4_init_21 : decode cX4_init 21 = .ok (.aload_n 0, 1) := by decide +kernel
theorem dX4_init_22 : decode cX4_init 22 = .ok (.sipush 200, 3) := by decide +kernel
theorem dX4_init_25 : decode cX4_init 25 = .ok (.newarray .int, 2) := by decide +kernel
theorem dX4_init_27 : decode cX4_init 27 = .ok (.putfield 18, 3) := by decide +kernel
theorem dX4_init_30 : decode cX4_init 30 = .ok (.aload_n 0, 1) := by decide +kernel
theorem dX4_init_31 : decode cX4_init 31 = .ok (.sipush 200, 3) := by decide +kernel
theorem dX4_init_34 : decode cX4_init 34 = .ok (.newarray .int, 2) := by decide +kernel
theorem dX4_init_36 : decode cX4_init 36 = .ok (.putfield 21, 3) := by decide +kernel
theorem dX4_init_39 : decode cX4_init 39 = .ok (.aload_n 0, 1) := by decide +kernel
theorem dX4_init_40 : decode cX4_init 40 = .ok (.sipush 200, 3) := by decide +kernel
theorem dX4_init_43 : decode cX4_init 43 = .ok (.newarray .int, 2) := by decide +kernel
theorem dX4_init_45 : decode cX4_init 45 = .ok (.putfield 24, 3) := by decide +kernel
theorem dX4_init_48 : decode cX4_init 48 = .ok (.return_, 1) := by decide +kernel
noncomputable def E_X4_init : mE := (mX4_init, [(48, [(0, (.aload_n 0, 1, false, false, 0, 0, 0, 0, 0, 0, [])), (1, (.invokespecial 3, 4, false, false, 0, 0, 0, 1, 0, 0, [])), (4, (.aload_n 0, 5, false, false, 0, 0, 0, 0, 0, 0, [])), (5, (.bipush 101, 7, false, false, 0, 0, 0, 0, 101, 0, [])), (7, (.newarray .int, 9, false, false, 0, 0, 0, 0, 0, 0, [])), (9, (.putfield 9, 12, false, false, 7, 1, 4, 0, 0, 0, [])), (12, (.aload_n 0, 13, false, false, 0, 0, 0, 0, 0, 0, [])), (13, (.sipush 200, 16, false, false, 0, 0, 0, 0, 200, 0, [])), (16, (.newarray .int, 18, false, false, 0, 0, 0, 0, 0, 0, [])), (18, (.putfield 15, 21, false, false, 7, 2, 4, 0, 0, 0, [])), (21, (.aload_n 0, 22, false, false, 0, 0, 0, 0, 0, 0, [])), (22, (.sipush 200, 25, false, false, 0, 0, 0, 0, 200, 0, [])), (25, (.newarray .int, 27, false, false, 0, 0, 0, 0, 0, 0, [])), (27, (.putfield 18, 30, false, false, 7, 3, 4, 0, 0, 0, [])), (30, (.aload_n 0, 31, false, false, 0, 0, 0, 0, 0, 0, [])), (31, (.sipush 200, 34, false, false, 0, 0, 0, 0, 200, 0, [])), (34, (.newarray .int, 36, false, false, 0, 0, 0, 0, 0, 0, [])), (36, (.putfield 21, 39, false, false, 7, 4, 4, 0, 0, 0, [])), (39, (.aload_n 0, 40, false, false, 0, 0, 0, 0, 0, 0, [])), (40, (.sipush 200, 43, false, false, 0, 0, 0, 0, 200, 0, [])), (43, (.newarray .int, 45, false, false, 0, 0, 0, 0, 0, 0, [])), (45, (.putfield 24, 48, false, false, 7, 5, 4, 0, 0, 0, [])), (48, (.return_, 49, false, false, 0, 0, 0, 0, 0, 0, []))])], 0, [])
set_option maxRecDepth 100000 in
theorem v_X4_init : VE MYT dflT E_X4_init := ⟨⟨⟨⟨⟨dX4_init_0, rfl⟩, rfl⟩, ⟨⟨dX4_init_1, rfl⟩, Or.inr ⟨rfl, oX4_3, o_1, o_2⟩⟩, ⟨⟨dX4_init_4, rfl⟩, rfl⟩, ⟨⟨dX4_init_5, rfl⟩, rfl⟩, ⟨⟨dX4_init_7, rfl⟩, Or.inl ⟨rfl, rfl, a_int⟩⟩, ⟨⟨dX4_init_9, rfl⟩, Or.inr (Or.inr (Or.inr (Or.inr ⟨rfl, ⟨_, (Or.inr ⟨_, rfl⟩), fX4_9⟩, rfl, rfl⟩)))⟩, ⟨⟨dX4_init_12, rfl⟩, rfl⟩, ⟨⟨dX4_init_13, rfl⟩, rfl⟩, ⟨⟨dX4_init_16, rfl⟩, Or.inl ⟨rfl, rfl, a_int⟩⟩, ⟨⟨dX4_init_18, rfl⟩, Or.inr (Or.inr (Or.inr (Or.inr ⟨rfl, ⟨_, (Or.inr ⟨_, rfl⟩), fX4_15⟩, rfl, rfl⟩)))⟩, ⟨⟨dX4_init_21, rfl⟩, rfl⟩, ⟨⟨dX4_init_22, rfl⟩, rfl⟩, ⟨⟨dX4_init_25, rfl⟩, Or.inl ⟨rfl, rfl, a_int⟩⟩, ⟨⟨dX4_init_27, rfl⟩, Or.inr (Or.inr (Or.inr (Or.inr ⟨rfl, ⟨_, (Or.inr ⟨_, rfl⟩), fX4_18⟩, rfl, rfl⟩)))⟩, ⟨⟨dX4_init_30, rfl⟩, rfl⟩, ⟨⟨dX4_init_31, rfl⟩, rfl⟩, ⟨⟨dX4_init_34, rfl⟩, Or.inl ⟨rfl, rfl, a_int⟩⟩, ⟨⟨dX4_init_36, rfl⟩, Or.inr (Or.inr (Or.inr (Or.inr ⟨rfl, ⟨_, (Or.inr ⟨_, rfl⟩), fX4_21⟩, rfl, rfl⟩)))⟩, ⟨⟨dX4_init_39, rfl⟩, rfl⟩, ⟨⟨dX4_init_40, rfl⟩, rfl⟩, ⟨⟨dX4_init_43, rfl⟩, Or.inl ⟨rfl, rfl, a_int⟩⟩, ⟨⟨dX4_init_45, rfl⟩, Or.inr (Or.inr (Or.inr (Or.inr ⟨rfl, ⟨_, (Or.inr ⟨_, rfl⟩), fX4_24⟩, rfl, rfl⟩)))⟩, ⟨⟨dX4_init_48, rfl⟩, rfl⟩, trivial⟩, trivial⟩, by decide, Or.inl ⟨rfl, by decide, rfl⟩⟩
set_option maxRecDepth 100000 in
theorem g_X4_init_0 (S : sT) (call : cT) (n : Nat) (a0 : Nat) (h : pH) : bd S call dflT E_X4_init (n + 1) 0 [some (.ref a0)] [] h = (mkI h 0 101 (fun h1 => pF h1 (.ref a0) 7 1 (.ref (List.length h)) (fun h2 => mkI h2 0 200 (fun h3 => pF h3 (.ref a0) 7 2 (.ref (List.length h2)) (fun h4 => mkI h4 0 200 (fun h5 => pF h5 (.ref a0) 7 3 (.ref (List.length h4)) (fun h6 => mkI h6 0 200 (fun h7 => pF h7 (.ref a0) 7 4 (.ref (List.length h6)) (fun h8 => mkI h8 0 200 (fun h9 => pF h9 (.ref a0) 7 5 (.ref (List.length h8)) (fun h10 => some (.inl none, h10)))))))))))) := rfl
theorem dX4_setRain_0 : decode cX4_setRain 0 = .ok (.aload_n 0, 1) := by decide +kernel
theorem dX4_setRain_1 : decode cX4_setRain 1 = .ok (.getfield 9, 3) := by decide +kernel
theorem dX4_setRain_4 : decode cX4_setRain 4 = .ok (.iload_n 1, 1) := by decide +kernel
theorem dX4_setRain_5 : decode cX4_setRain 5 = .ok (.iload_n 2, 1) := by decide +kernel
theorem dX4_setRain_6 : decode cX4_setRain 6 = .ok (.iastore, 1) := by decide +kernel
theorem dX4_setRain_7 : decode cX4_setRain 7 = .ok (.return_, 1) := by decide +kernel
noncomputable def E_X4_setRain : mE := (mX4_setRain, [(7, [(0, (.aload_n 0, 1, false, false, 0, 0, 0, 0, 0, 0, [])), (1, (.getfield 9, 4, false, false, 7, 1, 1, 0, 0, 0, [])), (4, (.iload_n 1, 5, false, false, 1, 0, 0, 0, 0, 0, [])), (5, (.iload_n 2, 6, false, false, 2, 0, 0, 0, 0, 0, [])), (6, (.iastore, 7, false, false, 0, 0, 0, 0, 0, 0, [])), (7, (.return_, 8, false, false, 0, 0, 0, 0, 0, 0, []))])], 0, [])
set_option maxRecDepth 100000 in
theorem v_X4_setRain : VE MYT dflT E_X4_setRain := ⟨⟨⟨⟨⟨dX4_setRain_0, rfl⟩, rfl⟩, ⟨⟨dX4_setRain_1, rfl⟩, Or.inl ⟨by decide, _, _, fX4_9⟩⟩, ⟨⟨dX4_setRain_4, rfl⟩, rfl⟩, ⟨⟨dX4_setRain_5, rfl⟩, rfl⟩, ⟨⟨dX4_setRain_6, rfl⟩, trivial⟩, ⟨⟨dX4_setRain_7, rfl⟩, rfl⟩, trivial⟩, trivial⟩, by decide, Or.inl ⟨rfl, by decide, rfl⟩⟩
set_option maxRecDepth 100000 in
theorem g_X4_setRain_0 (S : sT) (call : cT) (n : Nat) (a0 : Nat) (x1 : Int32) (x2 : Int32) (h : pH) : bd S call dflT E_X4_setRain (n + 1) 0 [some (.ref a0), some (.int x1), some (.int x2)] [] h = (gV h (.ref a0) 7 1 (fun w1 => sI h w1 0 x1 x2 (fun h2 => some (.inl none, h2)))) := rfl
theorem dX4_toldRain_0 : decode cX4_toldRain 0 = .ok (.iload_n 1, 1) := by decide +kernel
theorem dX4_toldRain_1 : decode cX4_toldRain 1 = .ok (.ifCond .lt 20, 3) := by decide +kernel
theorem dX4_toldRain_4 : decode cX4_toldRain 4 = .ok (.iload_n 1, 1) := by decide +kernel
theorem dX4_toldRain_5 : decode cX4_toldRain 5 = .ok (.bipush 100, 2) := by decide +kernel
theorem dX4_toldRain_7 : decode cX4_toldRain 7 = .ok (.if_icmp .gt 14, 3) := by decide +kernel
theorem dX4_toldRain_10 : decode cX4_toldRain 10 = .ok (.aload_n 0, 1) := by decide +kernel
theorem dX4_toldRain_11 : decode cX4_toldRain 11 = .ok (.getfield 9, 3) := by decide +kernel
theorem dX4_toldRain_14 : decode cX4_toldRain 14 = .ok (.iload_n 1, 1) := by decide +kernel
theorem dX4_toldRain_15 : decode cX4_toldRain 15 = .ok (.iaload, 1) := by decide +kernel
theorem dX4_toldRain_16 : decode cX4_toldRain 16 = .ok (.bipush 99, 2) := by decide +kernel
theorem dX4_toldRain_18 : decode cX4_toldRain 18 = .ok (.if_icmp .ne 7, 3) := by decide +kernel
theorem dX4_toldRain_21 : decode cX4_toldRain 21 = .ok (.iconst 0, 1) := by decide +kernel
theorem dX4_toldRain_22 : decode cX4_toldRain 22 = .ok (.goto 9, 3) := by decide +kernel
theorem dX4_toldRain_25 : decode cX4_toldRain 25 = .ok (.aload_n 0, 1) := by decide +kernel
theorem dX4_toldRain_26 : decode cX4_toldRain 26 = .ok (.getfield 9, 3) := by decide +kernel
theorem dX4_toldRain_29 : decode cX4_toldRain 29 = .ok (.iload_n 1, 1) := by decide +kernel
theorem dX4_toldRain_30 : decode cX4_toldRain 30 = .ok (.iaload, 1) := by decide +kernel
theorem dX4_toldRain_31 : decode cX4_toldRain 31 = .ok (.ireturn, 1) := by decide +kernel
noncomputable def E_X4_toldRain : mE := (mX4_toldRain, [(31, [(0, (.iload_n 1, 1, false, false, 1, 0, 0, 0, 0, 0, [])), (1, (.ifCond .lt 20, 4, false, false, 21, 0, 0, 0, 0, 0, [])), (4, (.iload_n 1, 5, false, false, 1, 0, 0, 0, 0, 0, [])), (5, (.bipush 100, 7, false, false, 0, 0, 0, 0, 100, 0, [])), (7, (.if_icmp .gt 14, 10, false, false, 21, 0, 0, 0, 0, 0, [])), (10, (.aload_n 0, 11, false, false, 0, 0, 0, 0, 0, 0, [])), (11, (.getfield 9, 14, false, false, 7, 1, 1, 0, 0, 0, [])), (14, (.iload_n 1, 15, false, false, 1, 0, 0, 0, 0, 0, [])), (15, (.iaload, 16, false, false, 0, 0, 0, 0, 0, 0, [])), (16, (.bipush 99, 18, false, false, 0, 0, 0, 0, 99, 0, [])), (18, (.if_icmp .ne 7, 21, false, false, 25, 0, 0, 0, 0, 0, [])), (21, (.iconst 0, 22, false, false, 0, 0, 0, 0, 0, 0, [])), (22, (.goto 9, 25, false, false, 31, 0, 0, 0, 0, 0, [])), (25, (.aload_n 0, 26, false, false, 0, 0, 0, 0, 0, 0, [])), (26, (.getfield 9, 29, false, false, 7, 1, 1, 0, 0, 0, [])), (29, (.iload_n 1, 30, false, false, 1, 0, 0, 0, 0, 0, [])), (30, (.iaload, 31, false, false, 0, 0, 0, 0, 0, 0, [])), (31, (.ireturn, 32, false, false, 0, 0, 0, 0, 0, 0, []))])], 0, [])
set_option maxRecDepth 100000 in
theorem v_X4_toldRain : VE MYT dflT E_X4_toldRain := ⟨⟨⟨⟨⟨dX4_toldRain_0, rfl⟩, rfl⟩, ⟨⟨dX4_toldRain_1, rfl⟩, rfl⟩, ⟨⟨dX4_toldRain_4, rfl⟩, rfl⟩, ⟨⟨dX4_toldRain_5, rfl⟩, rfl⟩, ⟨⟨dX4_toldRain_7, rfl⟩, rfl⟩, ⟨⟨dX4_toldRain_10, rfl⟩, rfl⟩, ⟨⟨dX4_toldRain_11, rfl⟩, Or.inl ⟨by decide, _, _, fX4_9⟩⟩, ⟨⟨dX4_toldRain_14, rfl⟩, rfl⟩, ⟨⟨dX4_toldRain_15, rfl⟩, trivial⟩, ⟨⟨dX4_toldRain_16, rfl⟩, rfl⟩, ⟨⟨dX4_toldRain_18, rfl⟩, rfl⟩, ⟨⟨dX4_toldRain_21, rfl⟩, rfl⟩, ⟨⟨dX4_toldRain_22, rfl⟩, rfl⟩, ⟨⟨dX4_toldRain_25, rfl⟩, rfl⟩, ⟨⟨dX4_toldRain_26, rfl⟩, Or.inl ⟨by decide, _, _, fX4_9⟩⟩, ⟨⟨dX4_toldRain_29, rfl⟩, rfl⟩, ⟨⟨dX4_toldRain_30, rfl⟩, trivial⟩, ⟨⟨dX4_toldRain_31, rfl⟩, Or.inl ⟨rfl, rfl⟩⟩, trivial⟩, trivial⟩, by decide, Or.inl ⟨rfl, by decide, rfl⟩⟩
set_option maxRecDepth 100000 in
theorem g_X4_toldRain_0 (S : sT) (call : cT) (n : Nat) (a0 : Nat) (x1 : Int32) (h : pH) : bd S call dflT E_X4_toldRain (n + 1) 0 [some (.ref a0), some (.int x1)] [] h = ((if x1 < 0 then some (.inl (some (.int 0)), h) else (if 100 < x1 then some (.inl (some (.int 0)), h) else gV h (.ref a0) 7 1 (fun w1 => aI h w1 0 x1 (fun y2 => (if y2 = 99 then some (.inl (some (.int 0)), h) else gV h (.ref a0) 7 1 (fun w3 => aI h w3 0 x1 (fun y4 => some (.inl (some (.int y4)), h))))))))) := rfl
theorem dX4_rainOf_0 : decode cX4_rainOf 0 = .ok (.iload_n 1, 1) := by decide +kernel
theorem dX4_rainOf_1 : decode cX4_rainOf 1 = .ok (.ifCond .lt 38, 3) := by decide +kernel
theorem dX4_rainOf_4 : decode cX4_rainOf 4 = .ok (.iload_n 1, 1) := by decide +kernel
theorem dX4_rainOf_5 : decode cX4_rainOf 5 = .ok (.bipush 100, 2) := by decide +kernel
theorem dX4_rainOf_7 : decode cX4_rainOf 7 = .ok (.if_icmp .gt 32, 3) := by decide +kernel
theorem dX4_rainOf_10 : decode cX4_rainOf 10 = .ok (.aload_n 0, 1) := by decide +kernel
theorem dX4_rainOf_11 : decode cX4_rainOf 11 = .ok (.getfield 9, 3) := by decide +kernel
theorem dX4_rainOf_14 : decode cX4_rainOf 14 = .ok (.iload_n 1, 1) := by decide +kernel
theorem dX4_rainOf_15 : decode cX4_rainOf 15 = .ok (.iaload, 1) := by decide +kernel
theorem dX4_rainOf_16 : decode cX4_rainOf 16 = .ok (.bipush 99, 2) := by decide +kernel
theorem dX4_rainOf_18 : decode cX4_rainOf 18 = .ok (.if_icmp .ne 21, 3) := by decide +kernel
theorem dX4_rainOf_21 : decode cX4_rainOf 21 = .ok (.aload_n 0, 1) := by decide +kernel
theorem dX4_rainOf_22 : decode cX4_rainOf 22 = .ok (.iload_n 1, 1) := by decide +kernel
theorem dX4_rainOf_23 : decode cX4_rainOf 23 = .ok (.iconst 1, 1) := by decide +kernel
theorem dX4_rainOf_24 : decode cX4_rainOf 24 = .ok (.isub, 1) := by decide +kernel
theorem dX4_rainOf_25 : decode cX4_rainOf 25 = .ok (.invokevirtual 37, 3) := by decide +kernel
theorem dX4_rainOf_28 : decode cX4_rainOf 28 = .ok (.aload_n 0, 1) := by decide +kernel
theorem dX4_rainOf_29 : decode cX4_rainOf 29 = .ok (.iload_n 1, 1) := by decide +kernel
theorem dX4_rainOf_30 : decode cX4_rainOf 30 = .ok (.iconst 1, 1) := by decide +kernel
theorem dX4_rainOf_31 : decode cX4_rainOf 31 = .ok (.iadd, 1) := by decide +kernel
theorem dX4_rainOf_32 : decode cX4_rainOf 32 = .ok (.invokevirtual 37, 3) := by decide +kernel
theorem dX4_rainOf_35 : decode cX4_rainOf 35 = .ok (.iadd, 1) := by decide +kernel
theorem dX4_rainOf_36 : decode cX4_rainOf 36 = .ok (.iconst 2, 1) := by decide +kernel
theorem dX4_rainOf_37 : decode cX4_rainOf 37 = .ok (.idiv, 1) := by decide +kernel
theorem dX4_rainOf_38 : decode cX4_rainOf 38 = .ok (.ireturn, 1) := by decide +kernel
theorem dX4_rainOf_39 : decode cX4_rainOf 39 = .ok (.aload_n 0, 1) := by decide +kernel
theorem dX4_rainOf_40 : decode cX4_rainOf 40 = .ok (.iload_n 1, 1) := by decide +kernel
theorem dX4_rainOf_41 : decode cX4_rainOf 41 = .ok (.invokevirtual 37, 3) := by decide +kernel
theorem dX4_rainOf_44 : decode cX4_rainOf 44 = .ok (.ireturn, 1) := by decide +kernel
noncomputable def E_X4_rainOf : mE := (mX4_rainOf, [(37, [(0, (.iload_n 1, 1, false, false, 1, 0, 0, 0, 0, 0, [])), (1, (.ifCond .lt 38, 4, false, false, 39, 0, 0, 0, 0, 0, [])), (4, (.iload_n 1, 5, false, false, 1, 0, 0, 0, 0, 0, [])), (5, (.bipush 100, 7, false, false, 0, 0, 0, 0, 100, 0, [])), (7, (.if_icmp .gt 32, 10, false, false, 39, 0, 0, 0, 0, 0, [])), (10, (.aload_n 0, 11, false, false, 0, 0, 0, 0, 0, 0, [])), (11, (.getfield 9, 14, false, false, 7, 1, 1, 0, 0, 0, [])), (14, (.iload_n 1, 15, false, false, 1, 0, 0, 0, 0, 0, [])), (15, (.iaload, 16, false, false, 0, 0, 0, 0, 0, 0, [])), (16, (.bipush 99, 18, false, false, 0, 0, 0, 0, 99, 0, [])), (18, (.if_icmp .ne 21, 21, false, false, 39, 0, 0, 0, 0, 0, [])), (21, (.aload_n 0, 22, false, false, 0, 0, 0, 0, 0, 0, [])), (22, (.iload_n 1, 23, false, false, 1, 0, 0, 0, 0, 0, [])), (23, (.iconst 1, 24, false, false, 0, 0, 0, 0, 1, 0, [])), (24, (.isub, 25, false, false, 0, 0, 0, 0, 0, 0, [])), (25, (.invokevirtual 37, 28, false, false, 38, 1, 1, 7, 0, 0, [])), (28, (.aload_n 0, 29, false, false, 0, 0, 0, 0, 0, 0, [])), (29, (.iload_n 1, 30, false, false, 1, 0, 0, 0, 0, 0, [])), (30, (.iconst 1, 31, false, false, 0, 0, 0, 0, 1, 0, [])), (31, (.iadd, 32, false, false, 0, 0, 0, 0, 0, 0, [])), (32, (.invokevirtual 37, 35, false, false, 38, 1, 1, 7, 0, 0, [])), (35, (.iadd, 36, false, false, 0, 0, 0, 0, 0, 0, [])), (36, (.iconst 2, 37, false, false, 0, 0, 0, 0, 2, 0, [])), (37, (.idiv, 38, false, false, 0, 0, 0, 0, 0, 0, []))]),
  (44, [(38, (.ireturn, 39, false, false, 0, 0, 0, 0, 0, 0, [])), (39, (.aload_n 0, 40, false, false, 0, 0, 0, 0, 0, 0, [])), (40, (.iload_n 1, 41, false, false, 1, 0, 0, 0, 0, 0, [])), (41, (.invokevirtual 37, 44, false, false, 38, 1, 1, 7, 0, 0, [])), (44, (.ireturn, 45, false, false, 0, 0, 0, 0, 0, 0, []))])], 0, [])
set_option maxRecDepth 100000 in
theorem v_X4_rainOf : VE MYT dflT E_X4_rainOf := ⟨⟨⟨⟨⟨dX4_rainOf_0, rfl⟩, rfl⟩, ⟨⟨dX4_rainOf_1, rfl⟩, rfl⟩, ⟨⟨dX4_rainOf_4, rfl⟩, rfl⟩, ⟨⟨dX4_rainOf_5, rfl⟩, rfl⟩, ⟨⟨dX4_rainOf_7, rfl⟩, rfl⟩, ⟨⟨dX4_rainOf_10, rfl⟩, rfl⟩, ⟨⟨dX4_rainOf_11, rfl⟩, Or.inl ⟨by decide, _, _, fX4_9⟩⟩, ⟨⟨dX4_rainOf_14, rfl⟩, rfl⟩, ⟨⟨dX4_rainOf_15, rfl⟩, trivial⟩, ⟨⟨dX4_rainOf_16, rfl⟩, rfl⟩, ⟨⟨dX4_rainOf_18, rfl⟩, rfl⟩, ⟨⟨dX4_rainOf_21, rfl⟩, rfl⟩, ⟨⟨dX4_rainOf_22, rfl⟩, rfl⟩, ⟨⟨dX4_rainOf_23, rfl⟩, rfl⟩, ⟨⟨dX4_rainOf_24, rfl⟩, trivial⟩, ⟨⟨dX4_rainOf_25, rfl⟩, Or.inr ⟨by decide, ⟨_, my_38, sX4_37⟩, fun q => absurd q (by decide)⟩⟩, ⟨⟨dX4_rainOf_28, rfl⟩, rfl⟩, ⟨⟨dX4_rainOf_29, rfl⟩, rfl⟩, ⟨⟨dX4_rainOf_30, rfl⟩, rfl⟩, ⟨⟨dX4_rainOf_31, rfl⟩, trivial⟩, ⟨⟨dX4_rainOf_32, rfl⟩, Or.inr ⟨by decide, ⟨_, my_38, sX4_37⟩, fun q => absurd q (by decide)⟩⟩, ⟨⟨dX4_rainOf_35, rfl⟩, trivial⟩, ⟨⟨dX4_rainOf_36, rfl⟩, rfl⟩, ⟨⟨dX4_rainOf_37, rfl⟩, trivial⟩, trivial⟩,
  ⟨⟨⟨dX4_rainOf_38, rfl⟩, Or.inl ⟨rfl, rfl⟩⟩, ⟨⟨dX4_rainOf_39, rfl⟩, rfl⟩, ⟨⟨dX4_rainOf_40, rfl⟩, rfl⟩, ⟨⟨dX4_rainOf_41, rfl⟩, Or.inr ⟨by decide, ⟨_, my_38, sX4_37⟩, fun q => absurd q (by decide)⟩⟩, ⟨⟨dX4_rainOf_44, rfl⟩, Or.inl ⟨rfl, rfl⟩⟩, trivial⟩, trivial⟩, by decide, Or.inl ⟨rfl, by decide, rfl⟩⟩
set_option maxRecDepth 100000 in
theorem g_X4_rainOf_0 (S : sT) (call : cT) (n : Nat) (a0 : Nat) (x1 : Int32) (h : pH) : bd S call dflT E_X4_rainOf (n + 1) 0 [some (.ref a0), some (.int x1)] [] h = ((if x1 < 0 then rC h (.ref a0) 7 (cI (call 38 [.ref a0, .int x1] h) (fun y2 h1 => some (.inl (some (.int y2)), h1))) else (if 100 < x1 then rC h (.ref a0) 7 (cI (call 38 [.ref a0, .int x1] h) (fun y4 h3 => some (.inl (some (.int y4)), h3))) else gV h (.ref a0) 7 1 (fun w5 => aI h w5 0 x1 (fun y6 => (if y6 = 99 then rC h (.ref a0) 7 (cI (call 38 [.ref a0, .int (x1 - 1)] h) (fun y10 h9 => rC h9 (.ref a0) 7 (cI (call 38 [.ref a0, .int (x1 + 1)] h9) (fun y12 h11 => dv 2 (some (.inl (some (.int ((y10 + y12) / 2))), h11)))))) else rC h (.ref a0) 7 (cI (call 38 [.ref a0, .int x1] h) (fun y8 h7 => some (.inl (some (.int y8)), h7))))))))) := rfl
theorem dX4_tell_0 : decode cX4_tell 0 = .ok (.aload_n 0, 1) := by decide +kernel
theorem dX4_tell_1 : decode cX4_tell 1 = .ok (.getfield 27, 3) := by decide +kernel
theorem dX4_tell_4 : decode cX4_tell 4 = .ok (.sipush 200, 3) := by decide +kernel
theorem dX4_tell_7 : decode cX4_tell 7 = .ok (.if_icmp .lt 5, 3) := by decide +kernel
theorem dX4_tell_10 : decode cX4_tell 10 = .ok (.iconst (-1), 1) := by decide +kernel
theorem dX4_tell_11 : decode cX4_tell 11 = .ok (.ireturn, 1) := by decide +kernel
theorem dX4_tell_12 : decode cX4_tell 12 = .ok (.aload_n 0, 1) := by decide +kernel
theorem dX4_tell_13 : decode cX4_tell 13 = .ok (.getfield 15, 3) := by decide +kernel
theorem dX4_tell_16 : decode cX4_tell 16 = .ok (.aload_n 0, 1) := by decide +kernel
theorem dX4_tell_17 : decode cX4_tell 17 = .ok (.getfield 27, 3) := by decide +kernel
theorem dX4_tell_20 : decode cX4_tell 20 = .ok (.iload_n 1, 1) := by decide +kernel
theorem dX4_tell_21 : decode cX4_tell 21 = .ok (.iastore, 1) := by decide +kernel
theorem dX4_tell_22 : decode cX4_tell 22 = .ok (.aload_n 0, 1) := by decide +kernel
theorem dX4_tell_23 : decode cX4_tell 23 = .ok (.getfield 18, 3) := by decide +kernel
theorem dX4_tell_26 : decode cX4_tell 26 = .ok (.aload_n 0, 1) := by decide +kernel
theorem dX4_tell_27 : decode cX4_tell 27 = .ok (.getfield 27, 3) := by decide +kernel
theorem dX4_tell_30 : decode cX4_tell 30 = .ok (.iload_n 2, 1) := by decide +kernel
theorem dX4_tell_31 : decode cX4_tell 31 = .ok (.iastore, 1) := by decide +kernel
theorem dX4_tell_32 : decode cX4_tell 32 = .ok (.aload_n 0, 1) := by decide +kernel
theorem dX4_tell_33 : decode cX4_tell 33 = .ok (.getfield 21, 3) := by decide +kernel
theorem dX4_tell_36 : decode cX4_tell 36 = .ok (.aload_n 0, 1) := by decide +kernel
theorem dX4_tell_37 : decode cX4_tell 37 = .ok (.getfield 27, 3) := by decide +kernel
theorem dX4_tell_40 : decode cX4_tell 40 = .ok (.iload_n 3, 1) := by decide +kernel
theorem dX4_tell_41 : decode cX4_tell 41 = .ok (.iastore, 1) := by decide +kernel
theorem dX4_tell_42 : decode cX4_tell 42 = .ok (.aload_n 0, 1) := by decide +kernel
theorem dX4_tell_43 : decode cX4_tell 43 = .ok (.getfield 24, 3) := by decide +kernel
theorem dX4_tell_46 : decode cX4_tell 46 = .ok (.aload_n 0, 1) := by decide +kernel
theorem dX4_tell_47 : decode cX4_tell 47 = .ok (.getfield 27, 3) := by decide +kernel
theorem dX4_tell_50 : decode cX4_tell 50 = .ok (.iload 4, 2) := by decide +kernel
theorem dX4_tell_52 : decode cX4_tell 52 = .ok (.iastore, 1) := by decide +kernel
theorem dX4_tell_53 : decode cX4_tell 53 = .ok (.aload_n 0, 1) := by decide +kernel
theorem dX4_tell_54 : decode cX4_tell 54 = .ok (.dup, 1) := by decide +kernel
theorem dX4_tell_55 : decode cX4_tell 55 = .ok (.getfield 27, 3) := by decide +kernel
theorem dX4_tell_58 : decode cX4_tell 58 = .ok (.iconst 1, 1) := by decide +kernel
theorem dX4_tell_59 : decode cX4_tell 59 = .ok (.iadd, 1) := by decide +kernel
theorem dX4_tell_60 : decode cX4_tell 60 = .ok (.putfield 27, 3) := by decide +kernel
theorem dX4_tell_63 : decode cX4_tell 63 = .ok (.aload_n 0, 1) := by decide +kernel
theorem dX4_tell_64 : decode cX4_tell 64 = .ok (.getfield 27, 3) := by decide +kernel
theorem dX4_tell_67 : decode cX4_tell 67 = .ok (.ireturn, 1) := by decide +kernel
noncomputable def E_X4_tell : mE := (mX4_tell, [(41, [(0, (.aload_n 0, 1, false, false, 0, 0, 0, 0, 0, 0, [])), (1, (.getfield 27, 4, false, false, 7, 0, 0, 0, 0, 0, [])), (4, (.sipush 200, 7, false, false, 0, 0, 0, 0, 200, 0, [])), (7, (.if_icmp .lt 5, 10, false, false, 12, 0, 0, 0, 0, 0, [])), (10, (.iconst (-1), 11, false, false, 0, 0, 0, 0, -1, 0, [])), (11, (.ireturn, 12, false, false, 0, 0, 0, 0, 0, 0, [])), (12, (.aload_n 0, 13, false, false, 0, 0, 0, 0, 0, 0, [])), (13, (.getfield 15, 16, false, false, 7, 2, 1, 0, 0, 0, [])), (16, (.aload_n 0, 17, false, false, 0, 0, 0, 0, 0, 0, [])), (17, (.getfield 27, 20, false, false, 7, 0, 0, 0, 0, 0, [])), (20, (.iload_n 1, 21, false, false, 1, 0, 0, 0, 0, 0, [])), (21, (.iastore, 22, false, false, 0, 0, 0, 0, 0, 0, [])), (22, (.aload_n 0, 23, false, false, 0, 0, 0, 0, 0, 0, [])), (23, (.getfield 18, 26, false, false, 7, 3, 1, 0, 0, 0, [])), (26, (.aload_n 0, 27, false, false, 0, 0, 0, 0, 0, 0, [])), (27, (.getfield 27, 30, false, false, 7, 0, 0, 0, 0, 0, [])), (30, (.iload_n 2, 31, false, false, 2, 0, 0, 0, 0, 0, [])), (31, (.iastore, 32, false, false, 0, 0, 0, 0, 0, 0, [])), (32, (.aload_n 0, 33, false, false, 0, 0, 0, 0, 0, 0, [])), (33, (.getfield 21, 36, false, false, 7, 4, 1, 0, 0, 0, [])), (36, (.aload_n 0, 37, false, false, 0, 0, 0, 0, 0, 0, [])), (37, (.getfield 27, 40, false, false, 7, 0, 0, 0, 0, 0, [])), (40, (.iload_n 3, 41, false, false, 3, 0, 0, 0, 0, 0, [])), (41, (.iastore, 42, false, false, 0, 0, 0, 0, 0, 0, []))]),
  (67, [(42, (.aload_n 0, 43, false, false, 0, 0, 0, 0, 0, 0, [])), (43, (.getfield 24, 46, false, false, 7, 5, 1, 0, 0, 0, [])), (46, (.aload_n 0, 47, false, false, 0, 0, 0, 0, 0, 0, [])), (47, (.getfield 27, 50, false, false, 7, 0, 0, 0, 0, 0, [])), (50, (.iload 4, 52, false, false, 4, 0, 0, 0, 0, 0, [])), (52, (.iastore, 53, false, false, 0, 0, 0, 0, 0, 0, [])), (53, (.aload_n 0, 54, false, false, 0, 0, 0, 0, 0, 0, [])), (54, (.dup, 55, false, false, 0, 0, 0, 0, 0, 0, [])), (55, (.getfield 27, 58, false, false, 7, 0, 0, 0, 0, 0, [])), (58, (.iconst 1, 59, false, false, 0, 0, 0, 0, 1, 0, [])), (59, (.iadd, 60, false, false, 0, 0, 0, 0, 0, 0, [])), (60, (.putfield 27, 63, false, false, 7, 0, 0, 0, 0, 0, [])), (63, (.aload_n 0, 64, false, false, 0, 0, 0, 0, 0, 0, [])), (64, (.getfield 27, 67, false, false, 7, 0, 0, 0, 0, 0, [])), (67, (.ireturn, 68, false, false, 0, 0, 0, 0, 0, 0, []))])], 0, [])
set_option maxRecDepth 100000 in
theorem v_X4_tell : VE MYT dflT E_X4_tell := ⟨⟨⟨⟨⟨dX4_tell_0, rfl⟩, rfl⟩, ⟨⟨dX4_tell_1, rfl⟩, Or.inl ⟨by decide, _, _, fX4_27⟩⟩, ⟨⟨dX4_tell_4, rfl⟩, rfl⟩, ⟨⟨dX4_tell_7, rfl⟩, rfl⟩, ⟨⟨dX4_tell_10, rfl⟩, rfl⟩, ⟨⟨dX4_tell_11, rfl⟩, Or.inl ⟨rfl, rfl⟩⟩, ⟨⟨dX4_tell_12, rfl⟩, rfl⟩, ⟨⟨dX4_tell_13, rfl⟩, Or.inl ⟨by decide, _, _, fX4_15⟩⟩, ⟨⟨dX4_tell_16, rfl⟩, rfl⟩, ⟨⟨dX4_tell_17, rfl⟩, Or.inl ⟨by decide, _, _, fX4_27⟩⟩, ⟨⟨dX4_tell_20, rfl⟩, rfl⟩, ⟨⟨dX4_tell_21, rfl⟩, trivial⟩, ⟨⟨dX4_tell_22, rfl⟩, rfl⟩, ⟨⟨dX4_tell_23, rfl⟩, Or.inl ⟨by decide, _, _, fX4_18⟩⟩, ⟨⟨dX4_tell_26, rfl⟩, rfl⟩, ⟨⟨dX4_tell_27, rfl⟩, Or.inl ⟨by decide, _, _, fX4_27⟩⟩, ⟨⟨dX4_tell_30, rfl⟩, rfl⟩, ⟨⟨dX4_tell_31, rfl⟩, trivial⟩, ⟨⟨dX4_tell_32, rfl⟩, rfl⟩, ⟨⟨dX4_tell_33, rfl⟩, Or.inl ⟨by decide, _, _, fX4_21⟩⟩, ⟨⟨dX4_tell_36, rfl⟩, rfl⟩, ⟨⟨dX4_tell_37, rfl⟩, Or.inl ⟨by decide, _, _, fX4_27⟩⟩, ⟨⟨dX4_tell_40, rfl⟩, rfl⟩, ⟨⟨dX4_tell_41, rfl⟩, trivial⟩, trivial⟩,
  ⟨⟨⟨dX4_tell_42, rfl⟩, rfl⟩, ⟨⟨dX4_tell_43, rfl⟩, Or.inl ⟨by decide, _, _, fX4_24⟩⟩, ⟨⟨dX4_tell_46, rfl⟩, rfl⟩, ⟨⟨dX4_tell_47, rfl⟩, Or.inl ⟨by decide, _, _, fX4_27⟩⟩, ⟨⟨dX4_tell_50, rfl⟩, rfl⟩, ⟨⟨dX4_tell_52, rfl⟩, trivial⟩, ⟨⟨dX4_tell_53, rfl⟩, rfl⟩, ⟨⟨dX4_tell_54, rfl⟩, trivial⟩, ⟨⟨dX4_tell_55, rfl⟩, Or.inl ⟨by decide, _, _, fX4_27⟩⟩, ⟨⟨dX4_tell_58, rfl⟩, rfl⟩, ⟨⟨dX4_tell_59, rfl⟩, trivial⟩, ⟨⟨dX4_tell_60, rfl⟩, Or.inl ⟨rfl, fX4_27⟩⟩, ⟨⟨dX4_tell_63, rfl⟩, rfl⟩, ⟨⟨dX4_tell_64, rfl⟩, Or.inl ⟨by decide, _, _, fX4_27⟩⟩, ⟨⟨dX4_tell_67, rfl⟩, Or.inl ⟨rfl, rfl⟩⟩, trivial⟩, trivial⟩, by decide, Or.inl ⟨rfl, by decide, rfl⟩⟩
set_option maxRecDepth 100000 in
theorem g_X4_tell_0 (S : sT) (call : cT) (n : Nat) (a0 : Nat) (x1 : Int32) (x2 : Int32) (x3 : Int32) (x4 : Int32) (h : pH) : bd S call dflT E_X4_tell (n + 1) 0 [some (.ref a0), some (.int x1), some (.int x2), some (.int x3), some (.int x4)] [] h = (gI h (.ref a0) 7 0 (fun y1 => (if y1 < 200 then gV h (.ref a0) 7 2 (fun w2 => gI h (.ref a0) 7 0 (fun y3 => sI h w2 0 y3 x1 (fun h4 => gV h4 (.ref a0) 7 3 (fun w5 => gI h4 (.ref a0) 7 0 (fun y6 => sI h4 w5 0 y6 x2 (fun h7 => gV h7 (.ref a0) 7 4 (fun w8 => gI h7 (.ref a0) 7 0 (fun y9 => sI h7 w8 0 y9 x3 (fun h10 => gV h10 (.ref a0) 7 5 (fun w11 => gI h10 (.ref a0) 7 0 (fun y12 => sI h10 w11 0 y12 x4 (fun h13 => gI h13 (.ref a0) 7 0 (fun y14 => pF h13 (.ref a0) 7 0 (.int (y14 + 1)) (fun h15 => gI h15 (.ref a0) 7 0 (fun y16 => some (.inl (some (.int y16)), h15)))))))))))))))) else some (.inl (some (.int (-1))), h)))) := rfl
theorem dX4_priceAt_0 : decode cX4_priceAt 0 = .ok (.aload_n 0, 1) := by decide +kernel
theorem dX4_priceAt_1 : decode cX4_priceAt 1 = .ok (.getfield 27, 3) := by decide +kernel
theorem dX4_priceAt_4 : decode cX4_priceAt 4 = .ok (.iconst 1, 1) := by decide +kernel
theorem dX4_priceAt_5 : decode cX4_priceAt 5 = .ok (.isub, 1) := by decide +kernel
theorem dX4_priceAt_6 : decode cX4_priceAt 6 = .ok (.istore 4, 2) := by decide +kernel
theorem dX4_priceAt_8 : decode cX4_priceAt 8 = .ok (.iload 4, 2) := by decide +kernel
theorem dX4_priceAt_10 : decode cX4_priceAt 10 = .ok (.ifCond .lt 50, 3) := by decide +kernel
theorem dX4_priceAt_13 : decode cX4_priceAt 13 = .ok (.aload_n 0, 1) := by decide +kernel
theorem dX4_priceAt_14 : decode cX4_priceAt 14 = .ok (.getfield 15, 3) := by decide +kernel
theorem dX4_priceAt_17 : decode cX4_priceAt 17 = .ok (.iload 4, 2) := by decide +kernel
theorem dX4_priceAt_19 : decode cX4_priceAt 19 = .ok (.iaload, 1) := by decide +kernel
theorem dX4_priceAt_20 : decode cX4_priceAt 20 = .ok (.iload_n 1, 1) := by decide +kernel
theorem dX4_priceAt_21 : decode cX4_priceAt 21 = .ok (.if_icmp .ne 33, 3) := by decide +kernel
theorem dX4_priceAt_24 : decode cX4_priceAt 24 = .ok (.aload_n 0, 1) := by decide +kernel
theorem dX4_priceAt_25 : decode cX4_priceAt 25 = .ok (.getfield 18, 3) := by decide +kernel
theorem dX4_priceAt_28 : decode cX4_priceAt 28 = .ok (.iload 4, 2) := by decide +kernel
theorem dX4_priceAt_30 : decode cX4_priceAt 30 = .ok (.iaload, 1) := by decide +kernel
theorem dX4_priceAt_31 : decode cX4_priceAt 31 = .ok (.iload_n 2, 1) := by decide +kernel
theorem dX4_priceAt_32 : decode cX4_priceAt 32 = .ok (.if_icmp .ne 22, 3) := by decide +kernel
theorem dX4_priceAt_35 : decode cX4_priceAt 35 = .ok (.aload_n 0, 1) := by decide +kernel
theorem dX4_priceAt_36 : decode cX4_priceAt 36 = .ok (.getfield 24, 3) := by decide +kernel
theorem dX4_priceAt_39 : decode cX4_priceAt 39 = .ok (.iload 4, 2) := by decide +kernel
theorem dX4_priceAt_41 : decode cX4_priceAt 41 = .ok (.iaload, 1) := by decide +kernel
theorem dX4_priceAt_42 : decode cX4_priceAt 42 = .ok (.iload_n 3, 1) := by decide +kernel
theorem dX4_priceAt_43 : decode cX4_priceAt 43 = .ok (.if_icmp .gt 11, 3) := by decide +kernel
theorem dX4_priceAt_46 : decode cX4_priceAt 46 = .ok (.aload_n 0, 1) := by decide +kernel
theorem dX4_priceAt_47 : decode cX4_priceAt 47 = .ok (.getfield 21, 3) := by decide +kernel
theorem dX4_priceAt_50 : decode cX4_priceAt 50 = .ok (.iload 4, 2) := by decide +kernel
theorem dX4_priceAt_52 : decode cX4_priceAt 52 = .ok (.iaload, 1) := by decide +kernel
theorem dX4_priceAt_53 : decode cX4_priceAt 53 = .ok (.ireturn, 1) := by decide +kernel
theorem dX4_priceAt_54 : decode cX4_priceAt 54 = .ok (.iinc 4 (-1), 3) := by decide +kernel
theorem dX4_priceAt_57 : decode cX4_priceAt 57 = .ok (.goto (-49), 3) := by decide +kernel
theorem dX4_priceAt_60 : decode cX4_priceAt 60 = .ok (.bipush 10, 2) := by decide +kernel
theorem dX4_priceAt_62 : decode cX4_priceAt 62 = .ok (.ireturn, 1) := by decide +kernel
noncomputable def E_X4_priceAt : mE := (mX4_priceAt, [(42, [(0, (.aload_n 0, 1, false, false, 0, 0, 0, 0, 0, 0, [])), (1, (.getfield 27, 4, false, false, 7, 0, 0, 0, 0, 0, [])), (4, (.iconst 1, 5, false, false, 0, 0, 0, 0, 1, 0, [])), (5, (.isub, 6, false, false, 0, 0, 0, 0, 0, 0, [])), (6, (.istore 4, 8, true, false, 4, 0, 0, 0, 0, 0, [])), (8, (.iload 4, 10, false, false, 4, 0, 0, 0, 0, 0, [])), (10, (.ifCond .lt 50, 13, false, false, 60, 0, 0, 0, 0, 0, [])), (13, (.aload_n 0, 14, false, false, 0, 0, 0, 0, 0, 0, [])), (14, (.getfield 15, 17, false, false, 7, 2, 1, 0, 0, 0, [])), (17, (.iload 4, 19, false, false, 4, 0, 0, 0, 0, 0, [])), (19, (.iaload, 20, false, false, 0, 0, 0, 0, 0, 0, [])), (20, (.iload_n 1, 21, false, false, 1, 0, 0, 0, 0, 0, [])), (21, (.if_icmp .ne 33, 24, false, false, 54, 0, 0, 0, 0, 0, [])), (24, (.aload_n 0, 25, false, false, 0, 0, 0, 0, 0, 0, [])), (25, (.getfield 18, 28, false, false, 7, 3, 1, 0, 0, 0, [])), (28, (.iload 4, 30, false, false, 4, 0, 0, 0, 0, 0, [])), (30, (.iaload, 31, false, false, 0, 0, 0, 0, 0, 0, [])), (31, (.iload_n 2, 32, false, false, 2, 0, 0, 0, 0, 0, [])), (32, (.if_icmp .ne 22, 35, false, false, 54, 0, 0, 0, 0, 0, [])), (35, (.aload_n 0, 36, false, false, 0, 0, 0, 0, 0, 0, [])), (36, (.getfield 24, 39, false, false, 7, 5, 1, 0, 0, 0, [])), (39, (.iload 4, 41, false, false, 4, 0, 0, 0, 0, 0, [])), (41, (.iaload, 42, false, false, 0, 0, 0, 0, 0, 0, [])), (42, (.iload_n 3, 43, false, false, 3, 0, 0, 0, 0, 0, []))]),
  (62, [(43, (.if_icmp .gt 11, 46, false, false, 54, 0, 0, 0, 0, 0, [])), (46, (.aload_n 0, 47, false, false, 0, 0, 0, 0, 0, 0, [])), (47, (.getfield 21, 50, false, false, 7, 4, 1, 0, 0, 0, [])), (50, (.iload 4, 52, false, false, 4, 0, 0, 0, 0, 0, [])), (52, (.iaload, 53, false, false, 0, 0, 0, 0, 0, 0, [])), (53, (.ireturn, 54, false, false, 0, 0, 0, 0, 0, 0, [])), (54, (.iinc 4 (-1), 57, false, false, 4, 0, 0, 0, -1, 0, [])), (57, (.goto (-49), 60, false, true, 8, 0, 0, 0, 0, 0, [])), (60, (.bipush 10, 62, false, false, 0, 0, 0, 0, 10, 0, [])), (62, (.ireturn, 63, false, false, 0, 0, 0, 0, 0, 0, []))])], 0, [])
set_option maxRecDepth 100000 in
theorem v_X4_priceAt : VE MYT dflT E_X4_priceAt := ⟨⟨⟨⟨⟨dX4_priceAt_0, rfl⟩, rfl⟩, ⟨⟨dX4_priceAt_1, rfl⟩, Or.inl ⟨by decide, _, _, fX4_27⟩⟩, ⟨⟨dX4_priceAt_4, rfl⟩, rfl⟩, ⟨⟨dX4_priceAt_5, rfl⟩, trivial⟩, ⟨⟨dX4_priceAt_6, rfl⟩, rfl⟩, ⟨⟨dX4_priceAt_8, rfl⟩, rfl⟩, ⟨⟨dX4_priceAt_10, rfl⟩, rfl⟩, ⟨⟨dX4_priceAt_13, rfl⟩, rfl⟩, ⟨⟨dX4_priceAt_14, rfl⟩, Or.inl ⟨by decide, _, _, fX4_15⟩⟩, ⟨⟨dX4_priceAt_17, rfl⟩, rfl⟩, ⟨⟨dX4_priceAt_19, rfl⟩, trivial⟩, ⟨⟨dX4_priceAt_20, rfl⟩, rfl⟩, ⟨⟨dX4_priceAt_21, rfl⟩, rfl⟩, ⟨⟨dX4_priceAt_24, rfl⟩, rfl⟩, ⟨⟨dX4_priceAt_25, rfl⟩, Or.inl ⟨by decide, _, _, fX4_18⟩⟩, ⟨⟨dX4_priceAt_28, rfl⟩, rfl⟩, ⟨⟨dX4_priceAt_30, rfl⟩, trivial⟩, ⟨⟨dX4_priceAt_31, rfl⟩, rfl⟩, ⟨⟨dX4_priceAt_32, rfl⟩, rfl⟩, ⟨⟨dX4_priceAt_35, rfl⟩, rfl⟩, ⟨⟨dX4_priceAt_36, rfl⟩, Or.inl ⟨by decide, _, _, fX4_24⟩⟩, ⟨⟨dX4_priceAt_39, rfl⟩, rfl⟩, ⟨⟨dX4_priceAt_41, rfl⟩, trivial⟩, ⟨⟨dX4_priceAt_42, rfl⟩, rfl⟩, trivial⟩,
  ⟨⟨⟨dX4_priceAt_43, rfl⟩, rfl⟩, ⟨⟨dX4_priceAt_46, rfl⟩, rfl⟩, ⟨⟨dX4_priceAt_47, rfl⟩, Or.inl ⟨by decide, _, _, fX4_21⟩⟩, ⟨⟨dX4_priceAt_50, rfl⟩, rfl⟩, ⟨⟨dX4_priceAt_52, rfl⟩, trivial⟩, ⟨⟨dX4_priceAt_53, rfl⟩, Or.inl ⟨rfl, rfl⟩⟩, ⟨⟨dX4_priceAt_54, rfl⟩, ⟨rfl, rfl⟩⟩, ⟨⟨dX4_priceAt_57, rfl⟩, rfl⟩, ⟨⟨dX4_priceAt_60, rfl⟩, rfl⟩, ⟨⟨dX4_priceAt_62, rfl⟩, Or.inl ⟨rfl, rfl⟩⟩, trivial⟩, trivial⟩, by decide, Or.inl ⟨rfl, by decide, rfl⟩⟩
set_option maxRecDepth 100000 in
theorem g_X4_priceAt_0 (S : sT) (call : cT) (n : Nat) (a0 : Nat) (x1 : Int32) (x2 : Int32) (x3 : Int32) (h : pH) : bd S call dflT E_X4_priceAt (n + 1) 0 [some (.ref a0), some (.int x1), some (.int x2), some (.int x3), none] [] h = (gI h (.ref a0) 7 0 (fun y1 => bd S call dflT E_X4_priceAt n 8 [some (.ref a0), some (.int x1), some (.int x2), some (.int x3), some (.int (y1 - 1))] [] h)) := rfl
set_option maxRecDepth 100000 in
theorem g_X4_priceAt_8 (S : sT) (call : cT) (n : Nat) (a0 : Nat) (x1 : Int32) (x2 : Int32) (x3 : Int32) (x4 : Int32) (h : pH) : bd S call dflT E_X4_priceAt (n + 1) 8 [some (.ref a0), some (.int x1), some (.int x2), some (.int x3), some (.int x4)] [] h = ((if x4 < 0 then some (.inl (some (.int 10)), h) else gV h (.ref a0) 7 2 (fun w1 => aI h w1 0 x4 (fun y2 => (if y2 = x1 then gV h (.ref a0) 7 3 (fun w3 => aI h w3 0 x4 (fun y4 => (if y4 = x2 then gV h (.ref a0) 7 5 (fun w5 => aI h w5 0 x4 (fun y6 => (if x3 < y6 then bd S call dflT E_X4_priceAt n 8 [some (.ref a0), some (.int x1), some (.int x2), some (.int x3), some (.int (x4 + (-1)))] [] h else gV h (.ref a0) 7 4 (fun w7 => aI h w7 0 x4 (fun y8 => some (.inl (some (.int y8)), h)))))) else bd S call dflT E_X4_priceAt n 8 [some (.ref a0), some (.int x1), some (.int x2), some (.int x3), some (.int (x4 + (-1)))] [] h))) else bd S call dflT E_X4_priceAt n 8 [some (.ref a0), some (.int x1), some (.int x2), some (.int x3), some (.int (x4 + (-1)))] [] h))))) := rfl
theorem dX4_learnPrices_0 : decode cX4_learnPrices 0 = .ok (.iconst 1, 1) := by decide +kernel
theorem dX4_learnPrices_1 : decode cX4_learnPrices 1 = .ok (.istore_n 3, 1) := by decide +kernel
theorem dX4_learnPrices_2 : decode cX4_learnPrices 2 = .ok (.iload_n 3, 1) := by decide +kernel
theorem dX4_learnPrices_3 : decode cX4_learnPrices 3 = .ok (.iconst 5, 1) := by decide +kernel
theorem dX4_learnPrices_4 : decode cX4_learnPrices 4 = .ok (.if_icmp .ge 20, 3) := by decide +kernel
theorem dX4_learnPrices_7 : decode cX4_learnPrices 7 = .ok (.iload_n 3, 1) := by decide +kernel
theorem dX4_learnPrices_8 : decode cX4_learnPrices 8 = .ok (.aload_n 2, 1) := by decide +kernel
theorem dX4_learnPrices_9 : decode cX4_learnPrices 9 = .ok (.arraylength, 1) := by decide +kernel
theorem dX4_learnPrices_10 : decode cX4_learnPrices 10 = .ok (.if_icmp .ge 14, 3) := by decide +kernel
theorem dX4_learnPrices_13 : decode cX4_learnPrices 13 = .ok (.aload_n 2, 1) := by decide +kernel
theorem dX4_learnPrices_14 : decode cX4_learnPrices 14 = .ok (.iload_n 3, 1) := by decide +kernel
theorem dX4_learnPrices_15 : decode cX4_learnPrices 15 = .ok (.bipush 10, 2) := by decide +kernel
theorem dX4_learnPrices_17 : decode cX4_learnPrices 17 = .ok (.iastore, 1) := by decide +kernel
theorem dX4_learnPrices_18 : decode cX4_learnPrices 18 = .ok (.iinc 3 1, 3) := by decide +kernel
theorem dX4_learnPrices_21 : decode cX4_learnPrices 21 = .ok (.goto (-19), 3) := by decide +kernel
theorem dX4_learnPrices_24 : decode cX4_learnPrices 24 = .ok (.iconst 0, 1) := by decide +kernel
theorem dX4_learnPrices_25 : decode cX4_learnPrices 25 = .ok (.istore_n 3, 1) := by decide +kernel
theorem dX4_learnPrices_26 : decode cX4_learnPrices 26 = .ok (.iload_n 3, 1) := by decide +kernel
theorem dX4_learnPrices_27 : decode cX4_learnPrices 27 = .ok (.aload_n 0, 1) := by decide +kernel
theorem dX4_learnPrices_28 : decode cX4_learnPrices 28 = .ok (.getfield 27, 3) := by decide +kernel
theorem dX4_learnPrices_31 : decode cX4_learnPrices 31 = .ok (.if_icmp .ge 49, 3) := by decide +kernel
theorem dX4_learnPrices_34 : decode cX4_learnPrices 34 = .ok (.aload_n 0, 1) := by decide +kernel
theorem dX4_learnPrices_35 : decode cX4_learnPrices 35 = .ok (.getfield 15, 3) := by decide +kernel
theorem dX4_learnPrices_38 : decode cX4_learnPrices 38 = .ok (.iload_n 3, 1) := by decide +kernel
theorem dX4_learnPrices_39 : decode cX4_learnPrices 39 = .ok (.iaload, 1) := by decide +kernel
theorem dX4_learnPrices_40 : decode cX4_learnPrices 40 = .ok (.istore 4, 2) := by decide +kernel
theorem dX4_learnPrices_42 : decode cX4_learnPrices 42 = .ok (.aload_n 0, 1) := by decide +kernel
theorem dX4_learnPrices_43 : decode cX4_learnPrices 43 = .ok (.getfield 18, 3) := by decide +kernel
theorem dX4_learnPrices_46 : decode cX4_learnPrices 46 = .ok (.iload_n 3, 1) := by decide +kernel
theorem dX4_learnPrices_47 : decode cX4_learnPrices 47 = .ok (.iaload, 1) := by decide +kernel
theorem dX4_learnPrices_48 : decode cX4_learnPrices 48 = .ok (.iload_n 1, 1) := by decide +kernel
theorem dX4_learnPrices_49 : decode cX4_learnPrices 49 = .ok (.if_icmp .ne 25, 3) := by decide +kernel
theorem dX4_learnPrices_52 : decode cX4_learnPrices 52 = .ok (.iload 4, 2) := by decide +kernel
theorem dX4_learnPrices_54 : decode cX4_learnPrices 54 = .ok (.ifCond .lt 20, 3) := by decide +kernel
theorem dX4_learnPrices_57 : decode cX4_learnPrices 57 = .ok (.iload 4, 2) := by decide +kernel
theorem dX4_learnPrices_59 : decode cX4_learnPrices 59 = .ok (.aload_n 2, 1) := by decide +kernel
theorem dX4_learnPrices_60 : decode cX4_learnPrices 60 = .ok (.arraylength, 1) := by decide +kernel
theorem dX4_learnPrices_61 : decode cX4_learnPrices 61 = .ok (.if_icmp .ge 13, 3) := by decide +kernel
theorem dX4_learnPrices_64 : decode cX4_learnPrices 64 = .ok (.aload_n 2, 1) := by decide +kernel
theorem dX4_learnPrices_65 : decode cX4_learnPrices 65 = .ok (.iload 4, 2) := by decide +kernel
theorem dX4_learnPrices_67 : decode cX4_learnPrices 67 = .ok (.aload_n 0, 1) := by decide +kernel
theorem dX4_learnPrices_68 : decode cX4_learnPrices 68 = .ok (.getfield 21, 3) := by decide +kernel
theorem dX4_learnPrices_71 : decode cX4_learnPrices 71 = .ok (.iload_n 3, 1) := by decide +kernel
theorem dX4_learnPrices_72 : decode cX4_learnPrices 72 = .ok (.iaload, 1) := by decide +kernel
theorem dX4_learnPrices_73 : decode cX4_learnPrices 73 = .ok (.iastore, 1) := by decide +kernel
theorem dX4_learnPrices_74 : decode cX4_learnPrices 74 = .ok (.iinc 3 1, 3) := by decide +kernel
theorem dX4_learnPrices_77 : decode cX4_learnPrices 77 = .ok (.goto (-51), 3) := by decide +kernel
theorem dX4_learnPrices_80 : decode cX4_learnPrices 80 = .ok (.return_, 1) := by decide +kernel
noncomputable def E_X4_learnPrices : mE := (mX4_learnPrices, [(38, [(0, (.iconst 1, 1, false, false, 0, 0, 0, 0, 1, 0, [])), (1, (.istore_n 3, 2, true, false, 3, 0, 0, 0, 0, 0, [])), (2, (.iload_n 3, 3, false, false, 3, 0, 0, 0, 0, 0, [])), (3, (.iconst 5, 4, false, false, 0, 0, 0, 0, 5, 0, [])), (4, (.if_icmp .ge 20, 7, false, false, 24, 0, 0, 0, 0, 0, [])), (7, (.iload_n 3, 8, false, false, 3, 0, 0, 0, 0, 0, [])), (8, (.aload_n 2, 9, false, false, 2, 0, 0, 0, 0, 0, [])), (9, (.arraylength, 10, false, false, 0, 0, 0, 0, 0, 0, [])), (10, (.if_icmp .ge 14, 13, false, false, 24, 0, 0, 0, 0, 0, [])), (13, (.aload_n 2, 14, false, false, 2, 0, 0, 0, 0, 0, [])), (14, (.iload_n 3, 15, false, false, 3, 0, 0, 0, 0, 0, [])), (15, (.bipush 10, 17, false, false, 0, 0, 0, 0, 10, 0, [])), (17, (.iastore, 18, false, false, 0, 0, 0, 0, 0, 0, [])), (18, (.iinc 3 1, 21, false, false, 3, 0, 0, 0, 1, 0, [])), (21, (.goto (-19), 24, false, true, 2, 0, 0, 0, 0, 0, [])), (24, (.iconst 0, 25, false, false, 0, 0, 0, 0, 0, 0, [])), (25, (.istore_n 3, 26, true, false, 3, 0, 0, 0, 0, 0, [])), (26, (.iload_n 3, 27, false, false, 3, 0, 0, 0, 0, 0, [])), (27, (.aload_n 0, 28, false, false, 0, 0, 0, 0, 0, 0, [])), (28, (.getfield 27, 31, false, false, 7, 0, 0, 0, 0, 0, [])), (31, (.if_icmp .ge 49, 34, false, false, 80, 0, 0, 0, 0, 0, [])), (34, (.aload_n 0, 35, false, false, 0, 0, 0, 0, 0, 0, [])), (35, (.getfield 15, 38, false, false, 7, 2, 1, 0, 0, 0, [])), (38, (.iload_n 3, 39, false, false, 3, 0, 0, 0, 0, 0, []))]),
  (80, [(39, (.iaload, 40, false, false, 0, 0, 0, 0, 0, 0, [])), (40, (.istore 4, 42, false, false, 4, 0, 0, 0, 0, 0, [])), (42, (.aload_n 0, 43, false, false, 0, 0, 0, 0, 0, 0, [])), (43, (.getfield 18, 46, false, false, 7, 3, 1, 0, 0, 0, [])), (46, (.iload_n 3, 47, false, false, 3, 0, 0, 0, 0, 0, [])), (47, (.iaload, 48, false, false, 0, 0, 0, 0, 0, 0, [])), (48, (.iload_n 1, 49, false, false, 1, 0, 0, 0, 0, 0, [])), (49, (.if_icmp .ne 25, 52, false, false, 74, 0, 0, 0, 0, 0, [])), (52, (.iload 4, 54, false, false, 4, 0, 0, 0, 0, 0, [])), (54, (.ifCond .lt 20, 57, false, false, 74, 0, 0, 0, 0, 0, [])), (57, (.iload 4, 59, false, false, 4, 0, 0, 0, 0, 0, [])), (59, (.aload_n 2, 60, false, false, 2, 0, 0, 0, 0, 0, [])), (60, (.arraylength, 61, false, false, 0, 0, 0, 0, 0, 0, [])), (61, (.if_icmp .ge 13, 64, false, false, 74, 0, 0, 0, 0, 0, [])), (64, (.aload_n 2, 65, false, false, 2, 0, 0, 0, 0, 0, [])), (65, (.iload 4, 67, false, false, 4, 0, 0, 0, 0, 0, [])), (67, (.aload_n 0, 68, false, false, 0, 0, 0, 0, 0, 0, [])), (68, (.getfield 21, 71, false, false, 7, 4, 1, 0, 0, 0, [])), (71, (.iload_n 3, 72, false, false, 3, 0, 0, 0, 0, 0, [])), (72, (.iaload, 73, false, false, 0, 0, 0, 0, 0, 0, [])), (73, (.iastore, 74, false, false, 0, 0, 0, 0, 0, 0, [])), (74, (.iinc 3 1, 77, false, false, 3, 0, 0, 0, 1, 0, [])), (77, (.goto (-51), 80, false, true, 26, 0, 0, 0, 0, 0, [])), (80, (.return_, 81, false, false, 0, 0, 0, 0, 0, 0, []))])], 0, [])
set_option maxRecDepth 100000 in
theorem v_X4_learnPrices : VE MYT dflT E_X4_learnPrices := ⟨⟨⟨⟨⟨dX4_learnPrices_0, rfl⟩, rfl⟩, ⟨⟨dX4_learnPrices_1, rfl⟩, rfl⟩, ⟨⟨dX4_learnPrices_2, rfl⟩, rfl⟩, ⟨⟨dX4_learnPrices_3, rfl⟩, rfl⟩, ⟨⟨dX4_learnPrices_4, rfl⟩, rfl⟩, ⟨⟨dX4_learnPrices_7, rfl⟩, rfl⟩, ⟨⟨dX4_learnPrices_8, rfl⟩, rfl⟩, ⟨⟨dX4_learnPrices_9, rfl⟩, trivial⟩, ⟨⟨dX4_learnPrices_10, rfl⟩, rfl⟩, ⟨⟨dX4_learnPrices_13, rfl⟩, rfl⟩, ⟨⟨dX4_learnPrices_14, rfl⟩, rfl⟩, ⟨⟨dX4_learnPrices_15, rfl⟩, rfl⟩, ⟨⟨dX4_learnPrices_17, rfl⟩, trivial⟩, ⟨⟨dX4_learnPrices_18, rfl⟩, ⟨rfl, rfl⟩⟩, ⟨⟨dX4_learnPrices_21, rfl⟩, rfl⟩, ⟨⟨dX4_learnPrices_24, rfl⟩, rfl⟩, ⟨⟨dX4_learnPrices_25, rfl⟩, rfl⟩, ⟨⟨dX4_learnPrices_26, rfl⟩, rfl⟩, ⟨⟨dX4_learnPrices_27, rfl⟩, rfl⟩, ⟨⟨dX4_learnPrices_28, rfl⟩, Or.inl ⟨by decide, _, _, fX4_27⟩⟩, ⟨⟨dX4_learnPrices_31, rfl⟩, rfl⟩, ⟨⟨dX4_learnPrices_34, rfl⟩, rfl⟩, ⟨⟨dX4_learnPrices_35, rfl⟩, Or.inl ⟨by decide, _, _, fX4_15⟩⟩, ⟨⟨dX4_learnPrices_38, rfl⟩, rfl⟩, trivial⟩,
  ⟨⟨⟨dX4_learnPrices_39, rfl⟩, trivial⟩, ⟨⟨dX4_learnPrices_40, rfl⟩, rfl⟩, ⟨⟨dX4_learnPrices_42, rfl⟩, rfl⟩, ⟨⟨dX4_learnPrices_43, rfl⟩, Or.inl ⟨by decide, _, _, fX4_18⟩⟩, ⟨⟨dX4_learnPrices_46, rfl⟩, rfl⟩, ⟨⟨dX4_learnPrices_47, rfl⟩, trivial⟩, ⟨⟨dX4_learnPrices_48, rfl⟩, rfl⟩, ⟨⟨dX4_learnPrices_49, rfl⟩, rfl⟩, ⟨⟨dX4_learnPrices_52, rfl⟩, rfl⟩, ⟨⟨dX4_learnPrices_54, rfl⟩, rfl⟩, ⟨⟨dX4_learnPrices_57, rfl⟩, rfl⟩, ⟨⟨dX4_learnPrices_59, rfl⟩, rfl⟩, ⟨⟨dX4_learnPrices_60, rfl⟩, trivial⟩, ⟨⟨dX4_learnPrices_61, rfl⟩, rfl⟩, ⟨⟨dX4_learnPrices_64, rfl⟩, rfl⟩, ⟨⟨dX4_learnPrices_65, rfl⟩, rfl⟩, ⟨⟨dX4_learnPrices_67, rfl⟩, rfl⟩, ⟨⟨dX4_learnPrices_68, rfl⟩, Or.inl ⟨by decide, _, _, fX4_21⟩⟩, ⟨⟨dX4_learnPrices_71, rfl⟩, rfl⟩, ⟨⟨dX4_learnPrices_72, rfl⟩, trivial⟩, ⟨⟨dX4_learnPrices_73, rfl⟩, trivial⟩, ⟨⟨dX4_learnPrices_74, rfl⟩, ⟨rfl, rfl⟩⟩, ⟨⟨dX4_learnPrices_77, rfl⟩, rfl⟩, ⟨⟨dX4_learnPrices_80, rfl⟩, rfl⟩, trivial⟩, trivial⟩, by decide, Or.inl ⟨rfl, by decide, rfl⟩⟩
set_option maxRecDepth 100000 in
theorem g_X4_learnPrices_0 (S : sT) (call : cT) (n : Nat) (a0 : Nat) (x1 : Int32) (v2 : Value) (h : pH) : bd S call dflT E_X4_learnPrices (n + 1) 0 [some (.ref a0), some (.int x1), some (v2), none, none] [] h = (nl v2 (bd S call dflT E_X4_learnPrices n 2 [some (.ref a0), some (.int x1), some (v2), some (.int 1), none] [] h)) := rfl
set_option maxRecDepth 100000 in
theorem g_X4_learnPrices_2 (S : sT) (call : cT) (n : Nat) (a0 : Nat) (x1 : Int32) (v2 : Value) (x3 : Int32) (o4 : Option Value) (h : pH) : bd S call dflT E_X4_learnPrices (n + 1) 2 [some (.ref a0), some (.int x1), some (v2), some (.int x3), o4] [] h = ((if 5 ≤ x3 then nl v2 (bd S call dflT E_X4_learnPrices n 26 [some (.ref a0), some (.int x1), some (v2), some (.int 0), o4] [] h) else iA v2 (aLen h v2 (fun y1 => (if y1 ≤ x3 then nl v2 (bd S call dflT E_X4_learnPrices n 26 [some (.ref a0), some (.int x1), some (v2), some (.int 0), o4] [] h) else iA v2 (sI h v2 0 x3 10 (fun h2 => nl v2 (bd S call dflT E_X4_learnPrices n 2 [some (.ref a0), some (.int x1), some (v2), some (.int (x3 + 1)), o4] [] h2)))))))) := rfl
set_option maxRecDepth 100000 in
theorem g_X4_learnPrices_26 (S : sT) (call : cT) (n : Nat) (a0 : Nat) (x1 : Int32) (v2 : Value) (x3 : Int32) (o4 : Option Value) (h : pH) : bd S call dflT E_X4_learnPrices (n + 1) 26 [some (.ref a0), some (.int x1), some (v2), some (.int x3), o4] [] h = (gI h (.ref a0) 7 0 (fun y1 => (if y1 ≤ x3 then some (.inl none, h) else gV h (.ref a0) 7 2 (fun w2 => aI h w2 0 x3 (fun y3 => gV h (.ref a0) 7 3 (fun w4 => aI h w4 0 x3 (fun y5 => (if y5 = x1 then (if y3 < 0 then nl v2 (bd S call dflT E_X4_learnPrices n 26 [some (.ref a0), some (.int x1), some (v2), some (.int (x3 + 1)), some (.int y3)] [] h) else iA v2 (aLen h v2 (fun y6 => (if y6 ≤ y3 then nl v2 (bd S call dflT E_X4_learnPrices n 26 [some (.ref a0), some (.int x1), some (v2), some (.int (x3 + 1)), some (.int y3)] [] h) else iA v2 (gV h (.ref a0) 7 4 (fun w7 => aI h w7 0 x3 (fun y8 => sI h v2 0 y3 y8 (fun h9 => nl v2 (bd S call dflT E_X4_learnPrices n 26 [some (.ref a0), some (.int x1), some (v2), some (.int (x3 + 1)), some (.int y3)] [] h9))))))))) else nl v2 (bd S call dflT E_X4_learnPrices n 26 [some (.ref a0), some (.int x1), some (v2), some (.int (x3 + 1)), some (.int y3)] [] h))))))))) := rfl
theorem dX4_copyFrom_0 : decode cX4_copyFrom 0 = .ok (.aload_n 0, 1) := by decide +kernel
theorem dX4_copyFrom_1 : decode cX4_copyFrom 1 = .ok (.aload_n 1, 1) := by decide +kernel
theorem dX4_copyFrom_2 : decode cX4_copyFrom 2 = .ok (.getfield 27, 3) := by decide +kernel
theorem dX4_copyFrom_5 : decode cX4_copyFrom 5 = .ok (.putfield 27, 3) := by decide +kernel
theorem dX4_copyFrom_8 : decode cX4_copyFrom 8 = .ok (.aload_n 1, 1) := by decide +kernel
theorem dX4_copyFrom_9 : decode cX4_copyFrom 9 = .ok (.getfield 9, 3) := by decide +kernel
theorem dX4_copyFrom_12 : decode cX4_copyFrom 12 = .ok (.iconst 0, 1) := by decide +kernel
theorem dX4_copyFrom_13 : decode cX4_copyFrom 13 = .ok (.aload_n 0, 1) := by decide +kernel
theorem dX4_copyFrom_14 : decode cX4_copyFrom 14 = .ok (.getfield 9, 3) := by decide +kernel
theorem dX4_copyFrom_17 : decode cX4_copyFrom 17 = .ok (.iconst 0, 1) := by decide +kernel
theorem dX4_copyFrom_18 : decode cX4_copyFrom 18 = .ok (.bipush 101, 2) := by decide +kernel
theorem dX4_copyFrom_20 : decode cX4_copyFrom 20 = .ok (.invokestatic 31, 3) := by decide +kernel
theorem dX4_copyFrom_23 : decode cX4_copyFrom 23 = .ok (.aload_n 1, 1) := by decide +kernel
theorem dX4_copyFrom_24 : decode cX4_copyFrom 24 = .ok (.getfield 15, 3) := by decide +kernel
theorem dX4_copyFrom_27 : decode cX4_copyFrom 27 = .ok (.iconst 0, 1) := by decide +kernel
theorem dX4_copyFrom_28 : decode cX4_copyFrom 28 = .ok (.aload_n 0, 1) := by decide +kernel
theorem dX4_copyFrom_29 : decode cX4_copyFrom 29 = .ok (.getfield 15, 3) := by decide +kernel
theorem dX4_copyFrom_32 : decode cX4_copyFrom 32 = .ok (.iconst 0, 1) := by decide +kernel
theorem dX4_copyFrom_33 : decode cX4_copyFrom 33 = .ok (.sipush 200, 3) := by decide +kernel
theorem dX4_copyFrom_36 : decode cX4_copyFrom 36 = .ok (.invokestatic 31, 3) := by decide +kernel
theorem dX4_copyFrom_39 : decode cX4_copyFrom 39 = .ok (.aload_n 1, 1) := by decide +kernel
theorem dX4_copyFrom_40 : decode cX4_copyFrom 40 = .ok (.getfield 18, 3) := by decide +kernel
theorem dX4_copyFrom_43 : decode cX4_copyFrom 43 = .ok (.iconst 0, 1) := by decide +kernel
theorem dX4_copyFrom_44 : decode cX4_copyFrom 44 = .ok (.aload_n 0, 1) := by decide +kernel
theorem dX4_copyFrom_45 : decode cX4_copyFrom 45 = .ok (.getfield 18, 3) := by decide +kernel
theorem dX4_copyFrom_48 : decode cX4_copyFrom 48 = .ok (.iconst 0, 1) := by decide +kernel
theorem dX4_copyFrom_49 : decode cX4_copyFrom 49 = .ok (.sipush 200, 3) := by decide +kernel
theorem dX4_copyFrom_52 : decode cX4_copyFrom 52 = .ok (.invokestatic 31, 3) := by decide +kernel
theorem dX4_copyFrom_55 : decode cX4_copyFrom 55 = .ok (.aload_n 1, 1) := by decide +kernel
theorem dX4_copyFrom_56 : decode cX4_copyFrom 56 = .ok (.getfield 21, 3) := by decide +kernel
theorem dX4_copyFrom_59 : decode cX4_copyFrom 59 = .ok (.iconst 0, 1) := by decide +kernel
theorem dX4_copyFrom_60 : decode cX4_copyFrom 60 = .ok (.aload_n 0, 1) := by decide +kernel
theorem dX4_copyFrom_61 : decode cX4_copyFrom 61 = .ok (.getfield 21, 3) := by decide +kernel
theorem dX4_copyFrom_64 : decode cX4_copyFrom 64 = .ok (.iconst 0, 1) := by decide +kernel
theorem dX4_copyFrom_65 : decode cX4_copyFrom 65 = .ok (.sipush 200, 3) := by decide +kernel
theorem dX4_copyFrom_68 : decode cX4_copyFrom 68 = .ok (.invokestatic 31, 3) := by decide +kernel
theorem dX4_copyFrom_71 : decode cX4_copyFrom 71 = .ok (.aload_n 1, 1) := by decide +kernel
theorem dX4_copyFrom_72 : decode cX4_copyFrom 72 = .ok (.getfield 24, 3) := by decide +kernel
theorem dX4_copyFrom_75 : decode cX4_copyFrom 75 = .ok (.iconst 0, 1) := by decide +kernel
theorem dX4_copyFrom_76 : decode cX4_copyFrom 76 = .ok (.aload_n 0, 1) := by decide +kernel
theorem dX4_copyFrom_77 : decode cX4_copyFrom 77 = .ok (.getfield 24, 3) := by decide +kernel
theorem dX4_copyFrom_80 : decode cX4_copyFrom 80 = .ok (.iconst 0, 1) := by decide +kernel
theorem dX4_copyFrom_81 : decode cX4_copyFrom 81 = .ok (.sipush 200, 3) := by decide +kernel
theorem dX4_copyFrom_84 : decode cX4_copyFrom 84 = .ok (.invokestatic 31, 3) := by decide +kernel
theorem dX4_copyFrom_87 : decode cX4_copyFrom 87 = .ok (.return_, 1) := by decide +kernel
noncomputable def E_X4_copyFrom : mE := (mX4_copyFrom, [(44, [(0, (.aload_n 0, 1, false, false, 0, 0, 0, 0, 0, 0, [])), (1, (.aload_n 1, 2, false, false, 1, 0, 0, 0, 0, 0, [])), (2, (.getfield 27, 5, false, false, 7, 0, 0, 0, 0, 0, [])), (5, (.putfield 27, 8, false, false, 7, 0, 0, 0, 0, 0, [])), (8, (.aload_n 1, 9, false, false, 1, 0, 0, 0, 0, 0, [])), (9, (.getfield 9, 12, false, false, 7, 1, 1, 0, 0, 0, [])), (12, (.iconst 0, 13, false, false, 0, 0, 0, 0, 0, 0, [])), (13, (.aload_n 0, 14, false, false, 0, 0, 0, 0, 0, 0, [])), (14, (.getfield 9, 17, false, false, 7, 1, 1, 0, 0, 0, [])), (17, (.iconst 0, 18, false, false, 0, 0, 0, 0, 0, 0, [])), (18, (.bipush 101, 20, false, false, 0, 0, 0, 0, 101, 0, [])), (20, (.invokestatic 31, 23, false, false, 0, 5, 0, 2, 0, 0, [])), (23, (.aload_n 1, 24, false, false, 1, 0, 0, 0, 0, 0, [])), (24, (.getfield 15, 27, false, false, 7, 2, 1, 0, 0, 0, [])), (27, (.iconst 0, 28, false, false, 0, 0, 0, 0, 0, 0, [])), (28, (.aload_n 0, 29, false, false, 0, 0, 0, 0, 0, 0, [])), (29, (.getfield 15, 32, false, false, 7, 2, 1, 0, 0, 0, [])), (32, (.iconst 0, 33, false, false, 0, 0, 0, 0, 0, 0, [])), (33, (.sipush 200, 36, false, false, 0, 0, 0, 0, 200, 0, [])), (36, (.invokestatic 31, 39, false, false, 0, 5, 0, 2, 0, 0, [])), (39, (.aload_n 1, 40, false, false, 1, 0, 0, 0, 0, 0, [])), (40, (.getfield 18, 43, false, false, 7, 3, 1, 0, 0, 0, [])), (43, (.iconst 0, 44, false, false, 0, 0, 0, 0, 0, 0, [])), (44, (.aload_n 0, 45, false, false, 0, 0, 0, 0, 0, 0, []))]),
  (87, [(45, (.getfield 18, 48, false, false, 7, 3, 1, 0, 0, 0, [])), (48, (.iconst 0, 49, false, false, 0, 0, 0, 0, 0, 0, [])), (49, (.sipush 200, 52, false, false, 0, 0, 0, 0, 200, 0, [])), (52, (.invokestatic 31, 55, false, false, 0, 5, 0, 2, 0, 0, [])), (55, (.aload_n 1, 56, false, false, 1, 0, 0, 0, 0, 0, [])), (56, (.getfield 21, 59, false, false, 7, 4, 1, 0, 0, 0, [])), (59, (.iconst 0, 60, false, false, 0, 0, 0, 0, 0, 0, [])), (60, (.aload_n 0, 61, false, false, 0, 0, 0, 0, 0, 0, [])), (61, (.getfield 21, 64, false, false, 7, 4, 1, 0, 0, 0, [])), (64, (.iconst 0, 65, false, false, 0, 0, 0, 0, 0, 0, [])), (65, (.sipush 200, 68, false, false, 0, 0, 0, 0, 200, 0, [])), (68, (.invokestatic 31, 71, false, false, 0, 5, 0, 2, 0, 0, [])), (71, (.aload_n 1, 72, false, false, 1, 0, 0, 0, 0, 0, [])), (72, (.getfield 24, 75, false, false, 7, 5, 1, 0, 0, 0, [])), (75, (.iconst 0, 76, false, false, 0, 0, 0, 0, 0, 0, [])), (76, (.aload_n 0, 77, false, false, 0, 0, 0, 0, 0, 0, [])), (77, (.getfield 24, 80, false, false, 7, 5, 1, 0, 0, 0, [])), (80, (.iconst 0, 81, false, false, 0, 0, 0, 0, 0, 0, [])), (81, (.sipush 200, 84, false, false, 0, 0, 0, 0, 200, 0, [])), (84, (.invokestatic 31, 87, false, false, 0, 5, 0, 2, 0, 0, [])), (87, (.return_, 88, false, false, 0, 0, 0, 0, 0, 0, []))])], 0, [])
set_option maxRecDepth 100000 in
theorem v_X4_copyFrom : VE MYT dflT E_X4_copyFrom := ⟨⟨⟨⟨⟨dX4_copyFrom_0, rfl⟩, rfl⟩, ⟨⟨dX4_copyFrom_1, rfl⟩, rfl⟩, ⟨⟨dX4_copyFrom_2, rfl⟩, Or.inl ⟨by decide, _, _, fX4_27⟩⟩, ⟨⟨dX4_copyFrom_5, rfl⟩, Or.inl ⟨rfl, fX4_27⟩⟩, ⟨⟨dX4_copyFrom_8, rfl⟩, rfl⟩, ⟨⟨dX4_copyFrom_9, rfl⟩, Or.inl ⟨by decide, _, _, fX4_9⟩⟩, ⟨⟨dX4_copyFrom_12, rfl⟩, rfl⟩, ⟨⟨dX4_copyFrom_13, rfl⟩, rfl⟩, ⟨⟨dX4_copyFrom_14, rfl⟩, Or.inl ⟨by decide, _, _, fX4_9⟩⟩, ⟨⟨dX4_copyFrom_17, rfl⟩, rfl⟩, ⟨⟨dX4_copyFrom_18, rfl⟩, rfl⟩, ⟨⟨dX4_copyFrom_20, rfl⟩, Or.inr (Or.inr (Or.inl ⟨rfl, acX4_31, ac_1, ac_2, ac_3⟩))⟩, ⟨⟨dX4_copyFrom_23, rfl⟩, rfl⟩, ⟨⟨dX4_copyFrom_24, rfl⟩, Or.inl ⟨by decide, _, _, fX4_15⟩⟩, ⟨⟨dX4_copyFrom_27, rfl⟩, rfl⟩, ⟨⟨dX4_copyFrom_28, rfl⟩, rfl⟩, ⟨⟨dX4_copyFrom_29, rfl⟩, Or.inl ⟨by decide, _, _, fX4_15⟩⟩, ⟨⟨dX4_copyFrom_32, rfl⟩, rfl⟩, ⟨⟨dX4_copyFrom_33, rfl⟩, rfl⟩, ⟨⟨dX4_copyFrom_36, rfl⟩, Or.inr (Or.inr (Or.inl ⟨rfl, acX4_31, ac_1, ac_2, ac_3⟩))⟩, ⟨⟨dX4_copyFrom_39, rfl⟩, rfl⟩, ⟨⟨dX4_copyFrom_40, rfl⟩, Or.inl ⟨by decide, _, _, fX4_18⟩⟩, ⟨⟨dX4_copyFrom_43, rfl⟩, rfl⟩, ⟨⟨dX4_copyFrom_44, rfl⟩, rfl⟩, trivial⟩,
  ⟨⟨⟨dX4_copyFrom_45, rfl⟩, Or.inl ⟨by decide, _, _, fX4_18⟩⟩, ⟨⟨dX4_copyFrom_48, rfl⟩, rfl⟩, ⟨⟨dX4_copyFrom_49, rfl⟩, rfl⟩, ⟨⟨dX4_copyFrom_52, rfl⟩, Or.inr (Or.inr (Or.inl ⟨rfl, acX4_31, ac_1, ac_2, ac_3⟩))⟩, ⟨⟨dX4_copyFrom_55, rfl⟩, rfl⟩, ⟨⟨dX4_copyFrom_56, rfl⟩, Or.inl ⟨by decide, _, _, fX4_21⟩⟩, ⟨⟨dX4_copyFrom_59, rfl⟩, rfl⟩, ⟨⟨dX4_copyFrom_60, rfl⟩, rfl⟩, ⟨⟨dX4_copyFrom_61, rfl⟩, Or.inl ⟨by decide, _, _, fX4_21⟩⟩, ⟨⟨dX4_copyFrom_64, rfl⟩, rfl⟩, ⟨⟨dX4_copyFrom_65, rfl⟩, rfl⟩, ⟨⟨dX4_copyFrom_68, rfl⟩, Or.inr (Or.inr (Or.inl ⟨rfl, acX4_31, ac_1, ac_2, ac_3⟩))⟩, ⟨⟨dX4_copyFrom_71, rfl⟩, rfl⟩, ⟨⟨dX4_copyFrom_72, rfl⟩, Or.inl ⟨by decide, _, _, fX4_24⟩⟩, ⟨⟨dX4_copyFrom_75, rfl⟩, rfl⟩, ⟨⟨dX4_copyFrom_76, rfl⟩, rfl⟩, ⟨⟨dX4_copyFrom_77, rfl⟩, Or.inl ⟨by decide, _, _, fX4_24⟩⟩, ⟨⟨dX4_copyFrom_80, rfl⟩, rfl⟩, ⟨⟨dX4_copyFrom_81, rfl⟩, rfl⟩, ⟨⟨dX4_copyFrom_84, rfl⟩, Or.inr (Or.inr (Or.inl ⟨rfl, acX4_31, ac_1, ac_2, ac_3⟩))⟩, ⟨⟨dX4_copyFrom_87, rfl⟩, rfl⟩, trivial⟩, trivial⟩, by decide, Or.inl ⟨rfl, by decide, rfl⟩⟩
set_option maxRecDepth 100000 in
theorem g_X4_copyFrom_0 (S : sT) (call : cT) (n : Nat) (a0 : Nat) (v1 : Value) (h : pH) : bd S call dflT E_X4_copyFrom (n + 1) 0 [some (.ref a0), some (v1)] [] h = (iA v1 (gI h v1 7 0 (fun y1 => pF h (.ref a0) 7 0 (.int y1) (fun h2 => iA v1 (gV h2 v1 7 1 (fun w3 => gV h2 (.ref a0) 7 1 (fun w4 => cpI h2 w3 0 w4 0 101 (fun h5 => iA v1 (gV h5 v1 7 2 (fun w6 => gV h5 (.ref a0) 7 2 (fun w7 => cpI h5 w6 0 w7 0 200 (fun h8 => iA v1 (gV h8 v1 7 3 (fun w9 => gV h8 (.ref a0) 7 3 (fun w10 => cpI h8 w9 0 w10 0 200 (fun h11 => iA v1 (gV h11 v1 7 4 (fun w12 => gV h11 (.ref a0) 7 4 (fun w13 => cpI h11 w12 0 w13 0 200 (fun h14 => iA v1 (gV h14 v1 7 5 (fun w15 => gV h14 (.ref a0) 7 5 (fun w16 => cpI h14 w15 0 w16 0 200 (fun h17 => some (.inl none, h17))))))))))))))))))))))))) := rfl
