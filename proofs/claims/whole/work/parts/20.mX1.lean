/-! by program: methods as data, that they are right, what their bodies do -/
theorem dX1_init_0 : decode cX1_init 0 = .ok (.aload_n 0, 1) := by decide +kernel
theorem dX1_init_1 : decode cX1_init 1 = .ok (.invokespecial 3, 3) := by decide +kernel
theorem dX1_init_4 : decode cX1_init 4 = .ok (.aload_n 0, 1) := by decide +kernel
theorem dX1_init_5 : decode cX1_init 5 = .ok (.sipush 312, 3) := by decide +kernel
theorem dX1_init_8 : decode cX1_init 8 = .ok (.newarray .int, 2) := by decide +kernel
theorem dX1_init_10 : decode cX1_init 10 = .ok (.putfield 11, 3) := by decide +kernel
theorem dX1_init_13 : decode cX1_init 13 = .ok (.aload_n 0, 1) := by decide +kernel
theorem dX1_init_14 : decode cX1_init 14 = .ok (.bipush 24, 2) := by decide +kernel
theorem dX1_init_16 : decode cX1_init 16 = .ok (.anewarray 15, 3) := by decide +kernel
theorem dX1_init_19 : decode cX1_init 19 = .ok (.putfield 17, 3) := by decide +kernel
theorem dX1_init_22 : decode cX1_init 22 = .ok (.aload_n 0, 1) := by decide +kernel
theorem dX1_init_23 : decode cX1_init 23 = .ok (.new 15, 3) := by decide +kernel
theorem dX1_init_26 : decode cX1_init 26 = .ok (.dup, 1) := by decide +kernel
theorem dX1_init_27 : decode cX1_init 27 = .ok (.invokespecial 21, 3) := by decide +kernel
theorem dX1_init_30 : decode cX1_init 30 = .ok (.putfield 22, 3) := by decide +kernel
theorem dX1_init_33 : decode cX1_init 33 = .ok (.return_, 1) := by decide +kernel
noncomputable def E_X1_init : mE := (mX1_init, [(33, [(0, (.aload_n 0, 1, false, false, 0, 0, 0, 0, 0, 0, [])), (1, (.invokespecial 3, 4, false, false, 0, 0, 0, 1, 0, 0, [])), (4, (.aload_n 0, 5, false, false, 0, 0, 0, 0, 0, 0, [])), (5, (.sipush 312, 8, false, false, 0, 0, 0, 0, 312, 0, [])), (8, (.newarray .int, 10, false, false, 0, 0, 0, 0, 0, 0, [])), (10, (.putfield 11, 13, false, false, 4, 1, 4, 0, 0, 0, [])), (13, (.aload_n 0, 14, false, false, 0, 0, 0, 0, 0, 0, [])), (14, (.bipush 24, 16, false, false, 0, 0, 0, 0, 24, 0, [])), (16, (.anewarray 15, 19, false, false, 0, 0, 0, 0, 0, 0, [])), (19, (.putfield 17, 22, false, false, 4, 2, 4, 0, 0, 0, [])), (22, (.aload_n 0, 23, false, false, 0, 0, 0, 0, 0, 0, [])), (23, (.new 15, 26, false, false, 11, 0, 0, 0, 0, 0, [])), (26, (.dup, 27, false, false, 0, 0, 0, 0, 0, 0, [])), (27, (.invokespecial 21, 30, false, false, 3, 0, 0, 0, 0, 0, [])), (30, (.putfield 22, 33, false, false, 4, 3, 4, 0, 0, 0, [])), (33, (.return_, 34, false, false, 0, 0, 0, 0, 0, 0, []))])], 0, [])
set_option maxRecDepth 100000 in
theorem v_X1_init : VE MYT dflT E_X1_init := ⟨⟨⟨⟨⟨dX1_init_0, rfl⟩, rfl⟩, ⟨⟨dX1_init_1, rfl⟩, Or.inr ⟨rfl, oX1_3, o_1, o_2⟩⟩, ⟨⟨dX1_init_4, rfl⟩, rfl⟩, ⟨⟨dX1_init_5, rfl⟩, rfl⟩, ⟨⟨dX1_init_8, rfl⟩, Or.inl ⟨rfl, rfl, a_int⟩⟩, ⟨⟨dX1_init_10, rfl⟩, Or.inr (Or.inr (Or.inr (Or.inr ⟨rfl, ⟨_, (Or.inr ⟨_, rfl⟩), fX1_11⟩, rfl, rfl⟩)))⟩, ⟨⟨dX1_init_13, rfl⟩, rfl⟩, ⟨⟨dX1_init_14, rfl⟩, rfl⟩, ⟨⟨dX1_init_16, rfl⟩, ctX1_15⟩, ⟨⟨dX1_init_19, rfl⟩, Or.inr (Or.inr (Or.inr (Or.inr ⟨rfl, ⟨_, (Or.inr ⟨_, rfl⟩), fX1_17⟩, rfl, rfl⟩)))⟩, ⟨⟨dX1_init_22, rfl⟩, rfl⟩, ⟨⟨dX1_init_23, rfl⟩, Or.inl ⟨rfl, _, rfl, nX1_15⟩⟩, ⟨⟨dX1_init_26, rfl⟩, trivial⟩, ⟨⟨dX1_init_27, rfl⟩, Or.inl ⟨rfl, _, my_3, sX1_21⟩⟩, ⟨⟨dX1_init_30, rfl⟩, Or.inr (Or.inr (Or.inr (Or.inr ⟨rfl, ⟨_, (Or.inl ⟨_, rfl⟩), fX1_22⟩, rfl, rfl⟩)))⟩, ⟨⟨dX1_init_33, rfl⟩, rfl⟩, trivial⟩, trivial⟩, by decide, Or.inl ⟨rfl, by decide, rfl⟩⟩
set_option maxRecDepth 100000 in
theorem g_X1_init_0 (S : sT) (call : cT) (n : Nat) (a0 : Nat) (h : pH) : bd S call dflT E_X1_init (n + 1) 0 [some (.ref a0)] [] h = (mkI h 0 312 (fun h1 => pF h1 (.ref a0) 4 1 (.ref (List.length h)) (fun h2 => mkT h2 24 (fun h3 => pF h3 (.ref a0) 4 2 (.ref (List.length h2)) (fun h4 => cUx tN (call 3 [.ref (List.length h4)] (h4 ++ [.inr (11, dflT 11)])) (fun h5 => pF h5 (.ref a0) 4 3 (.ref (List.length h4)) (fun h6 => some (.inl none, h6)))))))) := rfl
theorem dX1_isCell_0 : decode cX1_isCell 0 = .ok (.iload_n 0, 1) := by decide +kernel
theorem dX1_isCell_1 : decode cX1_isCell 1 = .ok (.ifCond .lt 23, 3) := by decide +kernel
theorem dX1_isCell_4 : decode cX1_isCell 4 = .ok (.iload_n 0, 1) := by decide +kernel
theorem dX1_isCell_5 : decode cX1_isCell 5 = .ok (.bipush 13, 2) := by decide +kernel
theorem dX1_isCell_7 : decode cX1_isCell 7 = .ok (.if_icmp .ge 17, 3) := by decide +kernel
theorem dX1_isCell_10 : decode cX1_isCell 10 = .ok (.iload_n 1, 1) := by decide +kernel
theorem dX1_isCell_11 : decode cX1_isCell 11 = .ok (.ifCond .lt 13, 3) := by decide +kernel
theorem dX1_isCell_14 : decode cX1_isCell 14 = .ok (.iload_n 1, 1) := by decide +kernel
theorem dX1_isCell_15 : decode cX1_isCell 15 = .ok (.bipush 24, 2) := by decide +kernel
theorem dX1_isCell_17 : decode cX1_isCell 17 = .ok (.if_icmp .ge 7, 3) := by decide +kernel
theorem dX1_isCell_20 : decode cX1_isCell 20 = .ok (.iconst 1, 1) := by decide +kernel
theorem dX1_isCell_21 : decode cX1_isCell 21 = .ok (.goto 4, 3) := by decide +kernel
theorem dX1_isCell_24 : decode cX1_isCell 24 = .ok (.iconst 0, 1) := by decide +kernel
theorem dX1_isCell_25 : decode cX1_isCell 25 = .ok (.ireturn, 1) := by decide +kernel
noncomputable def E_X1_isCell : mE := (mX1_isCell, [(25, [(0, (.iload_n 0, 1, false, false, 0, 0, 0, 0, 0, 0, [])), (1, (.ifCond .lt 23, 4, false, false, 24, 0, 0, 0, 0, 0, [])), (4, (.iload_n 0, 5, false, false, 0, 0, 0, 0, 0, 0, [])), (5, (.bipush 13, 7, false, false, 0, 0, 0, 0, 13, 0, [])), (7, (.if_icmp .ge 17, 10, false, false, 24, 0, 0, 0, 0, 0, [])), (10, (.iload_n 1, 11, false, false, 1, 0, 0, 0, 0, 0, [])), (11, (.ifCond .lt 13, 14, false, false, 24, 0, 0, 0, 0, 0, [])), (14, (.iload_n 1, 15, false, false, 1, 0, 0, 0, 0, 0, [])), (15, (.bipush 24, 17, false, false, 0, 0, 0, 0, 24, 0, [])), (17, (.if_icmp .ge 7, 20, false, false, 24, 0, 0, 0, 0, 0, [])), (20, (.iconst 1, 21, false, false, 0, 0, 0, 0, 1, 0, [])), (21, (.goto 4, 24, false, false, 25, 0, 0, 0, 0, 0, [])), (24, (.iconst 0, 25, false, false, 0, 0, 0, 0, 0, 0, [])), (25, (.ireturn, 26, false, false, 0, 0, 1, 0, 0, 0, []))])], 0, [])
set_option maxRecDepth 100000 in
theorem v_X1_isCell : VE MYT dflT E_X1_isCell := ⟨⟨⟨⟨⟨dX1_isCell_0, rfl⟩, rfl⟩, ⟨⟨dX1_isCell_1, rfl⟩, rfl⟩, ⟨⟨dX1_isCell_4, rfl⟩, rfl⟩, ⟨⟨dX1_isCell_5, rfl⟩, rfl⟩, ⟨⟨dX1_isCell_7, rfl⟩, rfl⟩, ⟨⟨dX1_isCell_10, rfl⟩, rfl⟩, ⟨⟨dX1_isCell_11, rfl⟩, rfl⟩, ⟨⟨dX1_isCell_14, rfl⟩, rfl⟩, ⟨⟨dX1_isCell_15, rfl⟩, rfl⟩, ⟨⟨dX1_isCell_17, rfl⟩, rfl⟩, ⟨⟨dX1_isCell_20, rfl⟩, rfl⟩, ⟨⟨dX1_isCell_21, rfl⟩, rfl⟩, ⟨⟨dX1_isCell_24, rfl⟩, rfl⟩, ⟨⟨dX1_isCell_25, rfl⟩, Or.inr (Or.inl ⟨rfl, rfl⟩)⟩, trivial⟩, trivial⟩, by decide, Or.inl ⟨rfl, by decide, rfl⟩⟩
set_option maxRecDepth 100000 in
theorem g_X1_isCell_0 (S : sT) (call : cT) (n : Nat) (x0 : Int32) (x1 : Int32) (h : pH) : bd S call dflT E_X1_isCell (n + 1) 0 [some (.int x0), some (.int x1)] [] h = ((if x0 < 0 then zR 0 (some (.inl (some (.int 0)), h)) else (if 13 ≤ x0 then zR 0 (some (.inl (some (.int 0)), h)) else (if x1 < 0 then zR 0 (some (.inl (some (.int 0)), h)) else (if 24 ≤ x1 then zR 0 (some (.inl (some (.int 0)), h)) else zR 1 (some (.inl (some (.int 1)), h))))))) := rfl
theorem dX1_set_0 : decode cX1_set 0 = .ok (.iload_n 1, 1) := by decide +kernel
theorem dX1_set_1 : decode cX1_set 1 = .ok (.iload_n 2, 1) := by decide +kernel
theorem dX1_set_2 : decode cX1_set 2 = .ok (.invokestatic 36, 3) := by decide +kernel
theorem dX1_set_5 : decode cX1_set 5 = .ok (.ifCond .eq 15, 3) := by decide +kernel
theorem dX1_set_8 : decode cX1_set 8 = .ok (.aload_n 0, 1) := by decide +kernel
theorem dX1_set_9 : decode cX1_set 9 = .ok (.getfield 11, 3) := by decide +kernel
theorem dX1_set_12 : decode cX1_set 12 = .ok (.iload_n 1, 1) := by decide +kernel
theorem dX1_set_13 : decode cX1_set 13 = .ok (.bipush 24, 2) := by decide +kernel
theorem dX1_set_15 : decode cX1_set 15 = .ok (.imul, 1) := by decide +kernel
theorem dX1_set_16 : decode cX1_set 16 = .ok (.iload_n 2, 1) := by decide +kernel
theorem dX1_set_17 : decode cX1_set 17 = .ok (.iadd, 1) := by decide +kernel
theorem dX1_set_18 : decode cX1_set 18 = .ok (.iload_n 3, 1) := by decide +kernel
theorem dX1_set_19 : decode cX1_set 19 = .ok (.iastore, 1) := by decide +kernel
theorem dX1_set_20 : decode cX1_set 20 = .ok (.return_, 1) := by decide +kernel
noncomputable def E_X1_set : mE := (mX1_set, [(20, [(0, (.iload_n 1, 1, false, false, 1, 0, 0, 0, 0, 0, [])), (1, (.iload_n 2, 2, false, false, 2, 0, 0, 0, 0, 0, [])), (2, (.invokestatic 36, 5, false, false, 99, 2, 1, 0, 0, 0, [])), (5, (.ifCond .eq 15, 8, false, false, 20, 0, 0, 0, 0, 0, [])), (8, (.aload_n 0, 9, false, false, 0, 0, 0, 0, 0, 0, [])), (9, (.getfield 11, 12, false, false, 4, 1, 1, 0, 0, 0, [])), (12, (.iload_n 1, 13, false, false, 1, 0, 0, 0, 0, 0, [])), (13, (.bipush 24, 15, false, false, 0, 0, 0, 0, 24, 0, [])), (15, (.imul, 16, false, false, 0, 0, 0, 0, 0, 0, [])), (16, (.iload_n 2, 17, false, false, 2, 0, 0, 0, 0, 0, [])), (17, (.iadd, 18, false, false, 0, 0, 0, 0, 0, 0, [])), (18, (.iload_n 3, 19, false, false, 3, 0, 0, 0, 0, 0, [])), (19, (.iastore, 20, false, false, 0, 0, 0, 0, 0, 0, [])), (20, (.return_, 21, false, false, 0, 0, 0, 0, 0, 0, []))])], 0, [])
set_option maxRecDepth 100000 in
theorem v_X1_set : VE MYT dflT E_X1_set := ⟨⟨⟨⟨⟨dX1_set_0, rfl⟩, rfl⟩, ⟨⟨dX1_set_1, rfl⟩, rfl⟩, ⟨⟨dX1_set_2, rfl⟩, Or.inl ⟨rfl, _, my_99, sX1_36⟩⟩, ⟨⟨dX1_set_5, rfl⟩, rfl⟩, ⟨⟨dX1_set_8, rfl⟩, rfl⟩, ⟨⟨dX1_set_9, rfl⟩, Or.inl ⟨by decide, _, _, fX1_11⟩⟩, ⟨⟨dX1_set_12, rfl⟩, rfl⟩, ⟨⟨dX1_set_13, rfl⟩, rfl⟩, ⟨⟨dX1_set_15, rfl⟩, trivial⟩, ⟨⟨dX1_set_16, rfl⟩, rfl⟩, ⟨⟨dX1_set_17, rfl⟩, trivial⟩, ⟨⟨dX1_set_18, rfl⟩, rfl⟩, ⟨⟨dX1_set_19, rfl⟩, trivial⟩, ⟨⟨dX1_set_20, rfl⟩, rfl⟩, trivial⟩, trivial⟩, by decide, Or.inl ⟨rfl, by decide, rfl⟩⟩
set_option maxRecDepth 100000 in
theorem g_X1_set_0 (S : sT) (call : cT) (n : Nat) (a0 : Nat) (x1 : Int32) (x2 : Int32) (x3 : Int32) (h : pH) : bd S call dflT E_X1_set (n + 1) 0 [some (.ref a0), some (.int x1), some (.int x2), some (.int x3)] [] h = (cI (call 99 [.int x1, .int x2] h) (fun y2 h1 => (if y2 = 0 then some (.inl none, h1) else gV h1 (.ref a0) 4 1 (fun w3 => sI h1 w3 0 ((x1 * 24) + x2) x3 (fun h4 => some (.inl none, h4)))))) := rfl
theorem dX1_open_0 : decode cX1_open 0 = .ok (.aload_n 0, 1) := by decide +kernel
theorem dX1_open_1 : decode cX1_open 1 = .ok (.getfield 26, 3) := by decide +kernel
theorem dX1_open_4 : decode cX1_open 4 = .ok (.bipush 24, 2) := by decide +kernel
theorem dX1_open_6 : decode cX1_open 6 = .ok (.if_icmp .lt 5, 3) := by decide +kernel
theorem dX1_open_9 : decode cX1_open 9 = .ok (.iconst (-1), 1) := by decide +kernel
theorem dX1_open_10 : decode cX1_open 10 = .ok (.ireturn, 1) := by decide +kernel
theorem dX1_open_11 : decode cX1_open 11 = .ok (.iconst 0, 1) := by decide +kernel
theorem dX1_open_12 : decode cX1_open 12 = .ok (.istore_n 2, 1) := by decide +kernel
theorem dX1_open_13 : decode cX1_open 13 = .ok (.iload_n 2, 1) := by decide +kernel
theorem dX1_open_14 : decode cX1_open 14 = .ok (.bipush 13, 2) := by decide +kernel
theorem dX1_open_16 : decode cX1_open 16 = .ok (.if_icmp .ge 19, 3) := by decide +kernel
theorem dX1_open_19 : decode cX1_open 19 = .ok (.aload_n 0, 1) := by decide +kernel
theorem dX1_open_20 : decode cX1_open 20 = .ok (.iload_n 2, 1) := by decide +kernel
theorem dX1_open_21 : decode cX1_open 21 = .ok (.aload_n 0, 1) := by decide +kernel
theorem dX1_open_22 : decode cX1_open 22 = .ok (.getfield 26, 3) := by decide +kernel
theorem dX1_open_25 : decode cX1_open 25 = .ok (.iconst 0, 1) := by decide +kernel
theorem dX1_open_26 : decode cX1_open 26 = .ok (.invokevirtual 48, 3) := by decide +kernel
theorem dX1_open_29 : decode cX1_open 29 = .ok (.iinc 2 1, 3) := by decide +kernel
theorem dX1_open_32 : decode cX1_open 32 = .ok (.goto (-19), 3) := by decide +kernel
theorem dX1_open_35 : decode cX1_open 35 = .ok (.aload_n 0, 1) := by decide +kernel
theorem dX1_open_36 : decode cX1_open 36 = .ok (.iconst 0, 1) := by decide +kernel
theorem dX1_open_37 : decode cX1_open 37 = .ok (.aload_n 0, 1) := by decide +kernel
theorem dX1_open_38 : decode cX1_open 38 = .ok (.getfield 26, 3) := by decide +kernel
theorem dX1_open_41 : decode cX1_open 41 = .ok (.iload_n 1, 1) := by decide +kernel
theorem dX1_open_42 : decode cX1_open 42 = .ok (.invokevirtual 48, 3) := by decide +kernel
theorem dX1_open_45 : decode cX1_open 45 = .ok (.aload_n 0, 1) := by decide +kernel
theorem dX1_open_46 : decode cX1_open 46 = .ok (.iconst 5, 1) := by decide +kernel
theorem dX1_open_47 : decode cX1_open 47 = .ok (.aload_n 0, 1) := by decide +kernel
theorem dX1_open_48 : decode cX1_open 48 = .ok (.getfield 26, 3) := by decide +kernel
theorem dX1_open_51 : decode cX1_open 51 = .ok (.iconst (-1), 1) := by decide +kernel
theorem dX1_open_52 : decode cX1_open 52 = .ok (.invokevirtual 48, 3) := by decide +kernel
theorem dX1_open_55 : decode cX1_open 55 = .ok (.aload_n 0, 1) := by decide +kernel
theorem dX1_open_56 : decode cX1_open 56 = .ok (.dup, 1) := by decide +kernel
theorem dX1_open_57 : decode cX1_open 57 = .ok (.getfield 26, 3) := by decide +kernel
theorem dX1_open_60 : decode cX1_open 60 = .ok (.iconst 1, 1) := by decide +kernel
theorem dX1_open_61 : decode cX1_open 61 = .ok (.iadd, 1) := by decide +kernel
theorem dX1_open_62 : decode cX1_open 62 = .ok (.putfield 26, 3) := by decide +kernel
theorem dX1_open_65 : decode cX1_open 65 = .ok (.aload_n 0, 1) := by decide +kernel
theorem dX1_open_66 : decode cX1_open 66 = .ok (.getfield 26, 3) := by decide +kernel
theorem dX1_open_69 : decode cX1_open 69 = .ok (.iconst 1, 1) := by decide +kernel
theorem dX1_open_70 : decode cX1_open 70 = .ok (.isub, 1) := by decide +kernel
theorem dX1_open_71 : decode cX1_open 71 = .ok (.ireturn, 1) := by decide +kernel
noncomputable def E_X1_open : mE := (mX1_open, [(41, [(0, (.aload_n 0, 1, false, false, 0, 0, 0, 0, 0, 0, [])), (1, (.getfield 26, 4, false, false, 4, 0, 0, 0, 0, 0, [])), (4, (.bipush 24, 6, false, false, 0, 0, 0, 0, 24, 0, [])), (6, (.if_icmp .lt 5, 9, false, false, 11, 0, 0, 0, 0, 0, [])), (9, (.iconst (-1), 10, false, false, 0, 0, 0, 0, -1, 0, [])), (10, (.ireturn, 11, false, false, 0, 0, 0, 0, 0, 0, [])), (11, (.iconst 0, 12, false, false, 0, 0, 0, 0, 0, 0, [])), (12, (.istore_n 2, 13, true, false, 2, 0, 0, 0, 0, 0, [])), (13, (.iload_n 2, 14, false, false, 2, 0, 0, 0, 0, 0, [])), (14, (.bipush 13, 16, false, false, 0, 0, 0, 0, 13, 0, [])), (16, (.if_icmp .ge 19, 19, false, false, 35, 0, 0, 0, 0, 0, [])), (19, (.aload_n 0, 20, false, false, 0, 0, 0, 0, 0, 0, [])), (20, (.iload_n 2, 21, false, false, 2, 0, 0, 0, 0, 0, [])), (21, (.aload_n 0, 22, false, false, 0, 0, 0, 0, 0, 0, [])), (22, (.getfield 26, 25, false, false, 4, 0, 0, 0, 0, 0, [])), (25, (.iconst 0, 26, false, false, 0, 0, 0, 0, 0, 0, [])), (26, (.invokevirtual 48, 29, false, false, 100, 3, 0, 4, 0, 0, [])), (29, (.iinc 2 1, 32, false, false, 2, 0, 0, 0, 1, 0, [])), (32, (.goto (-19), 35, false, true, 13, 0, 0, 0, 0, 0, [])), (35, (.aload_n 0, 36, false, false, 0, 0, 0, 0, 0, 0, [])), (36, (.iconst 0, 37, false, false, 0, 0, 0, 0, 0, 0, [])), (37, (.aload_n 0, 38, false, false, 0, 0, 0, 0, 0, 0, [])), (38, (.getfield 26, 41, false, false, 4, 0, 0, 0, 0, 0, [])), (41, (.iload_n 1, 42, false, false, 1, 0, 0, 0, 0, 0, []))]),
  (71, [(42, (.invokevirtual 48, 45, false, false, 100, 3, 0, 4, 0, 0, [])), (45, (.aload_n 0, 46, false, false, 0, 0, 0, 0, 0, 0, [])), (46, (.iconst 5, 47, false, false, 0, 0, 0, 0, 5, 0, [])), (47, (.aload_n 0, 48, false, false, 0, 0, 0, 0, 0, 0, [])), (48, (.getfield 26, 51, false, false, 4, 0, 0, 0, 0, 0, [])), (51, (.iconst (-1), 52, false, false, 0, 0, 0, 0, -1, 0, [])), (52, (.invokevirtual 48, 55, false, false, 100, 3, 0, 4, 0, 0, [])), (55, (.aload_n 0, 56, false, false, 0, 0, 0, 0, 0, 0, [])), (56, (.dup, 57, false, false, 0, 0, 0, 0, 0, 0, [])), (57, (.getfield 26, 60, false, false, 4, 0, 0, 0, 0, 0, [])), (60, (.iconst 1, 61, false, false, 0, 0, 0, 0, 1, 0, [])), (61, (.iadd, 62, false, false, 0, 0, 0, 0, 0, 0, [])), (62, (.putfield 26, 65, false, false, 4, 0, 0, 0, 0, 0, [])), (65, (.aload_n 0, 66, false, false, 0, 0, 0, 0, 0, 0, [])), (66, (.getfield 26, 69, false, false, 4, 0, 0, 0, 0, 0, [])), (69, (.iconst 1, 70, false, false, 0, 0, 0, 0, 1, 0, [])), (70, (.isub, 71, false, false, 0, 0, 0, 0, 0, 0, [])), (71, (.ireturn, 72, false, false, 0, 0, 0, 0, 0, 0, []))])], 0, [])
set_option maxRecDepth 100000 in
theorem v_X1_open : VE MYT dflT E_X1_open := ⟨⟨⟨⟨⟨dX1_open_0, rfl⟩, rfl⟩, ⟨⟨dX1_open_1, rfl⟩, Or.inl ⟨by decide, _, _, fX1_26⟩⟩, ⟨⟨dX1_open_4, rfl⟩, rfl⟩, ⟨⟨dX1_open_6, rfl⟩, rfl⟩, ⟨⟨dX1_open_9, rfl⟩, rfl⟩, ⟨⟨dX1_open_10, rfl⟩, Or.inl ⟨rfl, rfl⟩⟩, ⟨⟨dX1_open_11, rfl⟩, rfl⟩, ⟨⟨dX1_open_12, rfl⟩, rfl⟩, ⟨⟨dX1_open_13, rfl⟩, rfl⟩, ⟨⟨dX1_open_14, rfl⟩, rfl⟩, ⟨⟨dX1_open_16, rfl⟩, rfl⟩, ⟨⟨dX1_open_19, rfl⟩, rfl⟩, ⟨⟨dX1_open_20, rfl⟩, rfl⟩, ⟨⟨dX1_open_21, rfl⟩, rfl⟩, ⟨⟨dX1_open_22, rfl⟩, Or.inl ⟨by decide, _, _, fX1_26⟩⟩, ⟨⟨dX1_open_25, rfl⟩, rfl⟩, ⟨⟨dX1_open_26, rfl⟩, Or.inr ⟨by decide, ⟨_, my_100, sX1_48⟩, fun q => absurd q (by decide)⟩⟩, ⟨⟨dX1_open_29, rfl⟩, ⟨rfl, rfl⟩⟩, ⟨⟨dX1_open_32, rfl⟩, rfl⟩, ⟨⟨dX1_open_35, rfl⟩, rfl⟩, ⟨⟨dX1_open_36, rfl⟩, rfl⟩, ⟨⟨dX1_open_37, rfl⟩, rfl⟩, ⟨⟨dX1_open_38, rfl⟩, Or.inl ⟨by decide, _, _, fX1_26⟩⟩, ⟨⟨dX1_open_41, rfl⟩, rfl⟩, trivial⟩,
  ⟨⟨⟨dX1_open_42, rfl⟩, Or.inr ⟨by decide, ⟨_, my_100, sX1_48⟩, fun q => absurd q (by decide)⟩⟩, ⟨⟨dX1_open_45, rfl⟩, rfl⟩, ⟨⟨dX1_open_46, rfl⟩, rfl⟩, ⟨⟨dX1_open_47, rfl⟩, rfl⟩, ⟨⟨dX1_open_48, rfl⟩, Or.inl ⟨by decide, _, _, fX1_26⟩⟩, ⟨⟨dX1_open_51, rfl⟩, rfl⟩, ⟨⟨dX1_open_52, rfl⟩, Or.inr ⟨by decide, ⟨_, my_100, sX1_48⟩, fun q => absurd q (by decide)⟩⟩, ⟨⟨dX1_open_55, rfl⟩, rfl⟩, ⟨⟨dX1_open_56, rfl⟩, trivial⟩, ⟨⟨dX1_open_57, rfl⟩, Or.inl ⟨by decide, _, _, fX1_26⟩⟩, ⟨⟨dX1_open_60, rfl⟩, rfl⟩, ⟨⟨dX1_open_61, rfl⟩, trivial⟩, ⟨⟨dX1_open_62, rfl⟩, Or.inl ⟨rfl, fX1_26⟩⟩, ⟨⟨dX1_open_65, rfl⟩, rfl⟩, ⟨⟨dX1_open_66, rfl⟩, Or.inl ⟨by decide, _, _, fX1_26⟩⟩, ⟨⟨dX1_open_69, rfl⟩, rfl⟩, ⟨⟨dX1_open_70, rfl⟩, trivial⟩, ⟨⟨dX1_open_71, rfl⟩, Or.inl ⟨rfl, rfl⟩⟩, trivial⟩, trivial⟩, by decide, Or.inl ⟨rfl, by decide, rfl⟩⟩
set_option maxRecDepth 100000 in
theorem g_X1_open_0 (S : sT) (call : cT) (n : Nat) (a0 : Nat) (x1 : Int32) (h : pH) : bd S call dflT E_X1_open (n + 1) 0 [some (.ref a0), some (.int x1), none] [] h = (gI h (.ref a0) 4 0 (fun y1 => (if y1 < 24 then bd S call dflT E_X1_open n 13 [some (.ref a0), some (.int x1), some (.int 0)] [] h else some (.inl (some (.int (-1))), h)))) := rfl
set_option maxRecDepth 100000 in
theorem g_X1_open_13 (S : sT) (call : cT) (n : Nat) (a0 : Nat) (x1 : Int32) (x2 : Int32) (h : pH) : bd S call dflT E_X1_open (n + 1) 13 [some (.ref a0), some (.int x1), some (.int x2)] [] h = ((if 13 ≤ x2 then gI h (.ref a0) 4 0 (fun y1 => rC h (.ref a0) 4 (cU (call 100 [.ref a0, .int 0, .int y1, .int x1] h) (fun h2 => gI h2 (.ref a0) 4 0 (fun y3 => rC h2 (.ref a0) 4 (cU (call 100 [.ref a0, .int 5, .int y3, .int (-1)] h2) (fun h4 => gI h4 (.ref a0) 4 0 (fun y5 => pF h4 (.ref a0) 4 0 (.int (y5 + 1)) (fun h6 => gI h6 (.ref a0) 4 0 (fun y7 => some (.inl (some (.int (y7 - 1))), h6)))))))))) else gI h (.ref a0) 4 0 (fun y8 => rC h (.ref a0) 4 (cU (call 100 [.ref a0, .int x2, .int y8, .int 0] h) (fun h9 => bd S call dflT E_X1_open n 13 [some (.ref a0), some (.int x1), some (.int (x2 + 1))] [] h9))))) := rfl
theorem dX1_get_0 : decode cX1_get 0 = .ok (.iload_n 1, 1) := by decide +kernel
theorem dX1_get_1 : decode cX1_get 1 = .ok (.iload_n 2, 1) := by decide +kernel
theorem dX1_get_2 : decode cX1_get 2 = .ok (.invokestatic 36, 3) := by decide +kernel
theorem dX1_get_5 : decode cX1_get 5 = .ok (.ifCond .eq 17, 3) := by decide +kernel
theorem dX1_get_8 : decode cX1_get 8 = .ok (.aload_n 0, 1) := by decide +kernel
theorem dX1_get_9 : decode cX1_get 9 = .ok (.getfield 11, 3) := by decide +kernel
theorem dX1_get_12 : decode cX1_get 12 = .ok (.iload_n 1, 1) := by decide +kernel
theorem dX1_get_13 : decode cX1_get 13 = .ok (.bipush 24, 2) := by decide +kernel
theorem dX1_get_15 : decode cX1_get 15 = .ok (.imul, 1) := by decide +kernel
theorem dX1_get_16 : decode cX1_get 16 = .ok (.iload_n 2, 1) := by decide +kernel
theorem dX1_get_17 : decode cX1_get 17 = .ok (.iadd, 1) := by decide +kernel
theorem dX1_get_18 : decode cX1_get 18 = .ok (.iaload, 1) := by decide +kernel
theorem dX1_get_19 : decode cX1_get 19 = .ok (.goto 4, 3) := by decide +kernel
theorem dX1_get_22 : decode cX1_get 22 = .ok (.iconst 0, 1) := by decide +kernel
theorem dX1_get_23 : decode cX1_get 23 = .ok (.ireturn, 1) := by decide +kernel
noncomputable def E_X1_get : mE := (mX1_get, [(23, [(0, (.iload_n 1, 1, false, false, 1, 0, 0, 0, 0, 0, [])), (1, (.iload_n 2, 2, false, false, 2, 0, 0, 0, 0, 0, [])), (2, (.invokestatic 36, 5, false, false, 99, 2, 1, 0, 0, 0, [])), (5, (.ifCond .eq 17, 8, false, false, 22, 0, 0, 0, 0, 0, [])), (8, (.aload_n 0, 9, false, false, 0, 0, 0, 0, 0, 0, [])), (9, (.getfield 11, 12, false, false, 4, 1, 1, 0, 0, 0, [])), (12, (.iload_n 1, 13, false, false, 1, 0, 0, 0, 0, 0, [])), (13, (.bipush 24, 15, false, false, 0, 0, 0, 0, 24, 0, [])), (15, (.imul, 16, false, false, 0, 0, 0, 0, 0, 0, [])), (16, (.iload_n 2, 17, false, false, 2, 0, 0, 0, 0, 0, [])), (17, (.iadd, 18, false, false, 0, 0, 0, 0, 0, 0, [])), (18, (.iaload, 19, false, false, 0, 0, 0, 0, 0, 0, [])), (19, (.goto 4, 22, false, false, 23, 0, 0, 0, 0, 0, [])), (22, (.iconst 0, 23, false, false, 0, 0, 0, 0, 0, 0, [])), (23, (.ireturn, 24, false, false, 0, 0, 0, 0, 0, 0, []))])], 0, [])
set_option maxRecDepth 100000 in
theorem v_X1_get : VE MYT dflT E_X1_get := ⟨⟨⟨⟨⟨dX1_get_0, rfl⟩, rfl⟩, ⟨⟨dX1_get_1, rfl⟩, rfl⟩, ⟨⟨dX1_get_2, rfl⟩, Or.inl ⟨rfl, _, my_99, sX1_36⟩⟩, ⟨⟨dX1_get_5, rfl⟩, rfl⟩, ⟨⟨dX1_get_8, rfl⟩, rfl⟩, ⟨⟨dX1_get_9, rfl⟩, Or.inl ⟨by decide, _, _, fX1_11⟩⟩, ⟨⟨dX1_get_12, rfl⟩, rfl⟩, ⟨⟨dX1_get_13, rfl⟩, rfl⟩, ⟨⟨dX1_get_15, rfl⟩, trivial⟩, ⟨⟨dX1_get_16, rfl⟩, rfl⟩, ⟨⟨dX1_get_17, rfl⟩, trivial⟩, ⟨⟨dX1_get_18, rfl⟩, trivial⟩, ⟨⟨dX1_get_19, rfl⟩, rfl⟩, ⟨⟨dX1_get_22, rfl⟩, rfl⟩, ⟨⟨dX1_get_23, rfl⟩, Or.inl ⟨rfl, rfl⟩⟩, trivial⟩, trivial⟩, by decide, Or.inl ⟨rfl, by decide, rfl⟩⟩
set_option maxRecDepth 100000 in
theorem g_X1_get_0 (S : sT) (call : cT) (n : Nat) (a0 : Nat) (x1 : Int32) (x2 : Int32) (h : pH) : bd S call dflT E_X1_get (n + 1) 0 [some (.ref a0), some (.int x1), some (.int x2)] [] h = (cI (call 99 [.int x1, .int x2] h) (fun y2 h1 => (if y2 = 0 then some (.inl (some (.int 0)), h1) else gV h1 (.ref a0) 4 1 (fun w3 => aI h1 w3 0 ((x1 * 24) + x2) (fun y4 => some (.inl (some (.int y4)), h1)))))) := rfl
theorem dX1_grow_0 : decode cX1_grow 0 = .ok (.aload_n 0, 1) := by decide +kernel
theorem dX1_grow_1 : decode cX1_grow 1 = .ok (.iload_n 1, 1) := by decide +kernel
theorem dX1_grow_2 : decode cX1_grow 2 = .ok (.iload_n 2, 1) := by decide +kernel
theorem dX1_grow_3 : decode cX1_grow 3 = .ok (.aload_n 0, 1) := by decide +kernel
theorem dX1_grow_4 : decode cX1_grow 4 = .ok (.iload_n 1, 1) := by decide +kernel
theorem dX1_grow_5 : decode cX1_grow 5 = .ok (.iload_n 2, 1) := by decide +kernel
theorem dX1_grow_6 : decode cX1_grow 6 = .ok (.invokevirtual 40, 3) := by decide +kernel
theorem dX1_grow_9 : decode cX1_grow 9 = .ok (.i2l, 1) := by decide +kernel
theorem dX1_grow_10 : decode cX1_grow 10 = .ok (.lload_n 3, 1) := by decide +kernel
theorem dX1_grow_11 : decode cX1_grow 11 = .ok (.ladd, 1) := by decide +kernel
theorem dX1_grow_12 : decode cX1_grow 12 = .ok (.invokestatic 44, 3) := by decide +kernel
theorem dX1_grow_15 : decode cX1_grow 15 = .ok (.invokevirtual 48, 3) := by decide +kernel
theorem dX1_grow_18 : decode cX1_grow 18 = .ok (.return_, 1) := by decide +kernel
noncomputable def E_X1_grow : mE := (mX1_grow, [(18, [(0, (.aload_n 0, 1, false, false, 0, 0, 0, 0, 0, 0, [])), (1, (.iload_n 1, 2, false, false, 1, 0, 0, 0, 0, 0, [])), (2, (.iload_n 2, 3, false, false, 2, 0, 0, 0, 0, 0, [])), (3, (.aload_n 0, 4, false, false, 0, 0, 0, 0, 0, 0, [])), (4, (.iload_n 1, 5, false, false, 1, 0, 0, 0, 0, 0, [])), (5, (.iload_n 2, 6, false, false, 2, 0, 0, 0, 0, 0, [])), (6, (.invokevirtual 40, 9, false, false, 102, 2, 1, 4, 0, 0, [])), (9, (.i2l, 10, false, false, 0, 0, 0, 0, 0, 0, [])), (10, (.lload_n 3, 11, false, false, 3, 0, 0, 0, 0, 0, [])), (11, (.ladd, 12, false, false, 0, 0, 0, 0, 0, 0, [])), (12, (.invokestatic 44, 15, false, false, 103, 1, 1, 1, 0, 0, [])), (15, (.invokevirtual 48, 18, false, false, 100, 3, 0, 4, 0, 0, [])), (18, (.return_, 19, false, false, 0, 0, 0, 0, 0, 0, []))])], 0, [])
set_option maxRecDepth 100000 in
theorem v_X1_grow : VE MYT dflT E_X1_grow := ⟨⟨⟨⟨⟨dX1_grow_0, rfl⟩, rfl⟩, ⟨⟨dX1_grow_1, rfl⟩, rfl⟩, ⟨⟨dX1_grow_2, rfl⟩, rfl⟩, ⟨⟨dX1_grow_3, rfl⟩, rfl⟩, ⟨⟨dX1_grow_4, rfl⟩, rfl⟩, ⟨⟨dX1_grow_5, rfl⟩, rfl⟩, ⟨⟨dX1_grow_6, rfl⟩, Or.inr ⟨by decide, ⟨_, my_102, sX1_40⟩, fun q => absurd q (by decide)⟩⟩, ⟨⟨dX1_grow_9, rfl⟩, trivial⟩, ⟨⟨dX1_grow_10, rfl⟩, rfl⟩, ⟨⟨dX1_grow_11, rfl⟩, trivial⟩, ⟨⟨dX1_grow_12, rfl⟩, Or.inr (Or.inl ⟨rfl, 1, _, my_103, sX1_44⟩)⟩, ⟨⟨dX1_grow_15, rfl⟩, Or.inr ⟨by decide, ⟨_, my_100, sX1_48⟩, fun q => absurd q (by decide)⟩⟩, ⟨⟨dX1_grow_18, rfl⟩, rfl⟩, trivial⟩, trivial⟩, by decide, Or.inl ⟨rfl, by decide, rfl⟩⟩
set_option maxRecDepth 100000 in
theorem g_X1_grow_0 (S : sT) (call : cT) (n : Nat) (a0 : Nat) (x1 : Int32) (x2 : Int32) (j3 : Int64) (h : pH) : bd S call dflT E_X1_grow (n + 1) 0 [some (.ref a0), some (.int x1), some (.int x2), some (.long j3), none] [] h = (rC h (.ref a0) 4 (cI (call 102 [.ref a0, .int x1, .int x2] h) (fun y2 h1 => cIx tN (call 103 [.long (y2.toInt64 + j3)] h1) (fun y4 h3 => rC h3 (.ref a0) 4 (cU (call 100 [.ref a0, .int x1, .int x2, .int y4] h3) (fun h5 => some (.inl none, h5))))))) := rfl
theorem dX1_setLease_0 : decode cX1_setLease 0 = .ok (.iload_n 1, 1) := by decide +kernel
theorem dX1_setLease_1 : decode cX1_setLease 1 = .ok (.ifCond .lt 16, 3) := by decide +kernel
theorem dX1_setLease_4 : decode cX1_setLease 4 = .ok (.iload_n 1, 1) := by decide +kernel
theorem dX1_setLease_5 : decode cX1_setLease 5 = .ok (.bipush 24, 2) := by decide +kernel
theorem dX1_setLease_7 : decode cX1_setLease 7 = .ok (.if_icmp .ge 10, 3) := by decide +kernel
theorem dX1_setLease_10 : decode cX1_setLease 10 = .ok (.aload_n 0, 1) := by decide +kernel
theorem dX1_setLease_11 : decode cX1_setLease 11 = .ok (.getfield 17, 3) := by decide +kernel
theorem dX1_setLease_14 : decode cX1_setLease 14 = .ok (.iload_n 1, 1) := by decide +kernel
theorem dX1_setLease_15 : decode cX1_setLease 15 = .ok (.aload_n 2, 1) := by decide +kernel
theorem dX1_setLease_16 : decode cX1_setLease 16 = .ok (.aastore, 1) := by decide +kernel
theorem dX1_setLease_17 : decode cX1_setLease 17 = .ok (.return_, 1) := by decide +kernel
noncomputable def E_X1_setLease : mE := (mX1_setLease, [(17, [(0, (.iload_n 1, 1, false, false, 1, 0, 0, 0, 0, 0, [])), (1, (.ifCond .lt 16, 4, false, false, 17, 0, 0, 0, 0, 0, [])), (4, (.iload_n 1, 5, false, false, 1, 0, 0, 0, 0, 0, [])), (5, (.bipush 24, 7, false, false, 0, 0, 0, 0, 24, 0, [])), (7, (.if_icmp .ge 10, 10, false, false, 17, 0, 0, 0, 0, 0, [])), (10, (.aload_n 0, 11, false, false, 0, 0, 0, 0, 0, 0, [])), (11, (.getfield 17, 14, false, false, 4, 2, 1, 0, 0, 0, [])), (14, (.iload_n 1, 15, false, false, 1, 0, 0, 0, 0, 0, [])), (15, (.aload_n 2, 16, false, false, 2, 0, 0, 0, 0, 0, [])), (16, (.aastore, 17, false, false, 0, 0, 0, 0, 0, 0, [])), (17, (.return_, 18, false, false, 0, 0, 0, 0, 0, 0, []))])], 0, [])
set_option maxRecDepth 100000 in
theorem v_X1_setLease : VE MYT dflT E_X1_setLease := ⟨⟨⟨⟨⟨dX1_setLease_0, rfl⟩, rfl⟩, ⟨⟨dX1_setLease_1, rfl⟩, rfl⟩, ⟨⟨dX1_setLease_4, rfl⟩, rfl⟩, ⟨⟨dX1_setLease_5, rfl⟩, rfl⟩, ⟨⟨dX1_setLease_7, rfl⟩, rfl⟩, ⟨⟨dX1_setLease_10, rfl⟩, rfl⟩, ⟨⟨dX1_setLease_11, rfl⟩, Or.inl ⟨by decide, _, _, fX1_17⟩⟩, ⟨⟨dX1_setLease_14, rfl⟩, rfl⟩, ⟨⟨dX1_setLease_15, rfl⟩, rfl⟩, ⟨⟨dX1_setLease_16, rfl⟩, trivial⟩, ⟨⟨dX1_setLease_17, rfl⟩, rfl⟩, trivial⟩, trivial⟩, by decide, Or.inl ⟨rfl, by decide, rfl⟩⟩
set_option maxRecDepth 100000 in
theorem g_X1_setLease_0 (S : sT) (call : cT) (n : Nat) (a0 : Nat) (x1 : Int32) (v2 : Value) (h : pH) : bd S call dflT E_X1_setLease (n + 1) 0 [some (.ref a0), some (.int x1), some (v2)] [] h = ((if x1 < 0 then some (.inl none, h) else (if 24 ≤ x1 then some (.inl none, h) else gV h (.ref a0) 4 2 (fun w1 => iA v2 (sTx h w1 x1 v2 (fun h2 => some (.inl none, h2))))))) := rfl
theorem dX1_isHand_0 : decode cX1_isHand 0 = .ok (.iload_n 0, 1) := by decide +kernel
theorem dX1_isHand_1 : decode cX1_isHand 1 = .ok (.iconst 2, 1) := by decide +kernel
theorem dX1_isHand_2 : decode cX1_isHand 2 = .ok (.if_icmp .eq 8, 3) := by decide +kernel
theorem dX1_isHand_5 : decode cX1_isHand 5 = .ok (.iload_n 0, 1) := by decide +kernel
theorem dX1_isHand_6 : decode cX1_isHand 6 = .ok (.iconst 3, 1) := by decide +kernel
theorem dX1_isHand_7 : decode cX1_isHand 7 = .ok (.if_icmp .ne 7, 3) := by decide +kernel
theorem dX1_isHand_10 : decode cX1_isHand 10 = .ok (.iconst 1, 1) := by decide +kernel
theorem dX1_isHand_11 : decode cX1_isHand 11 = .ok (.goto 4, 3) := by decide +kernel
theorem dX1_isHand_14 : decode cX1_isHand 14 = .ok (.iconst 0, 1) := by decide +kernel
theorem dX1_isHand_15 : decode cX1_isHand 15 = .ok (.ireturn, 1) := by decide +kernel
noncomputable def E_X1_isHand : mE := (mX1_isHand, [(15, [(0, (.iload_n 0, 1, false, false, 0, 0, 0, 0, 0, 0, [])), (1, (.iconst 2, 2, false, false, 0, 0, 0, 0, 2, 0, [])), (2, (.if_icmp .eq 8, 5, false, false, 10, 0, 0, 0, 0, 0, [])), (5, (.iload_n 0, 6, false, false, 0, 0, 0, 0, 0, 0, [])), (6, (.iconst 3, 7, false, false, 0, 0, 0, 0, 3, 0, [])), (7, (.if_icmp .ne 7, 10, false, false, 14, 0, 0, 0, 0, 0, [])), (10, (.iconst 1, 11, false, false, 0, 0, 0, 0, 1, 0, [])), (11, (.goto 4, 14, false, false, 15, 0, 0, 0, 0, 0, [])), (14, (.iconst 0, 15, false, false, 0, 0, 0, 0, 0, 0, [])), (15, (.ireturn, 16, false, false, 0, 0, 1, 0, 0, 0, []))])], 0, [])
set_option maxRecDepth 100000 in
theorem v_X1_isHand : VE MYT dflT E_X1_isHand := ⟨⟨⟨⟨⟨dX1_isHand_0, rfl⟩, rfl⟩, ⟨⟨dX1_isHand_1, rfl⟩, rfl⟩, ⟨⟨dX1_isHand_2, rfl⟩, rfl⟩, ⟨⟨dX1_isHand_5, rfl⟩, rfl⟩, ⟨⟨dX1_isHand_6, rfl⟩, rfl⟩, ⟨⟨dX1_isHand_7, rfl⟩, rfl⟩, ⟨⟨dX1_isHand_10, rfl⟩, rfl⟩, ⟨⟨dX1_isHand_11, rfl⟩, rfl⟩, ⟨⟨dX1_isHand_14, rfl⟩, rfl⟩, ⟨⟨dX1_isHand_15, rfl⟩, Or.inr (Or.inl ⟨rfl, rfl⟩)⟩, trivial⟩, trivial⟩, by decide, Or.inl ⟨rfl, by decide, rfl⟩⟩
set_option maxRecDepth 100000 in
theorem g_X1_isHand_0 (S : sT) (call : cT) (n : Nat) (x0 : Int32) (h : pH) : bd S call dflT E_X1_isHand (n + 1) 0 [some (.int x0)] [] h = ((if x0 = 2 then zR 1 (some (.inl (some (.int 1)), h)) else (if x0 = 3 then zR 1 (some (.inl (some (.int 1)), h)) else zR 0 (some (.inl (some (.int 0)), h))))) := rfl
theorem dX1_isLet_0 : decode cX1_isLet 0 = .ok (.aload_n 0, 1) := by decide +kernel
theorem dX1_isLet_1 : decode cX1_isLet 1 = .ok (.iconst 0, 1) := by decide +kernel
theorem dX1_isLet_2 : decode cX1_isLet 2 = .ok (.iload_n 1, 1) := by decide +kernel
theorem dX1_isLet_3 : decode cX1_isLet 3 = .ok (.invokevirtual 40, 3) := by decide +kernel
theorem dX1_isLet_6 : decode cX1_isLet 6 = .ok (.ifCond .eq 13, 3) := by decide +kernel
theorem dX1_isLet_9 : decode cX1_isLet 9 = .ok (.aload_n 0, 1) := by decide +kernel
theorem dX1_isLet_10 : decode cX1_isLet 10 = .ok (.iconst 0, 1) := by decide +kernel
theorem dX1_isLet_11 : decode cX1_isLet 11 = .ok (.iload_n 1, 1) := by decide +kernel
theorem dX1_isLet_12 : decode cX1_isLet 12 = .ok (.invokevirtual 40, 3) := by decide +kernel
theorem dX1_isLet_15 : decode cX1_isLet 15 = .ok (.iconst 1, 1) := by decide +kernel
theorem dX1_isLet_16 : decode cX1_isLet 16 = .ok (.if_icmp .ne 7, 3) := by decide +kernel
theorem dX1_isLet_19 : decode cX1_isLet 19 = .ok (.iconst 1, 1) := by decide +kernel
theorem dX1_isLet_20 : decode cX1_isLet 20 = .ok (.goto 4, 3) := by decide +kernel
theorem dX1_isLet_23 : decode cX1_isLet 23 = .ok (.iconst 0, 1) := by decide +kernel
theorem dX1_isLet_24 : decode cX1_isLet 24 = .ok (.ireturn, 1) := by decide +kernel
noncomputable def E_X1_isLet : mE := (mX1_isLet, [(24, [(0, (.aload_n 0, 1, false, false, 0, 0, 0, 0, 0, 0, [])), (1, (.iconst 0, 2, false, false, 0, 0, 0, 0, 0, 0, [])), (2, (.iload_n 1, 3, false, false, 1, 0, 0, 0, 0, 0, [])), (3, (.invokevirtual 40, 6, false, false, 102, 2, 1, 4, 0, 0, [])), (6, (.ifCond .eq 13, 9, false, false, 19, 0, 0, 0, 0, 0, [])), (9, (.aload_n 0, 10, false, false, 0, 0, 0, 0, 0, 0, [])), (10, (.iconst 0, 11, false, false, 0, 0, 0, 0, 0, 0, [])), (11, (.iload_n 1, 12, false, false, 1, 0, 0, 0, 0, 0, [])), (12, (.invokevirtual 40, 15, false, false, 102, 2, 1, 4, 0, 0, [])), (15, (.iconst 1, 16, false, false, 0, 0, 0, 0, 1, 0, [])), (16, (.if_icmp .ne 7, 19, false, false, 23, 0, 0, 0, 0, 0, [])), (19, (.iconst 1, 20, false, false, 0, 0, 0, 0, 1, 0, [])), (20, (.goto 4, 23, false, false, 24, 0, 0, 0, 0, 0, [])), (23, (.iconst 0, 24, false, false, 0, 0, 0, 0, 0, 0, [])), (24, (.ireturn, 25, false, false, 0, 0, 1, 0, 0, 0, []))])], 0, [])
set_option maxRecDepth 100000 in
theorem v_X1_isLet : VE MYT dflT E_X1_isLet := ⟨⟨⟨⟨⟨dX1_isLet_0, rfl⟩, rfl⟩, ⟨⟨dX1_isLet_1, rfl⟩, rfl⟩, ⟨⟨dX1_isLet_2, rfl⟩, rfl⟩, ⟨⟨dX1_isLet_3, rfl⟩, Or.inr ⟨by decide, ⟨_, my_102, sX1_40⟩, fun q => absurd q (by decide)⟩⟩, ⟨⟨dX1_isLet_6, rfl⟩, rfl⟩, ⟨⟨dX1_isLet_9, rfl⟩, rfl⟩, ⟨⟨dX1_isLet_10, rfl⟩, rfl⟩, ⟨⟨dX1_isLet_11, rfl⟩, rfl⟩, ⟨⟨dX1_isLet_12, rfl⟩, Or.inr ⟨by decide, ⟨_, my_102, sX1_40⟩, fun q => absurd q (by decide)⟩⟩, ⟨⟨dX1_isLet_15, rfl⟩, rfl⟩, ⟨⟨dX1_isLet_16, rfl⟩, rfl⟩, ⟨⟨dX1_isLet_19, rfl⟩, rfl⟩, ⟨⟨dX1_isLet_20, rfl⟩, rfl⟩, ⟨⟨dX1_isLet_23, rfl⟩, rfl⟩, ⟨⟨dX1_isLet_24, rfl⟩, Or.inr (Or.inl ⟨rfl, rfl⟩)⟩, trivial⟩, trivial⟩, by decide, Or.inl ⟨rfl, by decide, rfl⟩⟩
set_option maxRecDepth 100000 in
theorem g_X1_isLet_0 (S : sT) (call : cT) (n : Nat) (a0 : Nat) (x1 : Int32) (h : pH) : bd S call dflT E_X1_isLet (n + 1) 0 [some (.ref a0), some (.int x1)] [] h = (rC h (.ref a0) 4 (cI (call 102 [.ref a0, .int 0, .int x1] h) (fun y2 h1 => (if y2 = 0 then zR 1 (some (.inl (some (.int 1)), h1)) else rC h1 (.ref a0) 4 (cI (call 102 [.ref a0, .int 0, .int x1] h1) (fun y4 h3 => (if y4 = 1 then zR 1 (some (.inl (some (.int 1)), h3)) else zR 0 (some (.inl (some (.int 0)), h3))))))))) := rfl
theorem dX1_leaseOf_0 : decode cX1_leaseOf 0 = .ok (.iload_n 1, 1) := by decide +kernel
theorem dX1_leaseOf_1 : decode cX1_leaseOf 1 = .ok (.ifCond .lt 18, 3) := by decide +kernel
theorem dX1_leaseOf_4 : decode cX1_leaseOf 4 = .ok (.iload_n 1, 1) := by decide +kernel
theorem dX1_leaseOf_5 : decode cX1_leaseOf 5 = .ok (.bipush 24, 2) := by decide +kernel
theorem dX1_leaseOf_7 : decode cX1_leaseOf 7 = .ok (.if_icmp .ge 12, 3) := by decide +kernel
theorem dX1_leaseOf_10 : decode cX1_leaseOf 10 = .ok (.aload_n 0, 1) := by decide +kernel
theorem dX1_leaseOf_11 : decode cX1_leaseOf 11 = .ok (.getfield 17, 3) := by decide +kernel
theorem dX1_leaseOf_14 : decode cX1_leaseOf 14 = .ok (.iload_n 1, 1) := by decide +kernel
theorem dX1_leaseOf_15 : decode cX1_leaseOf 15 = .ok (.aaload, 1) := by decide +kernel
theorem dX1_leaseOf_16 : decode cX1_leaseOf 16 = .ok (.goto 4, 3) := by decide +kernel
theorem dX1_leaseOf_19 : decode cX1_leaseOf 19 = .ok (.aconst_null, 1) := by decide +kernel
theorem dX1_leaseOf_20 : decode cX1_leaseOf 20 = .ok (.astore_n 2, 1) := by decide +kernel
theorem dX1_leaseOf_21 : decode cX1_leaseOf 21 = .ok (.aload_n 2, 1) := by decide +kernel
theorem dX1_leaseOf_22 : decode cX1_leaseOf 22 = .ok (.ifnonnull 10, 3) := by decide +kernel
theorem dX1_leaseOf_25 : decode cX1_leaseOf 25 = .ok (.aload_n 0, 1) := by decide +kernel
theorem dX1_leaseOf_26 : decode cX1_leaseOf 26 = .ok (.getfield 22, 3) := by decide +kernel
theorem dX1_leaseOf_29 : decode cX1_leaseOf 29 = .ok (.goto 4, 3) := by decide +kernel
theorem dX1_leaseOf_32 : decode cX1_leaseOf 32 = .ok (.aload_n 2, 1) := by decide +kernel
theorem dX1_leaseOf_33 : decode cX1_leaseOf 33 = .ok (.areturn, 1) := by decide +kernel
noncomputable def E_X1_leaseOf : mE := (mX1_leaseOf, [(33, [(0, (.iload_n 1, 1, false, false, 1, 0, 0, 0, 0, 0, [])), (1, (.ifCond .lt 18, 4, false, false, 19, 0, 0, 0, 0, 0, [])), (4, (.iload_n 1, 5, false, false, 1, 0, 0, 0, 0, 0, [])), (5, (.bipush 24, 7, false, false, 0, 0, 0, 0, 24, 0, [])), (7, (.if_icmp .ge 12, 10, false, false, 19, 0, 0, 0, 0, 0, [])), (10, (.aload_n 0, 11, false, false, 0, 0, 0, 0, 0, 0, [])), (11, (.getfield 17, 14, false, false, 4, 2, 1, 0, 0, 0, [])), (14, (.iload_n 1, 15, false, false, 1, 0, 0, 0, 0, 0, [])), (15, (.aaload, 16, false, false, 0, 0, 0, 0, 0, 0, [])), (16, (.goto 4, 19, false, false, 20, 0, 0, 0, 0, 0, [])), (19, (.aconst_null, 20, false, false, 0, 0, 0, 0, 0, 0, [])), (20, (.astore_n 2, 21, false, false, 2, 0, 0, 0, 0, 0, [])), (21, (.aload_n 2, 22, false, false, 2, 0, 0, 0, 0, 0, [])), (22, (.ifnonnull 10, 25, false, false, 32, 0, 0, 0, 0, 0, [])), (25, (.aload_n 0, 26, false, false, 0, 0, 0, 0, 0, 0, [])), (26, (.getfield 22, 29, false, false, 4, 3, 1, 0, 0, 0, [])), (29, (.goto 4, 32, false, false, 33, 0, 0, 0, 0, 0, [])), (32, (.aload_n 2, 33, false, false, 2, 0, 0, 0, 0, 0, [])), (33, (.areturn, 34, false, false, 0, 0, 0, 0, 0, 0, []))])], 0, [])
set_option maxRecDepth 100000 in
theorem v_X1_leaseOf : VE MYT dflT E_X1_leaseOf := ⟨⟨⟨⟨⟨dX1_leaseOf_0, rfl⟩, rfl⟩, ⟨⟨dX1_leaseOf_1, rfl⟩, rfl⟩, ⟨⟨dX1_leaseOf_4, rfl⟩, rfl⟩, ⟨⟨dX1_leaseOf_5, rfl⟩, rfl⟩, ⟨⟨dX1_leaseOf_7, rfl⟩, rfl⟩, ⟨⟨dX1_leaseOf_10, rfl⟩, rfl⟩, ⟨⟨dX1_leaseOf_11, rfl⟩, Or.inl ⟨by decide, _, _, fX1_17⟩⟩, ⟨⟨dX1_leaseOf_14, rfl⟩, rfl⟩, ⟨⟨dX1_leaseOf_15, rfl⟩, trivial⟩, ⟨⟨dX1_leaseOf_16, rfl⟩, rfl⟩, ⟨⟨dX1_leaseOf_19, rfl⟩, trivial⟩, ⟨⟨dX1_leaseOf_20, rfl⟩, rfl⟩, ⟨⟨dX1_leaseOf_21, rfl⟩, rfl⟩, ⟨⟨dX1_leaseOf_22, rfl⟩, rfl⟩, ⟨⟨dX1_leaseOf_25, rfl⟩, rfl⟩, ⟨⟨dX1_leaseOf_26, rfl⟩, Or.inl ⟨by decide, _, _, fX1_22⟩⟩, ⟨⟨dX1_leaseOf_29, rfl⟩, rfl⟩, ⟨⟨dX1_leaseOf_32, rfl⟩, rfl⟩, ⟨⟨dX1_leaseOf_33, rfl⟩, ⟨_, rfl⟩⟩, trivial⟩, trivial⟩, by decide, Or.inl ⟨rfl, by decide, rfl⟩⟩
set_option maxRecDepth 100000 in
theorem g_X1_leaseOf_0 (S : sT) (call : cT) (n : Nat) (a0 : Nat) (x1 : Int32) (h : pH) : bd S call dflT E_X1_leaseOf (n + 1) 0 [some (.ref a0), some (.int x1), none] [] h = ((if x1 < 0 then gV h (.ref a0) 4 3 (fun w1 => iA w1 (some (.inl (some (w1)), h))) else (if 24 ≤ x1 then gV h (.ref a0) 4 3 (fun w2 => iA w2 (some (.inl (some (w2)), h))) else gV h (.ref a0) 4 2 (fun w3 => aT h w3 x1 (fun w4 => iA w4 (iA w4 (iA w4 (nz w4 (gV h (.ref a0) 4 3 (fun w5 => iA w5 (some (.inl (some (w5)), h)))) (iA w4 (iA w4 (some (.inl (some (w4)), h)))))))))))) := rfl
theorem dX1_isOver_0 : decode cX1_isOver 0 = .ok (.aload_n 0, 1) := by decide +kernel
theorem dX1_isOver_1 : decode cX1_isOver 1 = .ok (.bipush 6, 2) := by decide +kernel
theorem dX1_isOver_3 : decode cX1_isOver 3 = .ok (.iload_n 1, 1) := by decide +kernel
theorem dX1_isOver_4 : decode cX1_isOver 4 = .ok (.invokevirtual 40, 3) := by decide +kernel
theorem dX1_isOver_7 : decode cX1_isOver 7 = .ok (.ifCond .eq 7, 3) := by decide +kernel
theorem dX1_isOver_10 : decode cX1_isOver 10 = .ok (.iconst 1, 1) := by decide +kernel
theorem dX1_isOver_11 : decode cX1_isOver 11 = .ok (.goto 4, 3) := by decide +kernel
theorem dX1_isOver_14 : decode cX1_isOver 14 = .ok (.iconst 0, 1) := by decide +kernel
theorem dX1_isOver_15 : decode cX1_isOver 15 = .ok (.ireturn, 1) := by decide +kernel
noncomputable def E_X1_isOver : mE := (mX1_isOver, [(15, [(0, (.aload_n 0, 1, false, false, 0, 0, 0, 0, 0, 0, [])), (1, (.bipush 6, 3, false, false, 0, 0, 0, 0, 6, 0, [])), (3, (.iload_n 1, 4, false, false, 1, 0, 0, 0, 0, 0, [])), (4, (.invokevirtual 40, 7, false, false, 102, 2, 1, 4, 0, 0, [])), (7, (.ifCond .eq 7, 10, false, false, 14, 0, 0, 0, 0, 0, [])), (10, (.iconst 1, 11, false, false, 0, 0, 0, 0, 1, 0, [])), (11, (.goto 4, 14, false, false, 15, 0, 0, 0, 0, 0, [])), (14, (.iconst 0, 15, false, false, 0, 0, 0, 0, 0, 0, [])), (15, (.ireturn, 16, false, false, 0, 0, 1, 0, 0, 0, []))])], 0, [])
set_option maxRecDepth 100000 in
theorem v_X1_isOver : VE MYT dflT E_X1_isOver := ⟨⟨⟨⟨⟨dX1_isOver_0, rfl⟩, rfl⟩, ⟨⟨dX1_isOver_1, rfl⟩, rfl⟩, ⟨⟨dX1_isOver_3, rfl⟩, rfl⟩, ⟨⟨dX1_isOver_4, rfl⟩, Or.inr ⟨by decide, ⟨_, my_102, sX1_40⟩, fun q => absurd q (by decide)⟩⟩, ⟨⟨dX1_isOver_7, rfl⟩, rfl⟩, ⟨⟨dX1_isOver_10, rfl⟩, rfl⟩, ⟨⟨dX1_isOver_11, rfl⟩, rfl⟩, ⟨⟨dX1_isOver_14, rfl⟩, rfl⟩, ⟨⟨dX1_isOver_15, rfl⟩, Or.inr (Or.inl ⟨rfl, rfl⟩)⟩, trivial⟩, trivial⟩, by decide, Or.inl ⟨rfl, by decide, rfl⟩⟩
set_option maxRecDepth 100000 in
theorem g_X1_isOver_0 (S : sT) (call : cT) (n : Nat) (a0 : Nat) (x1 : Int32) (h : pH) : bd S call dflT E_X1_isOver (n + 1) 0 [some (.ref a0), some (.int x1)] [] h = (rC h (.ref a0) 4 (cI (call 102 [.ref a0, .int 6, .int x1] h) (fun y2 h1 => (if y2 = 0 then zR 0 (some (.inl (some (.int 0)), h1)) else zR 1 (some (.inl (some (.int 1)), h1)))))) := rfl
theorem dX1_rankOf_0 : decode cX1_rankOf 0 = .ok (.iconst 0, 1) := by decide +kernel
theorem dX1_rankOf_1 : decode cX1_rankOf 1 = .ok (.istore_n 2, 1) := by decide +kernel
theorem dX1_rankOf_2 : decode cX1_rankOf 2 = .ok (.aload_n 0, 1) := by decide +kernel
theorem dX1_rankOf_3 : decode cX1_rankOf 3 = .ok (.iconst 3, 1) := by decide +kernel
theorem dX1_rankOf_4 : decode cX1_rankOf 4 = .ok (.iload_n 1, 1) := by decide +kernel
theorem dX1_rankOf_5 : decode cX1_rankOf 5 = .ok (.invokevirtual 40, 3) := by decide +kernel
theorem dX1_rankOf_8 : decode cX1_rankOf 8 = .ok (.istore_n 3, 1) := by decide +kernel
theorem dX1_rankOf_9 : decode cX1_rankOf 9 = .ok (.iconst 0, 1) := by decide +kernel
theorem dX1_rankOf_10 : decode cX1_rankOf 10 = .ok (.istore 4, 2) := by decide +kernel
theorem dX1_rankOf_12 : decode cX1_rankOf 12 = .ok (.iload 4, 2) := by decide +kernel
theorem dX1_rankOf_14 : decode cX1_rankOf 14 = .ok (.aload_n 0, 1) := by decide +kernel
theorem dX1_rankOf_15 : decode cX1_rankOf 15 = .ok (.getfield 26, 3) := by decide +kernel
theorem dX1_rankOf_18 : decode cX1_rankOf 18 = .ok (.if_icmp .ge 39, 3) := by decide +kernel
theorem dX1_rankOf_21 : decode cX1_rankOf 21 = .ok (.aload_n 0, 1) := by decide +kernel
theorem dX1_rankOf_22 : decode cX1_rankOf 22 = .ok (.iconst 3, 1) := by decide +kernel
theorem dX1_rankOf_23 : decode cX1_rankOf 23 = .ok (.iload 4, 2) := by decide +kernel
theorem dX1_rankOf_25 : decode cX1_rankOf 25 = .ok (.invokevirtual 40, 3) := by decide +kernel
theorem dX1_rankOf_28 : decode cX1_rankOf 28 = .ok (.istore 5, 2) := by decide +kernel
theorem dX1_rankOf_30 : decode cX1_rankOf 30 = .ok (.iload 5, 2) := by decide +kernel
theorem dX1_rankOf_32 : decode cX1_rankOf 32 = .ok (.iload_n 3, 1) := by decide +kernel
theorem dX1_rankOf_33 : decode cX1_rankOf 33 = .ok (.if_icmp .gt 15, 3) := by decide +kernel
theorem dX1_rankOf_36 : decode cX1_rankOf 36 = .ok (.iload 5, 2) := by decide +kernel
theorem dX1_rankOf_38 : decode cX1_rankOf 38 = .ok (.iload_n 3, 1) := by decide +kernel
theorem dX1_rankOf_39 : decode cX1_rankOf 39 = .ok (.if_icmp .ne 12, 3) := by decide +kernel
theorem dX1_rankOf_42 : decode cX1_rankOf 42 = .ok (.iload 4, 2) := by decide +kernel
theorem dX1_rankOf_44 : decode cX1_rankOf 44 = .ok (.iload_n 1, 1) := by decide +kernel
theorem dX1_rankOf_45 : decode cX1_rankOf 45 = .ok (.if_icmp .ge 6, 3) := by decide +kernel
theorem dX1_rankOf_48 : decode cX1_rankOf 48 = .ok (.iinc 2 1, 3) := by decide +kernel
theorem dX1_rankOf_51 : decode cX1_rankOf 51 = .ok (.iinc 4 1, 3) := by decide +kernel
theorem dX1_rankOf_54 : decode cX1_rankOf 54 = .ok (.goto (-42), 3) := by decide +kernel
theorem dX1_rankOf_57 : decode cX1_rankOf 57 = .ok (.iload_n 2, 1) := by decide +kernel
theorem dX1_rankOf_58 : decode cX1_rankOf 58 = .ok (.ireturn, 1) := by decide +kernel
noncomputable def E_X1_rankOf : mE := (mX1_rankOf, [(39, [(0, (.iconst 0, 1, false, false, 0, 0, 0, 0, 0, 0, [])), (1, (.istore_n 2, 2, false, false, 2, 0, 0, 0, 0, 0, [])), (2, (.aload_n 0, 3, false, false, 0, 0, 0, 0, 0, 0, [])), (3, (.iconst 3, 4, false, false, 0, 0, 0, 0, 3, 0, [])), (4, (.iload_n 1, 5, false, false, 1, 0, 0, 0, 0, 0, [])), (5, (.invokevirtual 40, 8, false, false, 102, 2, 1, 4, 0, 0, [])), (8, (.istore_n 3, 9, false, false, 3, 0, 0, 0, 0, 0, [])), (9, (.iconst 0, 10, false, false, 0, 0, 0, 0, 0, 0, [])), (10, (.istore 4, 12, true, false, 4, 0, 0, 0, 0, 0, [])), (12, (.iload 4, 14, false, false, 4, 0, 0, 0, 0, 0, [])), (14, (.aload_n 0, 15, false, false, 0, 0, 0, 0, 0, 0, [])), (15, (.getfield 26, 18, false, false, 4, 0, 0, 0, 0, 0, [])), (18, (.if_icmp .ge 39, 21, false, false, 57, 0, 0, 0, 0, 0, [])), (21, (.aload_n 0, 22, false, false, 0, 0, 0, 0, 0, 0, [])), (22, (.iconst 3, 23, false, false, 0, 0, 0, 0, 3, 0, [])), (23, (.iload 4, 25, false, false, 4, 0, 0, 0, 0, 0, [])), (25, (.invokevirtual 40, 28, false, false, 102, 2, 1, 4, 0, 0, [])), (28, (.istore 5, 30, false, false, 5, 0, 0, 0, 0, 0, [])), (30, (.iload 5, 32, false, false, 5, 0, 0, 0, 0, 0, [])), (32, (.iload_n 3, 33, false, false, 3, 0, 0, 0, 0, 0, [])), (33, (.if_icmp .gt 15, 36, false, false, 48, 0, 0, 0, 0, 0, [])), (36, (.iload 5, 38, false, false, 5, 0, 0, 0, 0, 0, [])), (38, (.iload_n 3, 39, false, false, 3, 0, 0, 0, 0, 0, [])), (39, (.if_icmp .ne 12, 42, false, false, 51, 0, 0, 0, 0, 0, []))]),
  (58, [(42, (.iload 4, 44, false, false, 4, 0, 0, 0, 0, 0, [])), (44, (.iload_n 1, 45, false, false, 1, 0, 0, 0, 0, 0, [])), (45, (.if_icmp .ge 6, 48, false, false, 51, 0, 0, 0, 0, 0, [])), (48, (.iinc 2 1, 51, false, false, 2, 0, 0, 0, 1, 0, [])), (51, (.iinc 4 1, 54, false, false, 4, 0, 0, 0, 1, 0, [])), (54, (.goto (-42), 57, false, true, 12, 0, 0, 0, 0, 0, [])), (57, (.iload_n 2, 58, false, false, 2, 0, 0, 0, 0, 0, [])), (58, (.ireturn, 59, false, false, 0, 0, 0, 0, 0, 0, []))])], 0, [])
set_option maxRecDepth 100000 in
theorem v_X1_rankOf : VE MYT dflT E_X1_rankOf := ⟨⟨⟨⟨⟨dX1_rankOf_0, rfl⟩, rfl⟩, ⟨⟨dX1_rankOf_1, rfl⟩, rfl⟩, ⟨⟨dX1_rankOf_2, rfl⟩, rfl⟩, ⟨⟨dX1_rankOf_3, rfl⟩, rfl⟩, ⟨⟨dX1_rankOf_4, rfl⟩, rfl⟩, ⟨⟨dX1_rankOf_5, rfl⟩, Or.inr ⟨by decide, ⟨_, my_102, sX1_40⟩, fun q => absurd q (by decide)⟩⟩, ⟨⟨dX1_rankOf_8, rfl⟩, rfl⟩, ⟨⟨dX1_rankOf_9, rfl⟩, rfl⟩, ⟨⟨dX1_rankOf_10, rfl⟩, rfl⟩, ⟨⟨dX1_rankOf_12, rfl⟩, rfl⟩, ⟨⟨dX1_rankOf_14, rfl⟩, rfl⟩, ⟨⟨dX1_rankOf_15, rfl⟩, Or.inl ⟨by decide, _, _, fX1_26⟩⟩, ⟨⟨dX1_rankOf_18, rfl⟩, rfl⟩, ⟨⟨dX1_rankOf_21, rfl⟩, rfl⟩, ⟨⟨dX1_rankOf_22, rfl⟩, rfl⟩, ⟨⟨dX1_rankOf_23, rfl⟩, rfl⟩, ⟨⟨dX1_rankOf_25, rfl⟩, Or.inr ⟨by decide, ⟨_, my_102, sX1_40⟩, fun q => absurd q (by decide)⟩⟩, ⟨⟨dX1_rankOf_28, rfl⟩, rfl⟩, ⟨⟨dX1_rankOf_30, rfl⟩, rfl⟩, ⟨⟨dX1_rankOf_32, rfl⟩, rfl⟩, ⟨⟨dX1_rankOf_33, rfl⟩, rfl⟩, ⟨⟨dX1_rankOf_36, rfl⟩, rfl⟩, ⟨⟨dX1_rankOf_38, rfl⟩, rfl⟩, ⟨⟨dX1_rankOf_39, rfl⟩, rfl⟩, trivial⟩,
  ⟨⟨⟨dX1_rankOf_42, rfl⟩, rfl⟩, ⟨⟨dX1_rankOf_44, rfl⟩, rfl⟩, ⟨⟨dX1_rankOf_45, rfl⟩, rfl⟩, ⟨⟨dX1_rankOf_48, rfl⟩, ⟨rfl, rfl⟩⟩, ⟨⟨dX1_rankOf_51, rfl⟩, ⟨rfl, rfl⟩⟩, ⟨⟨dX1_rankOf_54, rfl⟩, rfl⟩, ⟨⟨dX1_rankOf_57, rfl⟩, rfl⟩, ⟨⟨dX1_rankOf_58, rfl⟩, Or.inl ⟨rfl, rfl⟩⟩, trivial⟩, trivial⟩, by decide, Or.inl ⟨rfl, by decide, rfl⟩⟩
set_option maxRecDepth 100000 in
theorem g_X1_rankOf_0 (S : sT) (call : cT) (n : Nat) (a0 : Nat) (x1 : Int32) (h : pH) : bd S call dflT E_X1_rankOf (n + 1) 0 [some (.ref a0), some (.int x1), none, none, none, none] [] h = (rC h (.ref a0) 4 (cI (call 102 [.ref a0, .int 3, .int x1] h) (fun y2 h1 => bd S call dflT E_X1_rankOf n 12 [some (.ref a0), some (.int x1), some (.int 0), some (.int y2), some (.int 0), none] [] h1))) := rfl
set_option maxRecDepth 100000 in
theorem g_X1_rankOf_12 (S : sT) (call : cT) (n : Nat) (a0 : Nat) (x1 : Int32) (x2 : Int32) (x3 : Int32) (x4 : Int32) (o5 : Option Value) (h : pH) : bd S call dflT E_X1_rankOf (n + 1) 12 [some (.ref a0), some (.int x1), some (.int x2), some (.int x3), some (.int x4), o5] [] h = (gI h (.ref a0) 4 0 (fun y1 => (if y1 ≤ x4 then some (.inl (some (.int x2)), h) else rC h (.ref a0) 4 (cI (call 102 [.ref a0, .int 3, .int x4] h) (fun y3 h2 => (if x3 < y3 then bd S call dflT E_X1_rankOf n 12 [some (.ref a0), some (.int x1), some (.int (x2 + 1)), some (.int x3), some (.int (x4 + 1)), some (.int y3)] [] h2 else (if y3 = x3 then (if x1 ≤ x4 then bd S call dflT E_X1_rankOf n 12 [some (.ref a0), some (.int x1), some (.int x2), some (.int x3), some (.int (x4 + 1)), some (.int y3)] [] h2 else bd S call dflT E_X1_rankOf n 12 [some (.ref a0), some (.int x1), some (.int (x2 + 1)), some (.int x3), some (.int (x4 + 1)), some (.int y3)] [] h2) else bd S call dflT E_X1_rankOf n 12 [some (.ref a0), some (.int x1), some (.int x2), some (.int x3), some (.int (x4 + 1)), some (.int y3)] [] h2))))))) := rfl
theorem dX1_ofRank_0 : decode cX1_ofRank 0 = .ok (.iconst 0, 1) := by decide +kernel
theorem dX1_ofRank_1 : decode cX1_ofRank 1 = .ok (.istore_n 2, 1) := by decide +kernel
theorem dX1_ofRank_2 : decode cX1_ofRank 2 = .ok (.iload_n 2, 1) := by decide +kernel
theorem dX1_ofRank_3 : decode cX1_ofRank 3 = .ok (.aload_n 0, 1) := by decide +kernel
theorem dX1_ofRank_4 : decode cX1_ofRank 4 = .ok (.getfield 26, 3) := by decide +kernel
theorem dX1_ofRank_7 : decode cX1_ofRank 7 = .ok (.if_icmp .ge 29, 3) := by decide +kernel
theorem dX1_ofRank_10 : decode cX1_ofRank 10 = .ok (.aload_n 0, 1) := by decide +kernel
theorem dX1_ofRank_11 : decode cX1_ofRank 11 = .ok (.iconst 3, 1) := by decide +kernel
theorem dX1_ofRank_12 : decode cX1_ofRank 12 = .ok (.iload_n 2, 1) := by decide +kernel
theorem dX1_ofRank_13 : decode cX1_ofRank 13 = .ok (.invokevirtual 40, 3) := by decide +kernel
theorem dX1_ofRank_16 : decode cX1_ofRank 16 = .ok (.ifCond .le 14, 3) := by decide +kernel
theorem dX1_ofRank_19 : decode cX1_ofRank 19 = .ok (.aload_n 0, 1) := by decide +kernel
theorem dX1_ofRank_20 : decode cX1_ofRank 20 = .ok (.iload_n 2, 1) := by decide +kernel
theorem dX1_ofRank_21 : decode cX1_ofRank 21 = .ok (.invokevirtual 56, 3) := by decide +kernel
theorem dX1_ofRank_24 : decode cX1_ofRank 24 = .ok (.iload_n 1, 1) := by decide +kernel
theorem dX1_ofRank_25 : decode cX1_ofRank 25 = .ok (.if_icmp .ne 5, 3) := by decide +kernel
theorem dX1_ofRank_28 : decode cX1_ofRank 28 = .ok (.iload_n 2, 1) := by decide +kernel
theorem dX1_ofRank_29 : decode cX1_ofRank 29 = .ok (.ireturn, 1) := by decide +kernel
theorem dX1_ofRank_30 : decode cX1_ofRank 30 = .ok (.iinc 2 1, 3) := by decide +kernel
theorem dX1_ofRank_33 : decode cX1_ofRank 33 = .ok (.goto (-31), 3) := by decide +kernel
theorem dX1_ofRank_36 : decode cX1_ofRank 36 = .ok (.iconst (-1), 1) := by decide +kernel
theorem dX1_ofRank_37 : decode cX1_ofRank 37 = .ok (.ireturn, 1) := by decide +kernel
noncomputable def E_X1_ofRank : mE := (mX1_ofRank, [(37, [(0, (.iconst 0, 1, false, false, 0, 0, 0, 0, 0, 0, [])), (1, (.istore_n 2, 2, true, false, 2, 0, 0, 0, 0, 0, [])), (2, (.iload_n 2, 3, false, false, 2, 0, 0, 0, 0, 0, [])), (3, (.aload_n 0, 4, false, false, 0, 0, 0, 0, 0, 0, [])), (4, (.getfield 26, 7, false, false, 4, 0, 0, 0, 0, 0, [])), (7, (.if_icmp .ge 29, 10, false, false, 36, 0, 0, 0, 0, 0, [])), (10, (.aload_n 0, 11, false, false, 0, 0, 0, 0, 0, 0, [])), (11, (.iconst 3, 12, false, false, 0, 0, 0, 0, 3, 0, [])), (12, (.iload_n 2, 13, false, false, 2, 0, 0, 0, 0, 0, [])), (13, (.invokevirtual 40, 16, false, false, 102, 2, 1, 4, 0, 0, [])), (16, (.ifCond .le 14, 19, false, false, 30, 0, 0, 0, 0, 0, [])), (19, (.aload_n 0, 20, false, false, 0, 0, 0, 0, 0, 0, [])), (20, (.iload_n 2, 21, false, false, 2, 0, 0, 0, 0, 0, [])), (21, (.invokevirtual 56, 24, false, false, 273, 1, 1, 4, 0, 0, [])), (24, (.iload_n 1, 25, false, false, 1, 0, 0, 0, 0, 0, [])), (25, (.if_icmp .ne 5, 28, false, false, 30, 0, 0, 0, 0, 0, [])), (28, (.iload_n 2, 29, false, false, 2, 0, 0, 0, 0, 0, [])), (29, (.ireturn, 30, false, false, 0, 0, 0, 0, 0, 0, [])), (30, (.iinc 2 1, 33, false, false, 2, 0, 0, 0, 1, 0, [])), (33, (.goto (-31), 36, false, true, 2, 0, 0, 0, 0, 0, [])), (36, (.iconst (-1), 37, false, false, 0, 0, 0, 0, -1, 0, [])), (37, (.ireturn, 38, false, false, 0, 0, 0, 0, 0, 0, []))])], 0, [])
set_option maxRecDepth 100000 in
theorem v_X1_ofRank : VE MYT dflT E_X1_ofRank := ⟨⟨⟨⟨⟨dX1_ofRank_0, rfl⟩, rfl⟩, ⟨⟨dX1_ofRank_1, rfl⟩, rfl⟩, ⟨⟨dX1_ofRank_2, rfl⟩, rfl⟩, ⟨⟨dX1_ofRank_3, rfl⟩, rfl⟩, ⟨⟨dX1_ofRank_4, rfl⟩, Or.inl ⟨by decide, _, _, fX1_26⟩⟩, ⟨⟨dX1_ofRank_7, rfl⟩, rfl⟩, ⟨⟨dX1_ofRank_10, rfl⟩, rfl⟩, ⟨⟨dX1_ofRank_11, rfl⟩, rfl⟩, ⟨⟨dX1_ofRank_12, rfl⟩, rfl⟩, ⟨⟨dX1_ofRank_13, rfl⟩, Or.inr ⟨by decide, ⟨_, my_102, sX1_40⟩, fun q => absurd q (by decide)⟩⟩, ⟨⟨dX1_ofRank_16, rfl⟩, rfl⟩, ⟨⟨dX1_ofRank_19, rfl⟩, rfl⟩, ⟨⟨dX1_ofRank_20, rfl⟩, rfl⟩, ⟨⟨dX1_ofRank_21, rfl⟩, Or.inr ⟨by decide, ⟨_, my_273, sX1_56⟩, fun q => absurd q (by decide)⟩⟩, ⟨⟨dX1_ofRank_24, rfl⟩, rfl⟩, ⟨⟨dX1_ofRank_25, rfl⟩, rfl⟩, ⟨⟨dX1_ofRank_28, rfl⟩, rfl⟩, ⟨⟨dX1_ofRank_29, rfl⟩, Or.inl ⟨rfl, rfl⟩⟩, ⟨⟨dX1_ofRank_30, rfl⟩, ⟨rfl, rfl⟩⟩, ⟨⟨dX1_ofRank_33, rfl⟩, rfl⟩, ⟨⟨dX1_ofRank_36, rfl⟩, rfl⟩, ⟨⟨dX1_ofRank_37, rfl⟩, Or.inl ⟨rfl, rfl⟩⟩, trivial⟩, trivial⟩, by decide, Or.inl ⟨rfl, by decide, rfl⟩⟩
set_option maxRecDepth 100000 in
theorem g_X1_ofRank_0 (S : sT) (call : cT) (n : Nat) (a0 : Nat) (x1 : Int32) (h : pH) : bd S call dflT E_X1_ofRank (n + 1) 0 [some (.ref a0), some (.int x1), none] [] h = (bd S call dflT E_X1_ofRank n 2 [some (.ref a0), some (.int x1), some (.int 0)] [] h) := rfl
set_option maxRecDepth 100000 in
theorem g_X1_ofRank_2 (S : sT) (call : cT) (n : Nat) (a0 : Nat) (x1 : Int32) (x2 : Int32) (h : pH) : bd S call dflT E_X1_ofRank (n + 1) 2 [some (.ref a0), some (.int x1), some (.int x2)] [] h = (gI h (.ref a0) 4 0 (fun y1 => (if y1 ≤ x2 then some (.inl (some (.int (-1))), h) else rC h (.ref a0) 4 (cI (call 102 [.ref a0, .int 3, .int x2] h) (fun y3 h2 => (if y3 ≤ 0 then bd S call dflT E_X1_ofRank n 2 [some (.ref a0), some (.int x1), some (.int (x2 + 1))] [] h2 else rC h2 (.ref a0) 4 (cI (call 273 [.ref a0, .int x2] h2) (fun y5 h4 => (if y5 = x1 then some (.inl (some (.int x2)), h4) else bd S call dflT E_X1_ofRank n 2 [some (.ref a0), some (.int x1), some (.int (x2 + 1))] [] h4))))))))) := rfl
theorem dX1_copyFrom_0 : decode cX1_copyFrom 0 = .ok (.aload_n 0, 1) := by decide +kernel
theorem dX1_copyFrom_1 : decode cX1_copyFrom 1 = .ok (.aload_n 1, 1) := by decide +kernel
theorem dX1_copyFrom_2 : decode cX1_copyFrom 2 = .ok (.getfield 26, 3) := by decide +kernel
theorem dX1_copyFrom_5 : decode cX1_copyFrom 5 = .ok (.putfield 26, 3) := by decide +kernel
theorem dX1_copyFrom_8 : decode cX1_copyFrom 8 = .ok (.aload_n 1, 1) := by decide +kernel
theorem dX1_copyFrom_9 : decode cX1_copyFrom 9 = .ok (.getfield 11, 3) := by decide +kernel
theorem dX1_copyFrom_12 : decode cX1_copyFrom 12 = .ok (.iconst 0, 1) := by decide +kernel
theorem dX1_copyFrom_13 : decode cX1_copyFrom 13 = .ok (.aload_n 0, 1) := by decide +kernel
theorem dX1_copyFrom_14 : decode cX1_copyFrom 14 = .ok (.getfield 11, 3) := by decide +kernel
theorem dX1_copyFrom_17 : decode cX1_copyFrom 17 = .ok (.iconst 0, 1) := by decide +kernel
theorem dX1_copyFrom_18 : decode cX1_copyFrom 18 = .ok (.sipush 312, 3) := by decide +kernel
theorem dX1_copyFrom_21 : decode cX1_copyFrom 21 = .ok (.invokestatic 30, 3) := by decide +kernel
theorem dX1_copyFrom_24 : decode cX1_copyFrom 24 = .ok (.iconst 0, 1) := by decide +kernel
theorem dX1_copyFrom_25 : decode cX1_copyFrom 25 = .ok (.istore_n 2, 1) := by decide +kernel
theorem dX1_copyFrom_26 : decode cX1_copyFrom 26 = .ok (.iload_n 2, 1) := by decide +kernel
theorem dX1_copyFrom_27 : decode cX1_copyFrom 27 = .ok (.bipush 24, 2) := by decide +kernel
theorem dX1_copyFrom_29 : decode cX1_copyFrom 29 = .ok (.if_icmp .ge 21, 3) := by decide +kernel
theorem dX1_copyFrom_32 : decode cX1_copyFrom 32 = .ok (.aload_n 0, 1) := by decide +kernel
theorem dX1_copyFrom_33 : decode cX1_copyFrom 33 = .ok (.getfield 17, 3) := by decide +kernel
theorem dX1_copyFrom_36 : decode cX1_copyFrom 36 = .ok (.iload_n 2, 1) := by decide +kernel
theorem dX1_copyFrom_37 : decode cX1_copyFrom 37 = .ok (.aload_n 1, 1) := by decide +kernel
theorem dX1_copyFrom_38 : decode cX1_copyFrom 38 = .ok (.getfield 17, 3) := by decide +kernel
theorem dX1_copyFrom_41 : decode cX1_copyFrom 41 = .ok (.iload_n 2, 1) := by decide +kernel
theorem dX1_copyFrom_42 : decode cX1_copyFrom 42 = .ok (.aaload, 1) := by decide +kernel
theorem dX1_copyFrom_43 : decode cX1_copyFrom 43 = .ok (.aastore, 1) := by decide +kernel
theorem dX1_copyFrom_44 : decode cX1_copyFrom 44 = .ok (.iinc 2 1, 3) := by decide +kernel
theorem dX1_copyFrom_47 : decode cX1_copyFrom 47 = .ok (.goto (-21), 3) := by decide +kernel
theorem dX1_copyFrom_50 : decode cX1_copyFrom 50 = .ok (.return_, 1) := by decide +kernel
noncomputable def E_X1_copyFrom : mE := (mX1_copyFrom, [(42, [(0, (.aload_n 0, 1, false, false, 0, 0, 0, 0, 0, 0, [])), (1, (.aload_n 1, 2, false, false, 1, 0, 0, 0, 0, 0, [])), (2, (.getfield 26, 5, false, false, 4, 0, 0, 0, 0, 0, [])), (5, (.putfield 26, 8, false, false, 4, 0, 0, 0, 0, 0, [])), (8, (.aload_n 1, 9, false, false, 1, 0, 0, 0, 0, 0, [])), (9, (.getfield 11, 12, false, false, 4, 1, 1, 0, 0, 0, [])), (12, (.iconst 0, 13, false, false, 0, 0, 0, 0, 0, 0, [])), (13, (.aload_n 0, 14, false, false, 0, 0, 0, 0, 0, 0, [])), (14, (.getfield 11, 17, false, false, 4, 1, 1, 0, 0, 0, [])), (17, (.iconst 0, 18, false, false, 0, 0, 0, 0, 0, 0, [])), (18, (.sipush 312, 21, false, false, 0, 0, 0, 0, 312, 0, [])), (21, (.invokestatic 30, 24, false, false, 0, 5, 0, 2, 0, 0, [])), (24, (.iconst 0, 25, false, false, 0, 0, 0, 0, 0, 0, [])), (25, (.istore_n 2, 26, true, false, 2, 0, 0, 0, 0, 0, [])), (26, (.iload_n 2, 27, false, false, 2, 0, 0, 0, 0, 0, [])), (27, (.bipush 24, 29, false, false, 0, 0, 0, 0, 24, 0, [])), (29, (.if_icmp .ge 21, 32, false, false, 50, 0, 0, 0, 0, 0, [])), (32, (.aload_n 0, 33, false, false, 0, 0, 0, 0, 0, 0, [])), (33, (.getfield 17, 36, false, false, 4, 2, 1, 0, 0, 0, [])), (36, (.iload_n 2, 37, false, false, 2, 0, 0, 0, 0, 0, [])), (37, (.aload_n 1, 38, false, false, 1, 0, 0, 0, 0, 0, [])), (38, (.getfield 17, 41, false, false, 4, 2, 1, 0, 0, 0, [])), (41, (.iload_n 2, 42, false, false, 2, 0, 0, 0, 0, 0, [])), (42, (.aaload, 43, false, false, 0, 0, 0, 0, 0, 0, []))]),
  (50, [(43, (.aastore, 44, false, false, 0, 0, 0, 0, 0, 0, [])), (44, (.iinc 2 1, 47, false, false, 2, 0, 0, 0, 1, 0, [])), (47, (.goto (-21), 50, false, true, 26, 0, 0, 0, 0, 0, [])), (50, (.return_, 51, false, false, 0, 0, 0, 0, 0, 0, []))])], 0, [])
set_option maxRecDepth 100000 in
theorem v_X1_copyFrom : VE MYT dflT E_X1_copyFrom := ⟨⟨⟨⟨⟨dX1_copyFrom_0, rfl⟩, rfl⟩, ⟨⟨dX1_copyFrom_1, rfl⟩, rfl⟩, ⟨⟨dX1_copyFrom_2, rfl⟩, Or.inl ⟨by decide, _, _, fX1_26⟩⟩, ⟨⟨dX1_copyFrom_5, rfl⟩, Or.inl ⟨rfl, fX1_26⟩⟩, ⟨⟨dX1_copyFrom_8, rfl⟩, rfl⟩, ⟨⟨dX1_copyFrom_9, rfl⟩, Or.inl ⟨by decide, _, _, fX1_11⟩⟩, ⟨⟨dX1_copyFrom_12, rfl⟩, rfl⟩, ⟨⟨dX1_copyFrom_13, rfl⟩, rfl⟩, ⟨⟨dX1_copyFrom_14, rfl⟩, Or.inl ⟨by decide, _, _, fX1_11⟩⟩, ⟨⟨dX1_copyFrom_17, rfl⟩, rfl⟩, ⟨⟨dX1_copyFrom_18, rfl⟩, rfl⟩, ⟨⟨dX1_copyFrom_21, rfl⟩, Or.inr (Or.inr (Or.inl ⟨rfl, acX1_30, ac_1, ac_2, ac_3⟩))⟩, ⟨⟨dX1_copyFrom_24, rfl⟩, rfl⟩, ⟨⟨dX1_copyFrom_25, rfl⟩, rfl⟩, ⟨⟨dX1_copyFrom_26, rfl⟩, rfl⟩, ⟨⟨dX1_copyFrom_27, rfl⟩, rfl⟩, ⟨⟨dX1_copyFrom_29, rfl⟩, rfl⟩, ⟨⟨dX1_copyFrom_32, rfl⟩, rfl⟩, ⟨⟨dX1_copyFrom_33, rfl⟩, Or.inl ⟨by decide, _, _, fX1_17⟩⟩, ⟨⟨dX1_copyFrom_36, rfl⟩, rfl⟩, ⟨⟨dX1_copyFrom_37, rfl⟩, rfl⟩, ⟨⟨dX1_copyFrom_38, rfl⟩, Or.inl ⟨by decide, _, _, fX1_17⟩⟩, ⟨⟨dX1_copyFrom_41, rfl⟩, rfl⟩, ⟨⟨dX1_copyFrom_42, rfl⟩, trivial⟩, trivial⟩,
  ⟨⟨⟨dX1_copyFrom_43, rfl⟩, trivial⟩, ⟨⟨dX1_copyFrom_44, rfl⟩, ⟨rfl, rfl⟩⟩, ⟨⟨dX1_copyFrom_47, rfl⟩, rfl⟩, ⟨⟨dX1_copyFrom_50, rfl⟩, rfl⟩, trivial⟩, trivial⟩, by decide, Or.inl ⟨rfl, by decide, rfl⟩⟩
set_option maxRecDepth 100000 in
theorem g_X1_copyFrom_0 (S : sT) (call : cT) (n : Nat) (a0 : Nat) (v1 : Value) (h : pH) : bd S call dflT E_X1_copyFrom (n + 1) 0 [some (.ref a0), some (v1), none] [] h = (iA v1 (gI h v1 4 0 (fun y1 => pF h (.ref a0) 4 0 (.int y1) (fun h2 => iA v1 (gV h2 v1 4 1 (fun w3 => gV h2 (.ref a0) 4 1 (fun w4 => cpI h2 w3 0 w4 0 312 (fun h5 => nl v1 (bd S call dflT E_X1_copyFrom n 26 [some (.ref a0), some (v1), some (.int 0)] [] h5))))))))) := rfl
set_option maxRecDepth 100000 in
theorem g_X1_copyFrom_26 (S : sT) (call : cT) (n : Nat) (a0 : Nat) (v1 : Value) (x2 : Int32) (h : pH) : bd S call dflT E_X1_copyFrom (n + 1) 26 [some (.ref a0), some (v1), some (.int x2)] [] h = ((if 24 ≤ x2 then some (.inl none, h) else gV h (.ref a0) 4 2 (fun w1 => iA v1 (gV h v1 4 2 (fun w2 => aT h w2 x2 (fun w3 => sTx h w1 x2 w3 (fun h4 => nl v1 (bd S call dflT E_X1_copyFrom n 26 [some (.ref a0), some (v1), some (.int (x2 + 1))] [] h4)))))))) := rfl
theorem dX1_goingOn_0 : decode cX1_goingOn 0 = .ok (.iconst 0, 1) := by decide +kernel
theorem dX1_goingOn_1 : decode cX1_goingOn 1 = .ok (.istore_n 1, 1) := by decide +kernel
theorem dX1_goingOn_2 : decode cX1_goingOn 2 = .ok (.iconst 0, 1) := by decide +kernel
theorem dX1_goingOn_3 : decode cX1_goingOn 3 = .ok (.istore_n 2, 1) := by decide +kernel
theorem dX1_goingOn_4 : decode cX1_goingOn 4 = .ok (.iload_n 2, 1) := by decide +kernel
theorem dX1_goingOn_5 : decode cX1_goingOn 5 = .ok (.aload_n 0, 1) := by decide +kernel
theorem dX1_goingOn_6 : decode cX1_goingOn 6 = .ok (.getfield 26, 3) := by decide +kernel
theorem dX1_goingOn_9 : decode cX1_goingOn 9 = .ok (.if_icmp .ge 25, 3) := by decide +kernel
theorem dX1_goingOn_12 : decode cX1_goingOn 12 = .ok (.iload_n 1, 1) := by decide +kernel
theorem dX1_goingOn_13 : decode cX1_goingOn 13 = .ok (.aload_n 0, 1) := by decide +kernel
theorem dX1_goingOn_14 : decode cX1_goingOn 14 = .ok (.iload_n 2, 1) := by decide +kernel
theorem dX1_goingOn_15 : decode cX1_goingOn 15 = .ok (.invokevirtual 52, 3) := by decide +kernel
theorem dX1_goingOn_18 : decode cX1_goingOn 18 = .ok (.ifCond .eq 7, 3) := by decide +kernel
theorem dX1_goingOn_21 : decode cX1_goingOn 21 = .ok (.iconst 0, 1) := by decide +kernel
theorem dX1_goingOn_22 : decode cX1_goingOn 22 = .ok (.goto 4, 3) := by decide +kernel
theorem dX1_goingOn_25 : decode cX1_goingOn 25 = .ok (.iconst 1, 1) := by decide +kernel
theorem dX1_goingOn_26 : decode cX1_goingOn 26 = .ok (.iadd, 1) := by decide +kernel
theorem dX1_goingOn_27 : decode cX1_goingOn 27 = .ok (.istore_n 1, 1) := by decide +kernel
theorem dX1_goingOn_28 : decode cX1_goingOn 28 = .ok (.iinc 2 1, 3) := by decide +kernel
theorem dX1_goingOn_31 : decode cX1_goingOn 31 = .ok (.goto (-27), 3) := by decide +kernel
theorem dX1_goingOn_34 : decode cX1_goingOn 34 = .ok (.iload_n 1, 1) := by decide +kernel
theorem dX1_goingOn_35 : decode cX1_goingOn 35 = .ok (.ireturn, 1) := by decide +kernel
noncomputable def E_X1_goingOn : mE := (mX1_goingOn, [(35, [(0, (.iconst 0, 1, false, false, 0, 0, 0, 0, 0, 0, [])), (1, (.istore_n 1, 2, false, false, 1, 0, 0, 0, 0, 0, [])), (2, (.iconst 0, 3, false, false, 0, 0, 0, 0, 0, 0, [])), (3, (.istore_n 2, 4, true, false, 2, 0, 0, 0, 0, 0, [])), (4, (.iload_n 2, 5, false, false, 2, 0, 0, 0, 0, 0, [])), (5, (.aload_n 0, 6, false, false, 0, 0, 0, 0, 0, 0, [])), (6, (.getfield 26, 9, false, false, 4, 0, 0, 0, 0, 0, [])), (9, (.if_icmp .ge 25, 12, false, false, 34, 0, 0, 0, 0, 0, [])), (12, (.iload_n 1, 13, false, false, 1, 0, 0, 0, 0, 0, [])), (13, (.aload_n 0, 14, false, false, 0, 0, 0, 0, 0, 0, [])), (14, (.iload_n 2, 15, false, false, 2, 0, 0, 0, 0, 0, [])), (15, (.invokevirtual 52, 18, false, false, 195, 1, 1, 4, 0, 0, [])), (18, (.ifCond .eq 7, 21, false, false, 25, 0, 0, 0, 0, 0, [])), (21, (.iconst 0, 22, false, false, 0, 0, 0, 0, 0, 0, [])), (22, (.goto 4, 25, false, false, 26, 0, 0, 0, 0, 0, [])), (25, (.iconst 1, 26, false, false, 0, 0, 0, 0, 1, 0, [])), (26, (.iadd, 27, false, false, 0, 0, 0, 0, 0, 0, [])), (27, (.istore_n 1, 28, false, false, 1, 0, 0, 0, 0, 0, [])), (28, (.iinc 2 1, 31, false, false, 2, 0, 0, 0, 1, 0, [])), (31, (.goto (-27), 34, false, true, 4, 0, 0, 0, 0, 0, [])), (34, (.iload_n 1, 35, false, false, 1, 0, 0, 0, 0, 0, [])), (35, (.ireturn, 36, false, false, 0, 0, 0, 0, 0, 0, []))])], 0, [])
set_option maxRecDepth 100000 in
theorem v_X1_goingOn : VE MYT dflT E_X1_goingOn := ⟨⟨⟨⟨⟨dX1_goingOn_0, rfl⟩, rfl⟩, ⟨⟨dX1_goingOn_1, rfl⟩, rfl⟩, ⟨⟨dX1_goingOn_2, rfl⟩, rfl⟩, ⟨⟨dX1_goingOn_3, rfl⟩, rfl⟩, ⟨⟨dX1_goingOn_4, rfl⟩, rfl⟩, ⟨⟨dX1_goingOn_5, rfl⟩, rfl⟩, ⟨⟨dX1_goingOn_6, rfl⟩, Or.inl ⟨by decide, _, _, fX1_26⟩⟩, ⟨⟨dX1_goingOn_9, rfl⟩, rfl⟩, ⟨⟨dX1_goingOn_12, rfl⟩, rfl⟩, ⟨⟨dX1_goingOn_13, rfl⟩, rfl⟩, ⟨⟨dX1_goingOn_14, rfl⟩, rfl⟩, ⟨⟨dX1_goingOn_15, rfl⟩, Or.inr ⟨by decide, ⟨_, my_195, sX1_52⟩, fun q => absurd q (by decide)⟩⟩, ⟨⟨dX1_goingOn_18, rfl⟩, rfl⟩, ⟨⟨dX1_goingOn_21, rfl⟩, rfl⟩, ⟨⟨dX1_goingOn_22, rfl⟩, rfl⟩, ⟨⟨dX1_goingOn_25, rfl⟩, rfl⟩, ⟨⟨dX1_goingOn_26, rfl⟩, trivial⟩, ⟨⟨dX1_goingOn_27, rfl⟩, rfl⟩, ⟨⟨dX1_goingOn_28, rfl⟩, ⟨rfl, rfl⟩⟩, ⟨⟨dX1_goingOn_31, rfl⟩, rfl⟩, ⟨⟨dX1_goingOn_34, rfl⟩, rfl⟩, ⟨⟨dX1_goingOn_35, rfl⟩, Or.inl ⟨rfl, rfl⟩⟩, trivial⟩, trivial⟩, by decide, Or.inl ⟨rfl, by decide, rfl⟩⟩
set_option maxRecDepth 100000 in
theorem g_X1_goingOn_0 (S : sT) (call : cT) (n : Nat) (a0 : Nat) (h : pH) : bd S call dflT E_X1_goingOn (n + 1) 0 [some (.ref a0), none, none] [] h = (bd S call dflT E_X1_goingOn n 4 [some (.ref a0), some (.int 0), some (.int 0)] [] h) := rfl
set_option maxRecDepth 100000 in
theorem g_X1_goingOn_4 (S : sT) (call : cT) (n : Nat) (a0 : Nat) (x1 : Int32) (x2 : Int32) (h : pH) : bd S call dflT E_X1_goingOn (n + 1) 4 [some (.ref a0), some (.int x1), some (.int x2)] [] h = (gI h (.ref a0) 4 0 (fun y1 => (if y1 ≤ x2 then some (.inl (some (.int x1)), h) else rC h (.ref a0) 4 (cI (call 195 [.ref a0, .int x2] h) (fun y3 h2 => (if y3 = 0 then bd S call dflT E_X1_goingOn n 4 [some (.ref a0), some (.int (x1 + 1)), some (.int (x2 + 1))] [] h2 else bd S call dflT E_X1_goingOn n 4 [some (.ref a0), some (.int (x1 + 0)), some (.int (x2 + 1))] [] h2)))))) := rfl
theorem dX1_sumOf_0 : decode cX1_sumOf 0 = .ok (.lconst 0, 1) := by decide +kernel
theorem dX1_sumOf_1 : decode cX1_sumOf 1 = .ok (.lstore_n 2, 1) := by decide +kernel
theorem dX1_sumOf_2 : decode cX1_sumOf 2 = .ok (.iconst 0, 1) := by decide +kernel
theorem dX1_sumOf_3 : decode cX1_sumOf 3 = .ok (.istore 4, 2) := by decide +kernel
theorem dX1_sumOf_5 : decode cX1_sumOf 5 = .ok (.iload 4, 2) := by decide +kernel
theorem dX1_sumOf_7 : decode cX1_sumOf 7 = .ok (.aload_n 0, 1) := by decide +kernel
theorem dX1_sumOf_8 : decode cX1_sumOf 8 = .ok (.getfield 26, 3) := by decide +kernel
theorem dX1_sumOf_11 : decode cX1_sumOf 11 = .ok (.if_icmp .ge 20, 3) := by decide +kernel
theorem dX1_sumOf_14 : decode cX1_sumOf 14 = .ok (.lload_n 2, 1) := by decide +kernel
theorem dX1_sumOf_15 : decode cX1_sumOf 15 = .ok (.aload_n 0, 1) := by decide +kernel
theorem dX1_sumOf_16 : decode cX1_sumOf 16 = .ok (.iload_n 1, 1) := by decide +kernel
theorem dX1_sumOf_17 : decode cX1_sumOf 17 = .ok (.iload 4, 2) := by decide +kernel
theorem dX1_sumOf_19 : decode cX1_sumOf 19 = .ok (.invokevirtual 40, 3) := by decide +kernel
theorem dX1_sumOf_22 : decode cX1_sumOf 22 = .ok (.i2l, 1) := by decide +kernel
theorem dX1_sumOf_23 : decode cX1_sumOf 23 = .ok (.ladd, 1) := by decide +kernel
theorem dX1_sumOf_24 : decode cX1_sumOf 24 = .ok (.lstore_n 2, 1) := by decide +kernel
theorem dX1_sumOf_25 : decode cX1_sumOf 25 = .ok (.iinc 4 1, 3) := by decide +kernel
theorem dX1_sumOf_28 : decode cX1_sumOf 28 = .ok (.goto (-23), 3) := by decide +kernel
theorem dX1_sumOf_31 : decode cX1_sumOf 31 = .ok (.lload_n 2, 1) := by decide +kernel
theorem dX1_sumOf_32 : decode cX1_sumOf 32 = .ok (.invokestatic 44, 3) := by decide +kernel
theorem dX1_sumOf_35 : decode cX1_sumOf 35 = .ok (.ireturn, 1) := by decide +kernel
noncomputable def E_X1_sumOf : mE := (mX1_sumOf, [(35, [(0, (.lconst 0, 1, false, false, 0, 0, 0, 0, 0, 0, [])), (1, (.lstore_n 2, 2, false, false, 2, 3, 0, 0, 0, 0, [])), (2, (.iconst 0, 3, false, false, 0, 0, 0, 0, 0, 0, [])), (3, (.istore 4, 5, true, false, 4, 0, 0, 0, 0, 0, [])), (5, (.iload 4, 7, false, false, 4, 0, 0, 0, 0, 0, [])), (7, (.aload_n 0, 8, false, false, 0, 0, 0, 0, 0, 0, [])), (8, (.getfield 26, 11, false, false, 4, 0, 0, 0, 0, 0, [])), (11, (.if_icmp .ge 20, 14, false, false, 31, 0, 0, 0, 0, 0, [])), (14, (.lload_n 2, 15, false, false, 2, 0, 0, 0, 0, 0, [])), (15, (.aload_n 0, 16, false, false, 0, 0, 0, 0, 0, 0, [])), (16, (.iload_n 1, 17, false, false, 1, 0, 0, 0, 0, 0, [])), (17, (.iload 4, 19, false, false, 4, 0, 0, 0, 0, 0, [])), (19, (.invokevirtual 40, 22, false, false, 102, 2, 1, 4, 0, 0, [])), (22, (.i2l, 23, false, false, 0, 0, 0, 0, 0, 0, [])), (23, (.ladd, 24, false, false, 0, 0, 0, 0, 0, 0, [])), (24, (.lstore_n 2, 25, false, false, 2, 3, 0, 0, 0, 0, [])), (25, (.iinc 4 1, 28, false, false, 4, 0, 0, 0, 1, 0, [])), (28, (.goto (-23), 31, false, true, 5, 0, 0, 0, 0, 0, [])), (31, (.lload_n 2, 32, false, false, 2, 0, 0, 0, 0, 0, [])), (32, (.invokestatic 44, 35, false, false, 103, 1, 1, 1, 0, 0, [])), (35, (.ireturn, 36, false, false, 0, 0, 0, 0, 0, 0, []))])], 0, [])
set_option maxRecDepth 100000 in
theorem v_X1_sumOf : VE MYT dflT E_X1_sumOf := ⟨⟨⟨⟨⟨dX1_sumOf_0, rfl⟩, rfl⟩, ⟨⟨dX1_sumOf_1, rfl⟩, ⟨rfl, rfl⟩⟩, ⟨⟨dX1_sumOf_2, rfl⟩, rfl⟩, ⟨⟨dX1_sumOf_3, rfl⟩, rfl⟩, ⟨⟨dX1_sumOf_5, rfl⟩, rfl⟩, ⟨⟨dX1_sumOf_7, rfl⟩, rfl⟩, ⟨⟨dX1_sumOf_8, rfl⟩, Or.inl ⟨by decide, _, _, fX1_26⟩⟩, ⟨⟨dX1_sumOf_11, rfl⟩, rfl⟩, ⟨⟨dX1_sumOf_14, rfl⟩, rfl⟩, ⟨⟨dX1_sumOf_15, rfl⟩, rfl⟩, ⟨⟨dX1_sumOf_16, rfl⟩, rfl⟩, ⟨⟨dX1_sumOf_17, rfl⟩, rfl⟩, ⟨⟨dX1_sumOf_19, rfl⟩, Or.inr ⟨by decide, ⟨_, my_102, sX1_40⟩, fun q => absurd q (by decide)⟩⟩, ⟨⟨dX1_sumOf_22, rfl⟩, trivial⟩, ⟨⟨dX1_sumOf_23, rfl⟩, trivial⟩, ⟨⟨dX1_sumOf_24, rfl⟩, ⟨rfl, rfl⟩⟩, ⟨⟨dX1_sumOf_25, rfl⟩, ⟨rfl, rfl⟩⟩, ⟨⟨dX1_sumOf_28, rfl⟩, rfl⟩, ⟨⟨dX1_sumOf_31, rfl⟩, rfl⟩, ⟨⟨dX1_sumOf_32, rfl⟩, Or.inr (Or.inl ⟨rfl, 1, _, my_103, sX1_44⟩)⟩, ⟨⟨dX1_sumOf_35, rfl⟩, Or.inl ⟨rfl, rfl⟩⟩, trivial⟩, trivial⟩, by decide, Or.inl ⟨rfl, by decide, rfl⟩⟩
set_option maxRecDepth 100000 in
theorem g_X1_sumOf_0 (S : sT) (call : cT) (n : Nat) (a0 : Nat) (x1 : Int32) (h : pH) : bd S call dflT E_X1_sumOf (n + 1) 0 [some (.ref a0), some (.int x1), none, none, none] [] h = (bd S call dflT E_X1_sumOf n 5 [some (.ref a0), some (.int x1), some (.long 0), none, some (.int 0)] [] h) := rfl
set_option maxRecDepth 100000 in
theorem g_X1_sumOf_5 (S : sT) (call : cT) (n : Nat) (a0 : Nat) (x1 : Int32) (j2 : Int64) (x4 : Int32) (h : pH) : bd S call dflT E_X1_sumOf (n + 1) 5 [some (.ref a0), some (.int x1), some (.long j2), none, some (.int x4)] [] h = (gI h (.ref a0) 4 0 (fun y1 => (if y1 ≤ x4 then cIx tN (call 103 [.long j2] h) (fun y3 h2 => some (.inl (some (.int y3)), h2)) else rC h (.ref a0) 4 (cI (call 102 [.ref a0, .int x1, .int x4] h) (fun y5 h4 => bd S call dflT E_X1_sumOf n 5 [some (.ref a0), some (.int x1), some (.long (j2 + y5.toInt64)), none, some (.int (x4 + 1))] [] h4))))) := rfl
