/-! by program: methods as data, that they are right, what their bodies do -/
theorem dX2_init_0 : decode cX2_init 0 = .ok (.aload_n 0, 1) := by decide +kernel
theorem dX2_init_1 : decode cX2_init 1 = .ok (.invokespecial 3, 3) := by decide +kernel
theorem dX2_init_4 : decode cX2_init 4 = .ok (.aload_n 0, 1) := by decide +kernel
theorem dX2_init_5 : decode cX2_init 5 = .ok (.sipush 672, 3) := by decide +kernel
theorem dX2_init_8 : decode cX2_init 8 = .ok (.newarray .int, 2) := by decide +kernel
theorem dX2_init_10 : decode cX2_init 10 = .ok (.putfield 11, 3) := by decide +kernel
theorem dX2_init_13 : decode cX2_init 13 = .ok (.iconst 0, 1) := by decide +kernel
theorem dX2_init_14 : decode cX2_init 14 = .ok (.istore_n 1, 1) := by decide +kernel
theorem dX2_init_15 : decode cX2_init 15 = .ok (.iload_n 1, 1) := by decide +kernel
theorem dX2_init_16 : decode cX2_init 16 = .ok (.bipush 48, 2) := by decide +kernel
theorem dX2_init_18 : decode cX2_init 18 = .ok (.if_icmp .ge 29, 3) := by decide +kernel
theorem dX2_init_21 : decode cX2_init 21 = .ok (.aload_n 0, 1) := by decide +kernel
theorem dX2_init_22 : decode cX2_init 22 = .ok (.getfield 11, 3) := by decide +kernel
theorem dX2_init_25 : decode cX2_init 25 = .ok (.iconst 0, 1) := by decide +kernel
theorem dX2_init_26 : decode cX2_init 26 = .ok (.iload_n 1, 1) := by decide +kernel
theorem dX2_init_27 : decode cX2_init 27 = .ok (.iadd, 1) := by decide +kernel
theorem dX2_init_28 : decode cX2_init 28 = .ok (.iconst 5, 1) := by decide +kernel
theorem dX2_init_29 : decode cX2_init 29 = .ok (.iastore, 1) := by decide +kernel
theorem dX2_init_30 : decode cX2_init 30 = .ok (.aload_n 0, 1) := by decide +kernel
theorem dX2_init_31 : decode cX2_init 31 = .ok (.getfield 11, 3) := by decide +kernel
theorem dX2_init_34 : decode cX2_init 34 = .ok (.sipush 480, 3) := by decide +kernel
theorem dX2_init_37 : decode cX2_init 37 = .ok (.iload_n 1, 1) := by decide +kernel
theorem dX2_init_38 : decode cX2_init 38 = .ok (.iadd, 1) := by decide +kernel
theorem dX2_init_39 : decode cX2_init 39 = .ok (.iconst (-1), 1) := by decide +kernel
theorem dX2_init_40 : decode cX2_init 40 = .ok (.iastore, 1) := by decide +kernel
theorem dX2_init_41 : decode cX2_init 41 = .ok (.iinc 1 1, 3) := by decide +kernel
theorem dX2_init_44 : decode cX2_init 44 = .ok (.goto (-29), 3) := by decide +kernel
theorem dX2_init_47 : decode cX2_init 47 = .ok (.return_, 1) := by decide +kernel
noncomputable def E_X2_init : mE := (mX2_init, [(39, [(0, (.aload_n 0, 1, false, false, 0, 0, 0, 0, 0, 0, [])), (1, (.invokespecial 3, 4, false, false, 0, 0, 0, 1, 0, 0, [])), (4, (.aload_n 0, 5, false, false, 0, 0, 0, 0, 0, 0, [])), (5, (.sipush 672, 8, false, false, 0, 0, 0, 0, 672, 0, [])), (8, (.newarray .int, 10, false, false, 0, 0, 0, 0, 0, 0, [])), (10, (.putfield 11, 13, false, false, 5, 0, 4, 0, 0, 0, [])), (13, (.iconst 0, 14, false, false, 0, 0, 0, 0, 0, 0, [])), (14, (.istore_n 1, 15, true, false, 1, 0, 0, 0, 0, 0, [])), (15, (.iload_n 1, 16, false, false, 1, 0, 0, 0, 0, 0, [])), (16, (.bipush 48, 18, false, false, 0, 0, 0, 0, 48, 0, [])), (18, (.if_icmp .ge 29, 21, false, false, 47, 0, 0, 0, 0, 0, [])), (21, (.aload_n 0, 22, false, false, 0, 0, 0, 0, 0, 0, [])), (22, (.getfield 11, 25, false, false, 5, 0, 1, 0, 0, 0, [])), (25, (.iconst 0, 26, false, false, 0, 0, 0, 0, 0, 0, [])), (26, (.iload_n 1, 27, false, false, 1, 0, 0, 0, 0, 0, [])), (27, (.iadd, 28, false, false, 0, 0, 0, 0, 0, 0, [])), (28, (.iconst 5, 29, false, false, 0, 0, 0, 0, 5, 0, [])), (29, (.iastore, 30, false, false, 0, 0, 0, 0, 0, 0, [])), (30, (.aload_n 0, 31, false, false, 0, 0, 0, 0, 0, 0, [])), (31, (.getfield 11, 34, false, false, 5, 0, 1, 0, 0, 0, [])), (34, (.sipush 480, 37, false, false, 0, 0, 0, 0, 480, 0, [])), (37, (.iload_n 1, 38, false, false, 1, 0, 0, 0, 0, 0, [])), (38, (.iadd, 39, false, false, 0, 0, 0, 0, 0, 0, [])), (39, (.iconst (-1), 40, false, false, 0, 0, 0, 0, -1, 0, []))]),
  (47, [(40, (.iastore, 41, false, false, 0, 0, 0, 0, 0, 0, [])), (41, (.iinc 1 1, 44, false, false, 1, 0, 0, 0, 1, 0, [])), (44, (.goto (-29), 47, false, true, 15, 0, 0, 0, 0, 0, [])), (47, (.return_, 48, false, false, 0, 0, 0, 0, 0, 0, []))])], 0, [])
set_option maxRecDepth 100000 in
theorem v_X2_init : VE MYT dflT E_X2_init := ⟨⟨⟨⟨⟨dX2_init_0, rfl⟩, rfl⟩, ⟨⟨dX2_init_1, rfl⟩, Or.inr ⟨rfl, oX2_3, o_1, o_2⟩⟩, ⟨⟨dX2_init_4, rfl⟩, rfl⟩, ⟨⟨dX2_init_5, rfl⟩, rfl⟩, ⟨⟨dX2_init_8, rfl⟩, Or.inl ⟨rfl, rfl, a_int⟩⟩, ⟨⟨dX2_init_10, rfl⟩, Or.inr (Or.inr (Or.inr (Or.inr ⟨rfl, ⟨_, (Or.inr ⟨_, rfl⟩), fX2_11⟩, rfl, rfl⟩)))⟩, ⟨⟨dX2_init_13, rfl⟩, rfl⟩, ⟨⟨dX2_init_14, rfl⟩, rfl⟩, ⟨⟨dX2_init_15, rfl⟩, rfl⟩, ⟨⟨dX2_init_16, rfl⟩, rfl⟩, ⟨⟨dX2_init_18, rfl⟩, rfl⟩, ⟨⟨dX2_init_21, rfl⟩, rfl⟩, ⟨⟨dX2_init_22, rfl⟩, Or.inl ⟨by decide, _, _, fX2_11⟩⟩, ⟨⟨dX2_init_25, rfl⟩, rfl⟩, ⟨⟨dX2_init_26, rfl⟩, rfl⟩, ⟨⟨dX2_init_27, rfl⟩, trivial⟩, ⟨⟨dX2_init_28, rfl⟩, rfl⟩, ⟨⟨dX2_init_29, rfl⟩, trivial⟩, ⟨⟨dX2_init_30, rfl⟩, rfl⟩, ⟨⟨dX2_init_31, rfl⟩, Or.inl ⟨by decide, _, _, fX2_11⟩⟩, ⟨⟨dX2_init_34, rfl⟩, rfl⟩, ⟨⟨dX2_init_37, rfl⟩, rfl⟩, ⟨⟨dX2_init_38, rfl⟩, trivial⟩, ⟨⟨dX2_init_39, rfl⟩, rfl⟩, trivial⟩,
  ⟨⟨⟨dX2_init_40, rfl⟩, trivial⟩, ⟨⟨dX2_init_41, rfl⟩, ⟨rfl, rfl⟩⟩, ⟨⟨dX2_init_44, rfl⟩, rfl⟩, ⟨⟨dX2_init_47, rfl⟩, rfl⟩, trivial⟩, trivial⟩, by decide, Or.inl ⟨rfl, by decide, rfl⟩⟩
set_option maxRecDepth 100000 in
theorem g_X2_init_0 (S : sT) (call : cT) (n : Nat) (a0 : Nat) (h : pH) : bd S call dflT E_X2_init (n + 1) 0 [some (.ref a0), none] [] h = (mkI h 0 672 (fun h1 => pF h1 (.ref a0) 5 0 (.ref (List.length h)) (fun h2 => bd S call dflT E_X2_init n 15 [some (.ref a0), some (.int 0)] [] h2))) := rfl
set_option maxRecDepth 100000 in
theorem g_X2_init_15 (S : sT) (call : cT) (n : Nat) (a0 : Nat) (x1 : Int32) (h : pH) : bd S call dflT E_X2_init (n + 1) 15 [some (.ref a0), some (.int x1)] [] h = ((if 48 ≤ x1 then some (.inl none, h) else gV h (.ref a0) 5 0 (fun w1 => sI h w1 0 (0 + x1) 5 (fun h2 => gV h2 (.ref a0) 5 0 (fun w3 => sI h2 w3 0 (480 + x1) (-1) (fun h4 => bd S call dflT E_X2_init n 15 [some (.ref a0), some (.int (x1 + 1))] [] h4)))))) := rfl
theorem dX2_isCell_0 : decode cX2_isCell 0 = .ok (.iload_n 0, 1) := by decide +kernel
theorem dX2_isCell_1 : decode cX2_isCell 1 = .ok (.ifCond .lt 23, 3) := by decide +kernel
theorem dX2_isCell_4 : decode cX2_isCell 4 = .ok (.iload_n 0, 1) := by decide +kernel
theorem dX2_isCell_5 : decode cX2_isCell 5 = .ok (.bipush 14, 2) := by decide +kernel
theorem dX2_isCell_7 : decode cX2_isCell 7 = .ok (.if_icmp .ge 17, 3) := by decide +kernel
theorem dX2_isCell_10 : decode cX2_isCell 10 = .ok (.iload_n 1, 1) := by decide +kernel
theorem dX2_isCell_11 : decode cX2_isCell 11 = .ok (.ifCond .lt 13, 3) := by decide +kernel
theorem dX2_isCell_14 : decode cX2_isCell 14 = .ok (.iload_n 1, 1) := by decide +kernel
theorem dX2_isCell_15 : decode cX2_isCell 15 = .ok (.bipush 48, 2) := by decide +kernel
theorem dX2_isCell_17 : decode cX2_isCell 17 = .ok (.if_icmp .ge 7, 3) := by decide +kernel
theorem dX2_isCell_20 : decode cX2_isCell 20 = .ok (.iconst 1, 1) := by decide +kernel
theorem dX2_isCell_21 : decode cX2_isCell 21 = .ok (.goto 4, 3) := by decide +kernel
theorem dX2_isCell_24 : decode cX2_isCell 24 = .ok (.iconst 0, 1) := by decide +kernel
theorem dX2_isCell_25 : decode cX2_isCell 25 = .ok (.ireturn, 1) := by decide +kernel
noncomputable def E_X2_isCell : mE := (mX2_isCell, [(25, [(0, (.iload_n 0, 1, false, false, 0, 0, 0, 0, 0, 0, [])), (1, (.ifCond .lt 23, 4, false, false, 24, 0, 0, 0, 0, 0, [])), (4, (.iload_n 0, 5, false, false, 0, 0, 0, 0, 0, 0, [])), (5, (.bipush 14, 7, false, false, 0, 0, 0, 0, 14, 0, [])), (7, (.if_icmp .ge 17, 10, false, false, 24, 0, 0, 0, 0, 0, [])), (10, (.iload_n 1, 11, false, false, 1, 0, 0, 0, 0, 0, [])), (11, (.ifCond .lt 13, 14, false, false, 24, 0, 0, 0, 0, 0, [])), (14, (.iload_n 1, 15, false, false, 1, 0, 0, 0, 0, 0, [])), (15, (.bipush 48, 17, false, false, 0, 0, 0, 0, 48, 0, [])), (17, (.if_icmp .ge 7, 20, false, false, 24, 0, 0, 0, 0, 0, [])), (20, (.iconst 1, 21, false, false, 0, 0, 0, 0, 1, 0, [])), (21, (.goto 4, 24, false, false, 25, 0, 0, 0, 0, 0, [])), (24, (.iconst 0, 25, false, false, 0, 0, 0, 0, 0, 0, [])), (25, (.ireturn, 26, false, false, 0, 0, 1, 0, 0, 0, []))])], 0, [])
set_option maxRecDepth 100000 in
theorem v_X2_isCell : VE MYT dflT E_X2_isCell := ⟨⟨⟨⟨⟨dX2_isCell_0, rfl⟩, rfl⟩, ⟨⟨dX2_isCell_1, rfl⟩, rfl⟩, ⟨⟨dX2_isCell_4, rfl⟩, rfl⟩, ⟨⟨dX2_isCell_5, rfl⟩, rfl⟩, ⟨⟨dX2_isCell_7, rfl⟩, rfl⟩, ⟨⟨dX2_isCell_10, rfl⟩, rfl⟩, ⟨⟨dX2_isCell_11, rfl⟩, rfl⟩, ⟨⟨dX2_isCell_14, rfl⟩, rfl⟩, ⟨⟨dX2_isCell_15, rfl⟩, rfl⟩, ⟨⟨dX2_isCell_17, rfl⟩, rfl⟩, ⟨⟨dX2_isCell_20, rfl⟩, rfl⟩, ⟨⟨dX2_isCell_21, rfl⟩, rfl⟩, ⟨⟨dX2_isCell_24, rfl⟩, rfl⟩, ⟨⟨dX2_isCell_25, rfl⟩, Or.inr (Or.inl ⟨rfl, rfl⟩)⟩, trivial⟩, trivial⟩, by decide, Or.inl ⟨rfl, by decide, rfl⟩⟩
set_option maxRecDepth 100000 in
theorem g_X2_isCell_0 (S : sT) (call : cT) (n : Nat) (x0 : Int32) (x1 : Int32) (h : pH) : bd S call dflT E_X2_isCell (n + 1) 0 [some (.int x0), some (.int x1)] [] h = ((if x0 < 0 then zR 0 (some (.inl (some (.int 0)), h)) else (if 14 ≤ x0 then zR 0 (some (.inl (some (.int 0)), h)) else (if x1 < 0 then zR 0 (some (.inl (some (.int 0)), h)) else (if 48 ≤ x1 then zR 0 (some (.inl (some (.int 0)), h)) else zR 1 (some (.inl (some (.int 1)), h))))))) := rfl
theorem dX2_get_0 : decode cX2_get 0 = .ok (.iload_n 1, 1) := by decide +kernel
theorem dX2_get_1 : decode cX2_get 1 = .ok (.iload_n 2, 1) := by decide +kernel
theorem dX2_get_2 : decode cX2_get 2 = .ok (.invokestatic 21, 3) := by decide +kernel
theorem dX2_get_5 : decode cX2_get 5 = .ok (.ifCond .eq 17, 3) := by decide +kernel
theorem dX2_get_8 : decode cX2_get 8 = .ok (.aload_n 0, 1) := by decide +kernel
theorem dX2_get_9 : decode cX2_get 9 = .ok (.getfield 11, 3) := by decide +kernel
theorem dX2_get_12 : decode cX2_get 12 = .ok (.iload_n 1, 1) := by decide +kernel
theorem dX2_get_13 : decode cX2_get 13 = .ok (.bipush 48, 2) := by decide +kernel
theorem dX2_get_15 : decode cX2_get 15 = .ok (.imul, 1) := by decide +kernel
theorem dX2_get_16 : decode cX2_get 16 = .ok (.iload_n 2, 1) := by decide +kernel
theorem dX2_get_17 : decode cX2_get 17 = .ok (.iadd, 1) := by decide +kernel
theorem dX2_get_18 : decode cX2_get 18 = .ok (.iaload, 1) := by decide +kernel
theorem dX2_get_19 : decode cX2_get 19 = .ok (.goto 4, 3) := by decide +kernel
theorem dX2_get_22 : decode cX2_get 22 = .ok (.iconst 0, 1) := by decide +kernel
theorem dX2_get_23 : decode cX2_get 23 = .ok (.ireturn, 1) := by decide +kernel
noncomputable def E_X2_get : mE := (mX2_get, [(23, [(0, (.iload_n 1, 1, false, false, 1, 0, 0, 0, 0, 0, [])), (1, (.iload_n 2, 2, false, false, 2, 0, 0, 0, 0, 0, [])), (2, (.invokestatic 21, 5, false, false, 22, 2, 1, 0, 0, 0, [])), (5, (.ifCond .eq 17, 8, false, false, 22, 0, 0, 0, 0, 0, [])), (8, (.aload_n 0, 9, false, false, 0, 0, 0, 0, 0, 0, [])), (9, (.getfield 11, 12, false, false, 5, 0, 1, 0, 0, 0, [])), (12, (.iload_n 1, 13, false, false, 1, 0, 0, 0, 0, 0, [])), (13, (.bipush 48, 15, false, false, 0, 0, 0, 0, 48, 0, [])), (15, (.imul, 16, false, false, 0, 0, 0, 0, 0, 0, [])), (16, (.iload_n 2, 17, false, false, 2, 0, 0, 0, 0, 0, [])), (17, (.iadd, 18, false, false, 0, 0, 0, 0, 0, 0, [])), (18, (.iaload, 19, false, false, 0, 0, 0, 0, 0, 0, [])), (19, (.goto 4, 22, false, false, 23, 0, 0, 0, 0, 0, [])), (22, (.iconst 0, 23, false, false, 0, 0, 0, 0, 0, 0, [])), (23, (.ireturn, 24, false, false, 0, 0, 0, 0, 0, 0, []))])], 0, [])
set_option maxRecDepth 100000 in
theorem v_X2_get : VE MYT dflT E_X2_get := ⟨⟨⟨⟨⟨dX2_get_0, rfl⟩, rfl⟩, ⟨⟨dX2_get_1, rfl⟩, rfl⟩, ⟨⟨dX2_get_2, rfl⟩, Or.inl ⟨rfl, _, my_22, sX2_21⟩⟩, ⟨⟨dX2_get_5, rfl⟩, rfl⟩, ⟨⟨dX2_get_8, rfl⟩, rfl⟩, ⟨⟨dX2_get_9, rfl⟩, Or.inl ⟨by decide, _, _, fX2_11⟩⟩, ⟨⟨dX2_get_12, rfl⟩, rfl⟩, ⟨⟨dX2_get_13, rfl⟩, rfl⟩, ⟨⟨dX2_get_15, rfl⟩, trivial⟩, ⟨⟨dX2_get_16, rfl⟩, rfl⟩, ⟨⟨dX2_get_17, rfl⟩, trivial⟩, ⟨⟨dX2_get_18, rfl⟩, trivial⟩, ⟨⟨dX2_get_19, rfl⟩, rfl⟩, ⟨⟨dX2_get_22, rfl⟩, rfl⟩, ⟨⟨dX2_get_23, rfl⟩, Or.inl ⟨rfl, rfl⟩⟩, trivial⟩, trivial⟩, by decide, Or.inl ⟨rfl, by decide, rfl⟩⟩
set_option maxRecDepth 100000 in
theorem g_X2_get_0 (S : sT) (call : cT) (n : Nat) (a0 : Nat) (x1 : Int32) (x2 : Int32) (h : pH) : bd S call dflT E_X2_get (n + 1) 0 [some (.ref a0), some (.int x1), some (.int x2)] [] h = (cI (call 22 [.int x1, .int x2] h) (fun y2 h1 => (if y2 = 0 then some (.inl (some (.int 0)), h1) else gV h1 (.ref a0) 5 0 (fun w3 => aI h1 w3 0 ((x1 * 48) + x2) (fun y4 => some (.inl (some (.int y4)), h1)))))) := rfl
theorem dX2_isSold_0 : decode cX2_isSold 0 = .ok (.aload_n 0, 1) := by decide +kernel
theorem dX2_isSold_1 : decode cX2_isSold 1 = .ok (.bipush 11, 2) := by decide +kernel
theorem dX2_isSold_3 : decode cX2_isSold 3 = .ok (.iload_n 1, 1) := by decide +kernel
theorem dX2_isSold_4 : decode cX2_isSold 4 = .ok (.invokevirtual 25, 3) := by decide +kernel
theorem dX2_isSold_7 : decode cX2_isSold 7 = .ok (.ifCond .eq 7, 3) := by decide +kernel
theorem dX2_isSold_10 : decode cX2_isSold 10 = .ok (.iconst 1, 1) := by decide +kernel
theorem dX2_isSold_11 : decode cX2_isSold 11 = .ok (.goto 4, 3) := by decide +kernel
theorem dX2_isSold_14 : decode cX2_isSold 14 = .ok (.iconst 0, 1) := by decide +kernel
theorem dX2_isSold_15 : decode cX2_isSold 15 = .ok (.ireturn, 1) := by decide +kernel
noncomputable def E_X2_isSold : mE := (mX2_isSold, [(15, [(0, (.aload_n 0, 1, false, false, 0, 0, 0, 0, 0, 0, [])), (1, (.bipush 11, 3, false, false, 0, 0, 0, 0, 11, 0, [])), (3, (.iload_n 1, 4, false, false, 1, 0, 0, 0, 0, 0, [])), (4, (.invokevirtual 25, 7, false, false, 23, 2, 1, 5, 0, 0, [])), (7, (.ifCond .eq 7, 10, false, false, 14, 0, 0, 0, 0, 0, [])), (10, (.iconst 1, 11, false, false, 0, 0, 0, 0, 1, 0, [])), (11, (.goto 4, 14, false, false, 15, 0, 0, 0, 0, 0, [])), (14, (.iconst 0, 15, false, false, 0, 0, 0, 0, 0, 0, [])), (15, (.ireturn, 16, false, false, 0, 0, 1, 0, 0, 0, []))])], 0, [])
set_option maxRecDepth 100000 in
theorem v_X2_isSold : VE MYT dflT E_X2_isSold := ⟨⟨⟨⟨⟨dX2_isSold_0, rfl⟩, rfl⟩, ⟨⟨dX2_isSold_1, rfl⟩, rfl⟩, ⟨⟨dX2_isSold_3, rfl⟩, rfl⟩, ⟨⟨dX2_isSold_4, rfl⟩, Or.inr ⟨by decide, ⟨_, my_23, sX2_25⟩, fun q => absurd q (by decide)⟩⟩, ⟨⟨dX2_isSold_7, rfl⟩, rfl⟩, ⟨⟨dX2_isSold_10, rfl⟩, rfl⟩, ⟨⟨dX2_isSold_11, rfl⟩, rfl⟩, ⟨⟨dX2_isSold_14, rfl⟩, rfl⟩, ⟨⟨dX2_isSold_15, rfl⟩, Or.inr (Or.inl ⟨rfl, rfl⟩)⟩, trivial⟩, trivial⟩, by decide, Or.inl ⟨rfl, by decide, rfl⟩⟩
set_option maxRecDepth 100000 in
theorem g_X2_isSold_0 (S : sT) (call : cT) (n : Nat) (a0 : Nat) (x1 : Int32) (h : pH) : bd S call dflT E_X2_isSold (n + 1) 0 [some (.ref a0), some (.int x1)] [] h = (rC h (.ref a0) 5 (cI (call 23 [.ref a0, .int 11, .int x1] h) (fun y2 h1 => (if y2 = 0 then zR 0 (some (.inl (some (.int 0)), h1)) else zR 1 (some (.inl (some (.int 1)), h1)))))) := rfl
theorem dX2_set_0 : decode cX2_set 0 = .ok (.iload_n 1, 1) := by decide +kernel
theorem dX2_set_1 : decode cX2_set 1 = .ok (.iload_n 2, 1) := by decide +kernel
theorem dX2_set_2 : decode cX2_set 2 = .ok (.invokestatic 21, 3) := by decide +kernel
theorem dX2_set_5 : decode cX2_set 5 = .ok (.ifCond .eq 15, 3) := by decide +kernel
theorem dX2_set_8 : decode cX2_set 8 = .ok (.aload_n 0, 1) := by decide +kernel
theorem dX2_set_9 : decode cX2_set 9 = .ok (.getfield 11, 3) := by decide +kernel
theorem dX2_set_12 : decode cX2_set 12 = .ok (.iload_n 1, 1) := by decide +kernel
theorem dX2_set_13 : decode cX2_set 13 = .ok (.bipush 48, 2) := by decide +kernel
theorem dX2_set_15 : decode cX2_set 15 = .ok (.imul, 1) := by decide +kernel
theorem dX2_set_16 : decode cX2_set 16 = .ok (.iload_n 2, 1) := by decide +kernel
theorem dX2_set_17 : decode cX2_set 17 = .ok (.iadd, 1) := by decide +kernel
theorem dX2_set_18 : decode cX2_set 18 = .ok (.iload_n 3, 1) := by decide +kernel
theorem dX2_set_19 : decode cX2_set 19 = .ok (.iastore, 1) := by decide +kernel
theorem dX2_set_20 : decode cX2_set 20 = .ok (.return_, 1) := by decide +kernel
noncomputable def E_X2_set : mE := (mX2_set, [(20, [(0, (.iload_n 1, 1, false, false, 1, 0, 0, 0, 0, 0, [])), (1, (.iload_n 2, 2, false, false, 2, 0, 0, 0, 0, 0, [])), (2, (.invokestatic 21, 5, false, false, 22, 2, 1, 0, 0, 0, [])), (5, (.ifCond .eq 15, 8, false, false, 20, 0, 0, 0, 0, 0, [])), (8, (.aload_n 0, 9, false, false, 0, 0, 0, 0, 0, 0, [])), (9, (.getfield 11, 12, false, false, 5, 0, 1, 0, 0, 0, [])), (12, (.iload_n 1, 13, false, false, 1, 0, 0, 0, 0, 0, [])), (13, (.bipush 48, 15, false, false, 0, 0, 0, 0, 48, 0, [])), (15, (.imul, 16, false, false, 0, 0, 0, 0, 0, 0, [])), (16, (.iload_n 2, 17, false, false, 2, 0, 0, 0, 0, 0, [])), (17, (.iadd, 18, false, false, 0, 0, 0, 0, 0, 0, [])), (18, (.iload_n 3, 19, false, false, 3, 0, 0, 0, 0, 0, [])), (19, (.iastore, 20, false, false, 0, 0, 0, 0, 0, 0, [])), (20, (.return_, 21, false, false, 0, 0, 0, 0, 0, 0, []))])], 0, [])
set_option maxRecDepth 100000 in
theorem v_X2_set : VE MYT dflT E_X2_set := ⟨⟨⟨⟨⟨dX2_set_0, rfl⟩, rfl⟩, ⟨⟨dX2_set_1, rfl⟩, rfl⟩, ⟨⟨dX2_set_2, rfl⟩, Or.inl ⟨rfl, _, my_22, sX2_21⟩⟩, ⟨⟨dX2_set_5, rfl⟩, rfl⟩, ⟨⟨dX2_set_8, rfl⟩, rfl⟩, ⟨⟨dX2_set_9, rfl⟩, Or.inl ⟨by decide, _, _, fX2_11⟩⟩, ⟨⟨dX2_set_12, rfl⟩, rfl⟩, ⟨⟨dX2_set_13, rfl⟩, rfl⟩, ⟨⟨dX2_set_15, rfl⟩, trivial⟩, ⟨⟨dX2_set_16, rfl⟩, rfl⟩, ⟨⟨dX2_set_17, rfl⟩, trivial⟩, ⟨⟨dX2_set_18, rfl⟩, rfl⟩, ⟨⟨dX2_set_19, rfl⟩, trivial⟩, ⟨⟨dX2_set_20, rfl⟩, rfl⟩, trivial⟩, trivial⟩, by decide, Or.inl ⟨rfl, by decide, rfl⟩⟩
set_option maxRecDepth 100000 in
theorem g_X2_set_0 (S : sT) (call : cT) (n : Nat) (a0 : Nat) (x1 : Int32) (x2 : Int32) (x3 : Int32) (h : pH) : bd S call dflT E_X2_set (n + 1) 0 [some (.ref a0), some (.int x1), some (.int x2), some (.int x3)] [] h = (cI (call 22 [.int x1, .int x2] h) (fun y2 h1 => (if y2 = 0 then some (.inl none, h1) else gV h1 (.ref a0) 5 0 (fun w3 => sI h1 w3 0 ((x1 * 48) + x2) x3 (fun h4 => some (.inl none, h4)))))) := rfl
theorem dX2_isBetween_0 : decode cX2_isBetween 0 = .ok (.iload_n 0, 1) := by decide +kernel
theorem dX2_isBetween_1 : decode cX2_isBetween 1 = .ok (.iload_n 1, 1) := by decide +kernel
theorem dX2_isBetween_2 : decode cX2_isBetween 2 = .ok (.iload_n 2, 1) := by decide +kernel
theorem dX2_isBetween_3 : decode cX2_isBetween 3 = .ok (.invokestatic 33, 3) := by decide +kernel
theorem dX2_isBetween_6 : decode cX2_isBetween 6 = .ok (.if_icmp .lt 16, 3) := by decide +kernel
theorem dX2_isBetween_9 : decode cX2_isBetween 9 = .ok (.iload_n 0, 1) := by decide +kernel
theorem dX2_isBetween_10 : decode cX2_isBetween 10 = .ok (.iload_n 1, 1) := by decide +kernel
theorem dX2_isBetween_11 : decode cX2_isBetween 11 = .ok (.iload_n 2, 1) := by decide +kernel
theorem dX2_isBetween_12 : decode cX2_isBetween 12 = .ok (.invokestatic 38, 3) := by decide +kernel
theorem dX2_isBetween_15 : decode cX2_isBetween 15 = .ok (.if_icmp .gt 7, 3) := by decide +kernel
theorem dX2_isBetween_18 : decode cX2_isBetween 18 = .ok (.iconst 1, 1) := by decide +kernel
theorem dX2_isBetween_19 : decode cX2_isBetween 19 = .ok (.goto 4, 3) := by decide +kernel
theorem dX2_isBetween_22 : decode cX2_isBetween 22 = .ok (.iconst 0, 1) := by decide +kernel
theorem dX2_isBetween_23 : decode cX2_isBetween 23 = .ok (.ireturn, 1) := by decide +kernel
noncomputable def E_X2_isBetween : mE := (mX2_isBetween, [(23, [(0, (.iload_n 0, 1, false, false, 0, 0, 0, 0, 0, 0, [])), (1, (.iload_n 1, 2, false, false, 1, 0, 0, 0, 0, 0, [])), (2, (.iload_n 2, 3, false, false, 2, 0, 0, 0, 0, 0, [])), (3, (.invokestatic 33, 6, false, false, 0, 2, 1, 6, 0, 0, [])), (6, (.if_icmp .lt 16, 9, false, false, 22, 0, 0, 0, 0, 0, [])), (9, (.iload_n 0, 10, false, false, 0, 0, 0, 0, 0, 0, [])), (10, (.iload_n 1, 11, false, false, 1, 0, 0, 0, 0, 0, [])), (11, (.iload_n 2, 12, false, false, 2, 0, 0, 0, 0, 0, [])), (12, (.invokestatic 38, 15, false, false, 0, 2, 1, 5, 0, 0, [])), (15, (.if_icmp .gt 7, 18, false, false, 22, 0, 0, 0, 0, 0, [])), (18, (.iconst 1, 19, false, false, 0, 0, 0, 0, 1, 0, [])), (19, (.goto 4, 22, false, false, 23, 0, 0, 0, 0, 0, [])), (22, (.iconst 0, 23, false, false, 0, 0, 0, 0, 0, 0, [])), (23, (.ireturn, 24, false, false, 0, 0, 1, 0, 0, 0, []))])], 0, [])
set_option maxRecDepth 100000 in
theorem v_X2_isBetween : VE MYT dflT E_X2_isBetween := ⟨⟨⟨⟨⟨dX2_isBetween_0, rfl⟩, rfl⟩, ⟨⟨dX2_isBetween_1, rfl⟩, rfl⟩, ⟨⟨dX2_isBetween_2, rfl⟩, rfl⟩, ⟨⟨dX2_isBetween_3, rfl⟩, Or.inr (Or.inr (Or.inr (Or.inr (Or.inr (Or.inl ⟨rfl, sX2_33⟩)))))⟩, ⟨⟨dX2_isBetween_6, rfl⟩, rfl⟩, ⟨⟨dX2_isBetween_9, rfl⟩, rfl⟩, ⟨⟨dX2_isBetween_10, rfl⟩, rfl⟩, ⟨⟨dX2_isBetween_11, rfl⟩, rfl⟩, ⟨⟨dX2_isBetween_12, rfl⟩, Or.inr (Or.inr (Or.inr (Or.inr (Or.inl ⟨rfl, sX2_38⟩))))⟩, ⟨⟨dX2_isBetween_15, rfl⟩, rfl⟩, ⟨⟨dX2_isBetween_18, rfl⟩, rfl⟩, ⟨⟨dX2_isBetween_19, rfl⟩, rfl⟩, ⟨⟨dX2_isBetween_22, rfl⟩, rfl⟩, ⟨⟨dX2_isBetween_23, rfl⟩, Or.inr (Or.inl ⟨rfl, rfl⟩)⟩, trivial⟩, trivial⟩, by decide, Or.inl ⟨rfl, by decide, rfl⟩⟩
set_option maxRecDepth 100000 in
theorem g_X2_isBetween_0 (S : sT) (call : cT) (n : Nat) (x0 : Int32) (x1 : Int32) (x2 : Int32) (h : pH) : bd S call dflT E_X2_isBetween (n + 1) 0 [some (.int x0), some (.int x1), some (.int x2)] [] h = ((if x0 < (if x2 < x1 then x2 else x1) then zR 0 (some (.inl (some (.int 0)), h)) else (if (if x1 < x2 then x2 else x1) < x0 then zR 0 (some (.inl (some (.int 0)), h)) else zR 1 (some (.inl (some (.int 1)), h))))) := rfl
theorem dX2_isWithin_0 : decode cX2_isWithin 0 = .ok (.iload_n 0, 1) := by decide +kernel
theorem dX2_isWithin_1 : decode cX2_isWithin 1 = .ok (.bipush 8, 2) := by decide +kernel
theorem dX2_isWithin_3 : decode cX2_isWithin 3 = .ok (.irem, 1) := by decide +kernel
theorem dX2_isWithin_4 : decode cX2_isWithin 4 = .ok (.iload_n 1, 1) := by decide +kernel
theorem dX2_isWithin_5 : decode cX2_isWithin 5 = .ok (.bipush 8, 2) := by decide +kernel
theorem dX2_isWithin_7 : decode cX2_isWithin 7 = .ok (.irem, 1) := by decide +kernel
theorem dX2_isWithin_8 : decode cX2_isWithin 8 = .ok (.iload_n 2, 1) := by decide +kernel
theorem dX2_isWithin_9 : decode cX2_isWithin 9 = .ok (.bipush 8, 2) := by decide +kernel
theorem dX2_isWithin_11 : decode cX2_isWithin 11 = .ok (.irem, 1) := by decide +kernel
theorem dX2_isWithin_12 : decode cX2_isWithin 12 = .ok (.invokestatic 29, 3) := by decide +kernel
theorem dX2_isWithin_15 : decode cX2_isWithin 15 = .ok (.ifCond .eq 25, 3) := by decide +kernel
theorem dX2_isWithin_18 : decode cX2_isWithin 18 = .ok (.iload_n 0, 1) := by decide +kernel
theorem dX2_isWithin_19 : decode cX2_isWithin 19 = .ok (.bipush 8, 2) := by decide +kernel
theorem dX2_isWithin_21 : decode cX2_isWithin 21 = .ok (.idiv, 1) := by decide +kernel
theorem dX2_isWithin_22 : decode cX2_isWithin 22 = .ok (.iload_n 1, 1) := by decide +kernel
theorem dX2_isWithin_23 : decode cX2_isWithin 23 = .ok (.bipush 8, 2) := by decide +kernel
theorem dX2_isWithin_25 : decode cX2_isWithin 25 = .ok (.idiv, 1) := by decide +kernel
theorem dX2_isWithin_26 : decode cX2_isWithin 26 = .ok (.iload_n 2, 1) := by decide +kernel
theorem dX2_isWithin_27 : decode cX2_isWithin 27 = .ok (.bipush 8, 2) := by decide +kernel
theorem dX2_isWithin_29 : decode cX2_isWithin 29 = .ok (.idiv, 1) := by decide +kernel
theorem dX2_isWithin_30 : decode cX2_isWithin 30 = .ok (.invokestatic 29, 3) := by decide +kernel
theorem dX2_isWithin_33 : decode cX2_isWithin 33 = .ok (.ifCond .eq 7, 3) := by decide +kernel
theorem dX2_isWithin_36 : decode cX2_isWithin 36 = .ok (.iconst 1, 1) := by decide +kernel
theorem dX2_isWithin_37 : decode cX2_isWithin 37 = .ok (.goto 4, 3) := by decide +kernel
theorem dX2_isWithin_40 : decode cX2_isWithin 40 = .ok (.iconst 0, 1) := by decide +kernel
theorem dX2_isWithin_41 : decode cX2_isWithin 41 = .ok (.ireturn, 1) := by decide +kernel
noncomputable def E_X2_isWithin : mE := (mX2_isWithin, [(37, [(0, (.iload_n 0, 1, false, false, 0, 0, 0, 0, 0, 0, [])), (1, (.bipush 8, 3, false, false, 0, 0, 0, 0, 8, 0, [])), (3, (.irem, 4, false, false, 0, 0, 0, 0, 0, 0, [])), (4, (.iload_n 1, 5, false, false, 1, 0, 0, 0, 0, 0, [])), (5, (.bipush 8, 7, false, false, 0, 0, 0, 0, 8, 0, [])), (7, (.irem, 8, false, false, 0, 0, 0, 0, 0, 0, [])), (8, (.iload_n 2, 9, false, false, 2, 0, 0, 0, 0, 0, [])), (9, (.bipush 8, 11, false, false, 0, 0, 0, 0, 8, 0, [])), (11, (.irem, 12, false, false, 0, 0, 0, 0, 0, 0, [])), (12, (.invokestatic 29, 15, false, false, 94, 3, 1, 0, 0, 0, [])), (15, (.ifCond .eq 25, 18, false, false, 40, 0, 0, 0, 0, 0, [])), (18, (.iload_n 0, 19, false, false, 0, 0, 0, 0, 0, 0, [])), (19, (.bipush 8, 21, false, false, 0, 0, 0, 0, 8, 0, [])), (21, (.idiv, 22, false, false, 0, 0, 0, 0, 0, 0, [])), (22, (.iload_n 1, 23, false, false, 1, 0, 0, 0, 0, 0, [])), (23, (.bipush 8, 25, false, false, 0, 0, 0, 0, 8, 0, [])), (25, (.idiv, 26, false, false, 0, 0, 0, 0, 0, 0, [])), (26, (.iload_n 2, 27, false, false, 2, 0, 0, 0, 0, 0, [])), (27, (.bipush 8, 29, false, false, 0, 0, 0, 0, 8, 0, [])), (29, (.idiv, 30, false, false, 0, 0, 0, 0, 0, 0, [])), (30, (.invokestatic 29, 33, false, false, 94, 3, 1, 0, 0, 0, [])), (33, (.ifCond .eq 7, 36, false, false, 40, 0, 0, 0, 0, 0, [])), (36, (.iconst 1, 37, false, false, 0, 0, 0, 0, 1, 0, [])), (37, (.goto 4, 40, false, false, 41, 0, 0, 0, 0, 0, []))]),
  (41, [(40, (.iconst 0, 41, false, false, 0, 0, 0, 0, 0, 0, [])), (41, (.ireturn, 42, false, false, 0, 0, 1, 0, 0, 0, []))])], 0, [])
set_option maxRecDepth 100000 in
theorem v_X2_isWithin : VE MYT dflT E_X2_isWithin := ⟨⟨⟨⟨⟨dX2_isWithin_0, rfl⟩, rfl⟩, ⟨⟨dX2_isWithin_1, rfl⟩, rfl⟩, ⟨⟨dX2_isWithin_3, rfl⟩, trivial⟩, ⟨⟨dX2_isWithin_4, rfl⟩, rfl⟩, ⟨⟨dX2_isWithin_5, rfl⟩, rfl⟩, ⟨⟨dX2_isWithin_7, rfl⟩, trivial⟩, ⟨⟨dX2_isWithin_8, rfl⟩, rfl⟩, ⟨⟨dX2_isWithin_9, rfl⟩, rfl⟩, ⟨⟨dX2_isWithin_11, rfl⟩, trivial⟩, ⟨⟨dX2_isWithin_12, rfl⟩, Or.inl ⟨rfl, _, my_94, sX2_29⟩⟩, ⟨⟨dX2_isWithin_15, rfl⟩, rfl⟩, ⟨⟨dX2_isWithin_18, rfl⟩, rfl⟩, ⟨⟨dX2_isWithin_19, rfl⟩, rfl⟩, ⟨⟨dX2_isWithin_21, rfl⟩, trivial⟩, ⟨⟨dX2_isWithin_22, rfl⟩, rfl⟩, ⟨⟨dX2_isWithin_23, rfl⟩, rfl⟩, ⟨⟨dX2_isWithin_25, rfl⟩, trivial⟩, ⟨⟨dX2_isWithin_26, rfl⟩, rfl⟩, ⟨⟨dX2_isWithin_27, rfl⟩, rfl⟩, ⟨⟨dX2_isWithin_29, rfl⟩, trivial⟩, ⟨⟨dX2_isWithin_30, rfl⟩, Or.inl ⟨rfl, _, my_94, sX2_29⟩⟩, ⟨⟨dX2_isWithin_33, rfl⟩, rfl⟩, ⟨⟨dX2_isWithin_36, rfl⟩, rfl⟩, ⟨⟨dX2_isWithin_37, rfl⟩, rfl⟩, trivial⟩,
  ⟨⟨⟨dX2_isWithin_40, rfl⟩, rfl⟩, ⟨⟨dX2_isWithin_41, rfl⟩, Or.inr (Or.inl ⟨rfl, rfl⟩)⟩, trivial⟩, trivial⟩, by decide, Or.inl ⟨rfl, by decide, rfl⟩⟩
set_option maxRecDepth 100000 in
theorem g_X2_isWithin_0 (S : sT) (call : cT) (n : Nat) (x0 : Int32) (x1 : Int32) (x2 : Int32) (h : pH) : bd S call dflT E_X2_isWithin (n + 1) 0 [some (.int x0), some (.int x1), some (.int x2)] [] h = (dv 8 (dv 8 (dv 8 (cI (call 94 [.int (x0 - x0 / 8 * 8), .int (x1 - x1 / 8 * 8), .int (x2 - x2 / 8 * 8)] h) (fun y2 h1 => (if y2 = 0 then zR 0 (some (.inl (some (.int 0)), h1)) else dv 8 (dv 8 (dv 8 (cI (call 94 [.int (x0 / 8), .int (x1 / 8), .int (x2 / 8)] h1) (fun y4 h3 => (if y4 = 0 then zR 0 (some (.inl (some (.int 0)), h3)) else zR 1 (some (.inl (some (.int 1)), h3))))))))))))) := rfl
theorem dX2_growthOf_0 : decode cX2_growthOf 0 = .ok (.iload_n 2, 1) := by decide +kernel
theorem dX2_growthOf_1 : decode cX2_growthOf 1 = .ok (.iconst 1, 1) := by decide +kernel
theorem dX2_growthOf_2 : decode cX2_growthOf 2 = .ok (.if_icmp .lt 8, 3) := by decide +kernel
theorem dX2_growthOf_5 : decode cX2_growthOf 5 = .ok (.iload_n 2, 1) := by decide +kernel
theorem dX2_growthOf_6 : decode cX2_growthOf 6 = .ok (.iconst 5, 1) := by decide +kernel
theorem dX2_growthOf_7 : decode cX2_growthOf 7 = .ok (.if_icmp .lt 5, 3) := by decide +kernel
theorem dX2_growthOf_10 : decode cX2_growthOf 10 = .ok (.iconst 0, 1) := by decide +kernel
theorem dX2_growthOf_11 : decode cX2_growthOf 11 = .ok (.ireturn, 1) := by decide +kernel
theorem dX2_growthOf_12 : decode cX2_growthOf 12 = .ok (.aload_n 0, 1) := by decide +kernel
theorem dX2_growthOf_13 : decode cX2_growthOf 13 = .ok (.iconst 4, 1) := by decide +kernel
theorem dX2_growthOf_14 : decode cX2_growthOf 14 = .ok (.iload_n 1, 1) := by decide +kernel
theorem dX2_growthOf_15 : decode cX2_growthOf 15 = .ok (.invokevirtual 25, 3) := by decide +kernel
theorem dX2_growthOf_18 : decode cX2_growthOf 18 = .ok (.ifCond .le 14, 3) := by decide +kernel
theorem dX2_growthOf_21 : decode cX2_growthOf 21 = .ok (.aload_n 0, 1) := by decide +kernel
theorem dX2_growthOf_22 : decode cX2_growthOf 22 = .ok (.iconst 1, 1) := by decide +kernel
theorem dX2_growthOf_23 : decode cX2_growthOf 23 = .ok (.iload_n 1, 1) := by decide +kernel
theorem dX2_growthOf_24 : decode cX2_growthOf 24 = .ok (.invokevirtual 25, 3) := by decide +kernel
theorem dX2_growthOf_27 : decode cX2_growthOf 27 = .ok (.iconst 3, 1) := by decide +kernel
theorem dX2_growthOf_28 : decode cX2_growthOf 28 = .ok (.idiv, 1) := by decide +kernel
theorem dX2_growthOf_29 : decode cX2_growthOf 29 = .ok (.goto 9, 3) := by decide +kernel
theorem dX2_growthOf_32 : decode cX2_growthOf 32 = .ok (.aload_n 0, 1) := by decide +kernel
theorem dX2_growthOf_33 : decode cX2_growthOf 33 = .ok (.iconst 1, 1) := by decide +kernel
theorem dX2_growthOf_34 : decode cX2_growthOf 34 = .ok (.iload_n 1, 1) := by decide +kernel
theorem dX2_growthOf_35 : decode cX2_growthOf 35 = .ok (.invokevirtual 25, 3) := by decide +kernel
theorem dX2_growthOf_38 : decode cX2_growthOf 38 = .ok (.istore 4, 2) := by decide +kernel
theorem dX2_growthOf_40 : decode cX2_growthOf 40 = .ok (.aload_n 0, 1) := by decide +kernel
theorem dX2_growthOf_41 : decode cX2_growthOf 41 = .ok (.iconst 5, 1) := by decide +kernel
theorem dX2_growthOf_42 : decode cX2_growthOf 42 = .ok (.iload_n 1, 1) := by decide +kernel
theorem dX2_growthOf_43 : decode cX2_growthOf 43 = .ok (.invokevirtual 25, 3) := by decide +kernel
theorem dX2_growthOf_46 : decode cX2_growthOf 46 = .ok (.ifCond .le 7, 3) := by decide +kernel
theorem dX2_growthOf_49 : decode cX2_growthOf 49 = .ok (.iconst 2, 1) := by decide +kernel
theorem dX2_growthOf_50 : decode cX2_growthOf 50 = .ok (.goto 4, 3) := by decide +kernel
theorem dX2_growthOf_53 : decode cX2_growthOf 53 = .ok (.iconst 0, 1) := by decide +kernel
theorem dX2_growthOf_54 : decode cX2_growthOf 54 = .ok (.istore 5, 2) := by decide +kernel
theorem dX2_growthOf_56 : decode cX2_growthOf 56 = .ok (.aload_n 0, 1) := by decide +kernel
theorem dX2_growthOf_57 : decode cX2_growthOf 57 = .ok (.iconst 2, 1) := by decide +kernel
theorem dX2_growthOf_58 : decode cX2_growthOf 58 = .ok (.iload_n 1, 1) := by decide +kernel
theorem dX2_growthOf_59 : decode cX2_growthOf 59 = .ok (.invokevirtual 25, 3) := by decide +kernel
theorem dX2_growthOf_62 : decode cX2_growthOf 62 = .ok (.iconst 2, 1) := by decide +kernel
theorem dX2_growthOf_63 : decode cX2_growthOf 63 = .ok (.idiv, 1) := by decide +kernel
theorem dX2_growthOf_64 : decode cX2_growthOf 64 = .ok (.istore 6, 2) := by decide +kernel
theorem dX2_growthOf_66 : decode cX2_growthOf 66 = .ok (.iconst 0, 1) := by decide +kernel
theorem dX2_growthOf_67 : decode cX2_growthOf 67 = .ok (.getstatic 45, 3) := by decide +kernel
theorem dX2_growthOf_70 : decode cX2_growthOf 70 = .ok (.iload_n 2, 1) := by decide +kernel
theorem dX2_growthOf_71 : decode cX2_growthOf 71 = .ok (.iaload, 1) := by decide +kernel
theorem dX2_growthOf_72 : decode cX2_growthOf 72 = .ok (.aload_n 0, 1) := by decide +kernel
theorem dX2_growthOf_73 : decode cX2_growthOf 73 = .ok (.iconst 0, 1) := by decide +kernel
theorem dX2_growthOf_74 : decode cX2_growthOf 74 = .ok (.iload_n 1, 1) := by decide +kernel
theorem dX2_growthOf_75 : decode cX2_growthOf 75 = .ok (.invokevirtual 25, 3) := by decide +kernel
theorem dX2_growthOf_78 : decode cX2_growthOf 78 = .ok (.iadd, 1) := by decide +kernel
theorem dX2_growthOf_79 : decode cX2_growthOf 79 = .ok (.iload_n 3, 1) := by decide +kernel
theorem dX2_growthOf_80 : decode cX2_growthOf 80 = .ok (.iadd, 1) := by decide +kernel
theorem dX2_growthOf_81 : decode cX2_growthOf 81 = .ok (.iload 5, 2) := by decide +kernel
theorem dX2_growthOf_83 : decode cX2_growthOf 83 = .ok (.iadd, 1) := by decide +kernel
theorem dX2_growthOf_84 : decode cX2_growthOf 84 = .ok (.iload 6, 2) := by decide +kernel
theorem dX2_growthOf_86 : decode cX2_growthOf 86 = .ok (.isub, 1) := by decide +kernel
theorem dX2_growthOf_87 : decode cX2_growthOf 87 = .ok (.iload 4, 2) := by decide +kernel
theorem dX2_growthOf_89 : decode cX2_growthOf 89 = .ok (.isub, 1) := by decide +kernel
theorem dX2_growthOf_90 : decode cX2_growthOf 90 = .ok (.iconst 2, 1) := by decide +kernel
theorem dX2_growthOf_91 : decode cX2_growthOf 91 = .ok (.aload_n 0, 1) := by decide +kernel
theorem dX2_growthOf_92 : decode cX2_growthOf 92 = .ok (.bipush 8, 2) := by decide +kernel
theorem dX2_growthOf_94 : decode cX2_growthOf 94 = .ok (.iload_n 1, 1) := by decide +kernel
theorem dX2_growthOf_95 : decode cX2_growthOf 95 = .ok (.invokevirtual 25, 3) := by decide +kernel
theorem dX2_growthOf_98 : decode cX2_growthOf 98 = .ok (.imul, 1) := by decide +kernel
theorem dX2_growthOf_99 : decode cX2_growthOf 99 = .ok (.isub, 1) := by decide +kernel
theorem dX2_growthOf_100 : decode cX2_growthOf 100 = .ok (.invokestatic 38, 3) := by decide +kernel
theorem dX2_growthOf_103 : decode cX2_growthOf 103 = .ok (.ireturn, 1) := by decide +kernel
noncomputable def E_X2_growthOf : mE := (mX2_growthOf, [(35, [(0, (.iload_n 2, 1, false, false, 2, 0, 0, 0, 0, 0, [])), (1, (.iconst 1, 2, false, false, 0, 0, 0, 0, 1, 0, [])), (2, (.if_icmp .lt 8, 5, false, false, 10, 0, 0, 0, 0, 0, [])), (5, (.iload_n 2, 6, false, false, 2, 0, 0, 0, 0, 0, [])), (6, (.iconst 5, 7, false, false, 0, 0, 0, 0, 5, 0, [])), (7, (.if_icmp .lt 5, 10, false, false, 12, 0, 0, 0, 0, 0, [])), (10, (.iconst 0, 11, false, false, 0, 0, 0, 0, 0, 0, [])), (11, (.ireturn, 12, false, false, 0, 0, 0, 0, 0, 0, [])), (12, (.aload_n 0, 13, false, false, 0, 0, 0, 0, 0, 0, [])), (13, (.iconst 4, 14, false, false, 0, 0, 0, 0, 4, 0, [])), (14, (.iload_n 1, 15, false, false, 1, 0, 0, 0, 0, 0, [])), (15, (.invokevirtual 25, 18, false, false, 23, 2, 1, 5, 0, 0, [])), (18, (.ifCond .le 14, 21, false, false, 32, 0, 0, 0, 0, 0, [])), (21, (.aload_n 0, 22, false, false, 0, 0, 0, 0, 0, 0, [])), (22, (.iconst 1, 23, false, false, 0, 0, 0, 0, 1, 0, [])), (23, (.iload_n 1, 24, false, false, 1, 0, 0, 0, 0, 0, [])), (24, (.invokevirtual 25, 27, false, false, 23, 2, 1, 5, 0, 0, [])), (27, (.iconst 3, 28, false, false, 0, 0, 0, 0, 3, 0, [])), (28, (.idiv, 29, false, false, 0, 0, 0, 0, 0, 0, [])), (29, (.goto 9, 32, false, false, 38, 0, 0, 0, 0, 0, [])), (32, (.aload_n 0, 33, false, false, 0, 0, 0, 0, 0, 0, [])), (33, (.iconst 1, 34, false, false, 0, 0, 0, 0, 1, 0, [])), (34, (.iload_n 1, 35, false, false, 1, 0, 0, 0, 0, 0, [])), (35, (.invokevirtual 25, 38, false, false, 23, 2, 1, 5, 0, 0, []))]),
  (74, [(38, (.istore 4, 40, false, false, 4, 0, 0, 0, 0, 0, [])), (40, (.aload_n 0, 41, false, false, 0, 0, 0, 0, 0, 0, [])), (41, (.iconst 5, 42, false, false, 0, 0, 0, 0, 5, 0, [])), (42, (.iload_n 1, 43, false, false, 1, 0, 0, 0, 0, 0, [])), (43, (.invokevirtual 25, 46, false, false, 23, 2, 1, 5, 0, 0, [])), (46, (.ifCond .le 7, 49, false, false, 53, 0, 0, 0, 0, 0, [])), (49, (.iconst 2, 50, false, false, 0, 0, 0, 0, 2, 0, [])), (50, (.goto 4, 53, false, true, 54, 0, 0, 0, 0, 0, [])), (53, (.iconst 0, 54, true, false, 0, 0, 0, 0, 0, 0, [])), (54, (.istore 5, 56, false, false, 5, 0, 0, 0, 0, 0, [])), (56, (.aload_n 0, 57, false, false, 0, 0, 0, 0, 0, 0, [])), (57, (.iconst 2, 58, false, false, 0, 0, 0, 0, 2, 0, [])), (58, (.iload_n 1, 59, false, false, 1, 0, 0, 0, 0, 0, [])), (59, (.invokevirtual 25, 62, false, false, 23, 2, 1, 5, 0, 0, [])), (62, (.iconst 2, 63, false, false, 0, 0, 0, 0, 2, 0, [])), (63, (.idiv, 64, false, false, 0, 0, 0, 0, 0, 0, [])), (64, (.istore 6, 66, false, false, 6, 0, 0, 0, 0, 0, [])), (66, (.iconst 0, 67, false, false, 0, 0, 0, 0, 0, 0, [])), (67, (.getstatic 45, 70, false, false, 1, 0, 0, 0, 0, 0, [])), (70, (.iload_n 2, 71, false, false, 2, 0, 0, 0, 0, 0, [])), (71, (.iaload, 72, false, false, 0, 0, 1, 0, 0, 0, [])), (72, (.aload_n 0, 73, false, false, 0, 0, 0, 0, 0, 0, [])), (73, (.iconst 0, 74, false, false, 0, 0, 0, 0, 0, 0, [])), (74, (.iload_n 1, 75, false, false, 1, 0, 0, 0, 0, 0, []))]),
  (103, [(75, (.invokevirtual 25, 78, false, false, 23, 2, 1, 5, 0, 0, [])), (78, (.iadd, 79, false, false, 0, 0, 0, 0, 0, 0, [])), (79, (.iload_n 3, 80, false, false, 3, 0, 0, 0, 0, 0, [])), (80, (.iadd, 81, false, false, 0, 0, 0, 0, 0, 0, [])), (81, (.iload 5, 83, false, false, 5, 0, 0, 0, 0, 0, [])), (83, (.iadd, 84, false, false, 0, 0, 0, 0, 0, 0, [])), (84, (.iload 6, 86, false, false, 6, 0, 0, 0, 0, 0, [])), (86, (.isub, 87, false, false, 0, 0, 0, 0, 0, 0, [])), (87, (.iload 4, 89, false, false, 4, 0, 0, 0, 0, 0, [])), (89, (.isub, 90, false, false, 0, 0, 0, 0, 0, 0, [])), (90, (.iconst 2, 91, false, false, 0, 0, 0, 0, 2, 0, [])), (91, (.aload_n 0, 92, false, false, 0, 0, 0, 0, 0, 0, [])), (92, (.bipush 8, 94, false, false, 0, 0, 0, 0, 8, 0, [])), (94, (.iload_n 1, 95, false, false, 1, 0, 0, 0, 0, 0, [])), (95, (.invokevirtual 25, 98, false, false, 23, 2, 1, 5, 0, 0, [])), (98, (.imul, 99, false, false, 0, 0, 0, 0, 0, 0, [])), (99, (.isub, 100, false, false, 0, 0, 0, 0, 0, 0, [])), (100, (.invokestatic 38, 103, false, false, 0, 2, 1, 5, 0, 0, [])), (103, (.ireturn, 104, false, false, 0, 0, 0, 0, 0, 0, []))])], 0, [])
set_option maxRecDepth 100000 in
theorem v_X2_growthOf : VE MYT dflT E_X2_growthOf := ⟨⟨⟨⟨⟨dX2_growthOf_0, rfl⟩, rfl⟩, ⟨⟨dX2_growthOf_1, rfl⟩, rfl⟩, ⟨⟨dX2_growthOf_2, rfl⟩, rfl⟩, ⟨⟨dX2_growthOf_5, rfl⟩, rfl⟩, ⟨⟨dX2_growthOf_6, rfl⟩, rfl⟩, ⟨⟨dX2_growthOf_7, rfl⟩, rfl⟩, ⟨⟨dX2_growthOf_10, rfl⟩, rfl⟩, ⟨⟨dX2_growthOf_11, rfl⟩, Or.inl ⟨rfl, rfl⟩⟩, ⟨⟨dX2_growthOf_12, rfl⟩, rfl⟩, ⟨⟨dX2_growthOf_13, rfl⟩, rfl⟩, ⟨⟨dX2_growthOf_14, rfl⟩, rfl⟩, ⟨⟨dX2_growthOf_15, rfl⟩, Or.inr ⟨by decide, ⟨_, my_23, sX2_25⟩, fun q => absurd q (by decide)⟩⟩, ⟨⟨dX2_growthOf_18, rfl⟩, rfl⟩, ⟨⟨dX2_growthOf_21, rfl⟩, rfl⟩, ⟨⟨dX2_growthOf_22, rfl⟩, rfl⟩, ⟨⟨dX2_growthOf_23, rfl⟩, rfl⟩, ⟨⟨dX2_growthOf_24, rfl⟩, Or.inr ⟨by decide, ⟨_, my_23, sX2_25⟩, fun q => absurd q (by decide)⟩⟩, ⟨⟨dX2_growthOf_27, rfl⟩, rfl⟩, ⟨⟨dX2_growthOf_28, rfl⟩, trivial⟩, ⟨⟨dX2_growthOf_29, rfl⟩, rfl⟩, ⟨⟨dX2_growthOf_32, rfl⟩, rfl⟩, ⟨⟨dX2_growthOf_33, rfl⟩, rfl⟩, ⟨⟨dX2_growthOf_34, rfl⟩, rfl⟩, ⟨⟨dX2_growthOf_35, rfl⟩, Or.inr ⟨by decide, ⟨_, my_23, sX2_25⟩, fun q => absurd q (by decide)⟩⟩, trivial⟩,
  ⟨⟨⟨dX2_growthOf_38, rfl⟩, rfl⟩, ⟨⟨dX2_growthOf_40, rfl⟩, rfl⟩, ⟨⟨dX2_growthOf_41, rfl⟩, rfl⟩, ⟨⟨dX2_growthOf_42, rfl⟩, rfl⟩, ⟨⟨dX2_growthOf_43, rfl⟩, Or.inr ⟨by decide, ⟨_, my_23, sX2_25⟩, fun q => absurd q (by decide)⟩⟩, ⟨⟨dX2_growthOf_46, rfl⟩, rfl⟩, ⟨⟨dX2_growthOf_49, rfl⟩, rfl⟩, ⟨⟨dX2_growthOf_50, rfl⟩, rfl⟩, ⟨⟨dX2_growthOf_53, rfl⟩, rfl⟩, ⟨⟨dX2_growthOf_54, rfl⟩, rfl⟩, ⟨⟨dX2_growthOf_56, rfl⟩, rfl⟩, ⟨⟨dX2_growthOf_57, rfl⟩, rfl⟩, ⟨⟨dX2_growthOf_58, rfl⟩, rfl⟩, ⟨⟨dX2_growthOf_59, rfl⟩, Or.inr ⟨by decide, ⟨_, my_23, sX2_25⟩, fun q => absurd q (by decide)⟩⟩, ⟨⟨dX2_growthOf_62, rfl⟩, rfl⟩, ⟨⟨dX2_growthOf_63, rfl⟩, trivial⟩, ⟨⟨dX2_growthOf_64, rfl⟩, rfl⟩, ⟨⟨dX2_growthOf_66, rfl⟩, rfl⟩, ⟨⟨dX2_growthOf_67, rfl⟩, Or.inl ⟨rfl, rfl, _, rfl, ftX2_45⟩⟩, ⟨⟨dX2_growthOf_70, rfl⟩, rfl⟩, ⟨⟨dX2_growthOf_71, rfl⟩, trivial⟩, ⟨⟨dX2_growthOf_72, rfl⟩, rfl⟩, ⟨⟨dX2_growthOf_73, rfl⟩, rfl⟩, ⟨⟨dX2_growthOf_74, rfl⟩, rfl⟩, trivial⟩,
  ⟨⟨⟨dX2_growthOf_75, rfl⟩, Or.inr ⟨by decide, ⟨_, my_23, sX2_25⟩, fun q => absurd q (by decide)⟩⟩, ⟨⟨dX2_growthOf_78, rfl⟩, trivial⟩, ⟨⟨dX2_growthOf_79, rfl⟩, rfl⟩, ⟨⟨dX2_growthOf_80, rfl⟩, trivial⟩, ⟨⟨dX2_growthOf_81, rfl⟩, rfl⟩, ⟨⟨dX2_growthOf_83, rfl⟩, trivial⟩, ⟨⟨dX2_growthOf_84, rfl⟩, rfl⟩, ⟨⟨dX2_growthOf_86, rfl⟩, trivial⟩, ⟨⟨dX2_growthOf_87, rfl⟩, rfl⟩, ⟨⟨dX2_growthOf_89, rfl⟩, trivial⟩, ⟨⟨dX2_growthOf_90, rfl⟩, rfl⟩, ⟨⟨dX2_growthOf_91, rfl⟩, rfl⟩, ⟨⟨dX2_growthOf_92, rfl⟩, rfl⟩, ⟨⟨dX2_growthOf_94, rfl⟩, rfl⟩, ⟨⟨dX2_growthOf_95, rfl⟩, Or.inr ⟨by decide, ⟨_, my_23, sX2_25⟩, fun q => absurd q (by decide)⟩⟩, ⟨⟨dX2_growthOf_98, rfl⟩, trivial⟩, ⟨⟨dX2_growthOf_99, rfl⟩, trivial⟩, ⟨⟨dX2_growthOf_100, rfl⟩, Or.inr (Or.inr (Or.inr (Or.inr (Or.inl ⟨rfl, sX2_38⟩))))⟩, ⟨⟨dX2_growthOf_103, rfl⟩, Or.inl ⟨rfl, rfl⟩⟩, trivial⟩, trivial⟩, by decide, Or.inl ⟨rfl, by decide, rfl⟩⟩
set_option maxRecDepth 100000 in
theorem g_X2_growthOf_0 (S : sT) (call : cT) (n : Nat) (a0 : Nat) (x1 : Int32) (x2 : Int32) (x3 : Int32) (h : pH) : bd S call dflT E_X2_growthOf (n + 1) 0 [some (.ref a0), some (.int x1), some (.int x2), some (.int x3), none, none, none] [] h = ((if x2 < 1 then some (.inl (some (.int 0)), h) else (if x2 < 5 then rC h (.ref a0) 5 (cI (call 23 [.ref a0, .int 4, .int x1] h) (fun y2 h1 => (if y2 ≤ 0 then rC h1 (.ref a0) 5 (cI (call 23 [.ref a0, .int 1, .int x1] h1) (fun y4 h3 => rC h3 (.ref a0) 5 (cI (call 23 [.ref a0, .int 5, .int x1] h3) (fun y6 h5 => (if y6 ≤ 0 then bd S call dflT E_X2_growthOf n 54 [some (.ref a0), some (.int x1), some (.int x2), some (.int x3), some (.int y4), none, none] [.int 0] h5 else bd S call dflT E_X2_growthOf n 54 [some (.ref a0), some (.int x1), some (.int x2), some (.int x3), some (.int y4), none, none] [.int 2] h5))))) else rC h1 (.ref a0) 5 (cI (call 23 [.ref a0, .int 1, .int x1] h1) (fun y8 h7 => dv 3 (rC h7 (.ref a0) 5 (cI (call 23 [.ref a0, .int 5, .int x1] h7) (fun y10 h9 => (if y10 ≤ 0 then bd S call dflT E_X2_growthOf n 54 [some (.ref a0), some (.int x1), some (.int x2), some (.int x3), some (.int (y8 / 3)), none, none] [.int 0] h9 else bd S call dflT E_X2_growthOf n 54 [some (.ref a0), some (.int x1), some (.int x2), some (.int x3), some (.int (y8 / 3)), none, none] [.int 2] h9))))))))) else some (.inl (some (.int 0)), h)))) := rfl
set_option maxRecDepth 100000 in
theorem g_X2_growthOf_54 (S : sT) (call : cT) (n : Nat) (a0 : Nat) (x1 : Int32) (x2 : Int32) (x3 : Int32) (x4 : Int32) (o5 : Option Value) (o6 : Option Value) (y0 : Int32) (h : pH) : bd S call dflT E_X2_growthOf (n + 1) 54 [some (.ref a0), some (.int x1), some (.int x2), some (.int x3), some (.int x4), o5, o6] [.int y0] h = (rC h (.ref a0) 5 (cI (call 23 [.ref a0, .int 2, .int x1] h) (fun y2 h1 => dv 2 (aO (.retAddr 1) x2 (fun y3 => rC h1 (.ref a0) 5 (cI (call 23 [.ref a0, .int 0, .int x1] h1) (fun y5 h4 => rC h4 (.ref a0) 5 (cI (call 23 [.ref a0, .int 8, .int x1] h4) (fun y7 h6 => some (.inl (some (.int (if (0 : Int32) < ((((((y3 + y5) + x3) + y0) - (y2 / 2)) - x4) - (2 * y7)) then ((((((y3 + y5) + x3) + y0) - (y2 / 2)) - x4) - (2 * y7)) else (0 : Int32)))), h6)))))))))) := rfl
theorem dX2_harvest_0 : decode cX2_harvest 0 = .ok (.aload_n 0, 1) := by decide +kernel
theorem dX2_harvest_1 : decode cX2_harvest 1 = .ok (.iconst 3, 1) := by decide +kernel
theorem dX2_harvest_2 : decode cX2_harvest 2 = .ok (.iload_n 1, 1) := by decide +kernel
theorem dX2_harvest_3 : decode cX2_harvest 3 = .ok (.invokevirtual 25, 3) := by decide +kernel
theorem dX2_harvest_6 : decode cX2_harvest 6 = .ok (.istore_n 3, 1) := by decide +kernel
theorem dX2_harvest_7 : decode cX2_harvest 7 = .ok (.aload_n 0, 1) := by decide +kernel
theorem dX2_harvest_8 : decode cX2_harvest 8 = .ok (.iload_n 1, 1) := by decide +kernel
theorem dX2_harvest_9 : decode cX2_harvest 9 = .ok (.iload_n 3, 1) := by decide +kernel
theorem dX2_harvest_10 : decode cX2_harvest 10 = .ok (.iload_n 2, 1) := by decide +kernel
theorem dX2_harvest_11 : decode cX2_harvest 11 = .ok (.invokevirtual 48, 3) := by decide +kernel
theorem dX2_harvest_14 : decode cX2_harvest 14 = .ok (.istore 4, 2) := by decide +kernel
theorem dX2_harvest_16 : decode cX2_harvest 16 = .ok (.aload_n 0, 1) := by decide +kernel
theorem dX2_harvest_17 : decode cX2_harvest 17 = .ok (.bipush 6, 2) := by decide +kernel
theorem dX2_harvest_19 : decode cX2_harvest 19 = .ok (.iload_n 1, 1) := by decide +kernel
theorem dX2_harvest_20 : decode cX2_harvest 20 = .ok (.invokevirtual 25, 3) := by decide +kernel
theorem dX2_harvest_23 : decode cX2_harvest 23 = .ok (.iconst 4, 1) := by decide +kernel
theorem dX2_harvest_24 : decode cX2_harvest 24 = .ok (.idiv, 1) := by decide +kernel
theorem dX2_harvest_25 : decode cX2_harvest 25 = .ok (.iload 4, 2) := by decide +kernel
theorem dX2_harvest_27 : decode cX2_harvest 27 = .ok (.invokestatic 33, 3) := by decide +kernel
theorem dX2_harvest_30 : decode cX2_harvest 30 = .ok (.istore 5, 2) := by decide +kernel
theorem dX2_harvest_32 : decode cX2_harvest 32 = .ok (.aload_n 0, 1) := by decide +kernel
theorem dX2_harvest_33 : decode cX2_harvest 33 = .ok (.bipush 9, 2) := by decide +kernel
theorem dX2_harvest_35 : decode cX2_harvest 35 = .ok (.iload_n 1, 1) := by decide +kernel
theorem dX2_harvest_36 : decode cX2_harvest 36 = .ok (.iload 4, 2) := by decide +kernel
theorem dX2_harvest_38 : decode cX2_harvest 38 = .ok (.iload 5, 2) := by decide +kernel
theorem dX2_harvest_40 : decode cX2_harvest 40 = .ok (.isub, 1) := by decide +kernel
theorem dX2_harvest_41 : decode cX2_harvest 41 = .ok (.invokevirtual 52, 3) := by decide +kernel
theorem dX2_harvest_44 : decode cX2_harvest 44 = .ok (.aload_n 0, 1) := by decide +kernel
theorem dX2_harvest_45 : decode cX2_harvest 45 = .ok (.bipush 12, 2) := by decide +kernel
theorem dX2_harvest_47 : decode cX2_harvest 47 = .ok (.iload_n 1, 1) := by decide +kernel
theorem dX2_harvest_48 : decode cX2_harvest 48 = .ok (.iload 5, 2) := by decide +kernel
theorem dX2_harvest_50 : decode cX2_harvest 50 = .ok (.invokevirtual 52, 3) := by decide +kernel
theorem dX2_harvest_53 : decode cX2_harvest 53 = .ok (.aload_n 0, 1) := by decide +kernel
theorem dX2_harvest_54 : decode cX2_harvest 54 = .ok (.bipush 13, 2) := by decide +kernel
theorem dX2_harvest_56 : decode cX2_harvest 56 = .ok (.iload_n 1, 1) := by decide +kernel
theorem dX2_harvest_57 : decode cX2_harvest 57 = .ok (.iload_n 3, 1) := by decide +kernel
theorem dX2_harvest_58 : decode cX2_harvest 58 = .ok (.invokevirtual 52, 3) := by decide +kernel
theorem dX2_harvest_61 : decode cX2_harvest 61 = .ok (.iload_n 3, 1) := by decide +kernel
theorem dX2_harvest_62 : decode cX2_harvest 62 = .ok (.ifCond .lt 35, 3) := by decide +kernel
theorem dX2_harvest_65 : decode cX2_harvest 65 = .ok (.iload_n 3, 1) := by decide +kernel
theorem dX2_harvest_66 : decode cX2_harvest 66 = .ok (.iconst 5, 1) := by decide +kernel
theorem dX2_harvest_67 : decode cX2_harvest 67 = .ok (.if_icmp .gt 30, 3) := by decide +kernel
theorem dX2_harvest_70 : decode cX2_harvest 70 = .ok (.aload_n 0, 1) := by decide +kernel
theorem dX2_harvest_71 : decode cX2_harvest 71 = .ok (.iconst 2, 1) := by decide +kernel
theorem dX2_harvest_72 : decode cX2_harvest 72 = .ok (.iload_n 1, 1) := by decide +kernel
theorem dX2_harvest_73 : decode cX2_harvest 73 = .ok (.iconst 0, 1) := by decide +kernel
theorem dX2_harvest_74 : decode cX2_harvest 74 = .ok (.bipush 20, 2) := by decide +kernel
theorem dX2_harvest_76 : decode cX2_harvest 76 = .ok (.aload_n 0, 1) := by decide +kernel
theorem dX2_harvest_77 : decode cX2_harvest 77 = .ok (.iconst 2, 1) := by decide +kernel
theorem dX2_harvest_78 : decode cX2_harvest 78 = .ok (.iload_n 1, 1) := by decide +kernel
theorem dX2_harvest_79 : decode cX2_harvest 79 = .ok (.invokevirtual 25, 3) := by decide +kernel
theorem dX2_harvest_82 : decode cX2_harvest 82 = .ok (.getstatic 56, 3) := by decide +kernel
theorem dX2_harvest_85 : decode cX2_harvest 85 = .ok (.iload_n 3, 1) := by decide +kernel
theorem dX2_harvest_86 : decode cX2_harvest 86 = .ok (.iaload, 1) := by decide +kernel
theorem dX2_harvest_87 : decode cX2_harvest 87 = .ok (.iadd, 1) := by decide +kernel
theorem dX2_harvest_88 : decode cX2_harvest 88 = .ok (.invokestatic 33, 3) := by decide +kernel
theorem dX2_harvest_91 : decode cX2_harvest 91 = .ok (.invokestatic 38, 3) := by decide +kernel
theorem dX2_harvest_94 : decode cX2_harvest 94 = .ok (.invokevirtual 52, 3) := by decide +kernel
theorem dX2_harvest_97 : decode cX2_harvest 97 = .ok (.return_, 1) := by decide +kernel
noncomputable def E_X2_harvest : mE := (mX2_harvest, [(36, [(0, (.aload_n 0, 1, false, false, 0, 0, 0, 0, 0, 0, [])), (1, (.iconst 3, 2, false, false, 0, 0, 0, 0, 3, 0, [])), (2, (.iload_n 1, 3, false, false, 1, 0, 0, 0, 0, 0, [])), (3, (.invokevirtual 25, 6, false, false, 23, 2, 1, 5, 0, 0, [])), (6, (.istore_n 3, 7, false, false, 3, 0, 0, 0, 0, 0, [])), (7, (.aload_n 0, 8, false, false, 0, 0, 0, 0, 0, 0, [])), (8, (.iload_n 1, 9, false, false, 1, 0, 0, 0, 0, 0, [])), (9, (.iload_n 3, 10, false, false, 3, 0, 0, 0, 0, 0, [])), (10, (.iload_n 2, 11, false, false, 2, 0, 0, 0, 0, 0, [])), (11, (.invokevirtual 48, 14, false, false, 185, 3, 1, 5, 0, 0, [])), (14, (.istore 4, 16, false, false, 4, 0, 0, 0, 0, 0, [])), (16, (.aload_n 0, 17, false, false, 0, 0, 0, 0, 0, 0, [])), (17, (.bipush 6, 19, false, false, 0, 0, 0, 0, 6, 0, [])), (19, (.iload_n 1, 20, false, false, 1, 0, 0, 0, 0, 0, [])), (20, (.invokevirtual 25, 23, false, false, 23, 2, 1, 5, 0, 0, [])), (23, (.iconst 4, 24, false, false, 0, 0, 0, 0, 4, 0, [])), (24, (.idiv, 25, false, false, 0, 0, 0, 0, 0, 0, [])), (25, (.iload 4, 27, false, false, 4, 0, 0, 0, 0, 0, [])), (27, (.invokestatic 33, 30, false, false, 0, 2, 1, 6, 0, 0, [])), (30, (.istore 5, 32, false, false, 5, 0, 0, 0, 0, 0, [])), (32, (.aload_n 0, 33, false, false, 0, 0, 0, 0, 0, 0, [])), (33, (.bipush 9, 35, false, false, 0, 0, 0, 0, 9, 0, [])), (35, (.iload_n 1, 36, false, false, 1, 0, 0, 0, 0, 0, [])), (36, (.iload 4, 38, false, false, 4, 0, 0, 0, 0, 0, []))]),
  (76, [(38, (.iload 5, 40, false, false, 5, 0, 0, 0, 0, 0, [])), (40, (.isub, 41, false, false, 0, 0, 0, 0, 0, 0, [])), (41, (.invokevirtual 52, 44, false, false, 25, 3, 0, 5, 0, 0, [])), (44, (.aload_n 0, 45, false, false, 0, 0, 0, 0, 0, 0, [])), (45, (.bipush 12, 47, false, false, 0, 0, 0, 0, 12, 0, [])), (47, (.iload_n 1, 48, false, false, 1, 0, 0, 0, 0, 0, [])), (48, (.iload 5, 50, false, false, 5, 0, 0, 0, 0, 0, [])), (50, (.invokevirtual 52, 53, false, false, 25, 3, 0, 5, 0, 0, [])), (53, (.aload_n 0, 54, false, false, 0, 0, 0, 0, 0, 0, [])), (54, (.bipush 13, 56, false, false, 0, 0, 0, 0, 13, 0, [])), (56, (.iload_n 1, 57, false, false, 1, 0, 0, 0, 0, 0, [])), (57, (.iload_n 3, 58, false, false, 3, 0, 0, 0, 0, 0, [])), (58, (.invokevirtual 52, 61, false, false, 25, 3, 0, 5, 0, 0, [])), (61, (.iload_n 3, 62, false, false, 3, 0, 0, 0, 0, 0, [])), (62, (.ifCond .lt 35, 65, false, false, 97, 0, 0, 0, 0, 0, [])), (65, (.iload_n 3, 66, false, false, 3, 0, 0, 0, 0, 0, [])), (66, (.iconst 5, 67, false, false, 0, 0, 0, 0, 5, 0, [])), (67, (.if_icmp .gt 30, 70, false, false, 97, 0, 0, 0, 0, 0, [])), (70, (.aload_n 0, 71, false, false, 0, 0, 0, 0, 0, 0, [])), (71, (.iconst 2, 72, false, false, 0, 0, 0, 0, 2, 0, [])), (72, (.iload_n 1, 73, false, false, 1, 0, 0, 0, 0, 0, [])), (73, (.iconst 0, 74, false, false, 0, 0, 0, 0, 0, 0, [])), (74, (.bipush 20, 76, false, false, 0, 0, 0, 0, 20, 0, [])), (76, (.aload_n 0, 77, false, false, 0, 0, 0, 0, 0, 0, []))]),
  (97, [(77, (.iconst 2, 78, false, false, 0, 0, 0, 0, 2, 0, [])), (78, (.iload_n 1, 79, false, false, 1, 0, 0, 0, 0, 0, [])), (79, (.invokevirtual 25, 82, false, false, 23, 2, 1, 5, 0, 0, [])), (82, (.getstatic 56, 85, false, false, 2, 1, 0, 0, 0, 0, [])), (85, (.iload_n 3, 86, false, false, 3, 0, 0, 0, 0, 0, [])), (86, (.iaload, 87, false, false, 0, 0, 1, 0, 0, 0, [])), (87, (.iadd, 88, false, false, 0, 0, 0, 0, 0, 0, [])), (88, (.invokestatic 33, 91, false, false, 0, 2, 1, 6, 0, 0, [])), (91, (.invokestatic 38, 94, false, false, 0, 2, 1, 5, 0, 0, [])), (94, (.invokevirtual 52, 97, false, false, 25, 3, 0, 5, 0, 0, [])), (97, (.return_, 98, false, false, 0, 0, 0, 0, 0, 0, []))])], 0, [])
set_option maxRecDepth 100000 in
theorem v_X2_harvest : VE MYT dflT E_X2_harvest := ⟨⟨⟨⟨⟨dX2_harvest_0, rfl⟩, rfl⟩, ⟨⟨dX2_harvest_1, rfl⟩, rfl⟩, ⟨⟨dX2_harvest_2, rfl⟩, rfl⟩, ⟨⟨dX2_harvest_3, rfl⟩, Or.inr ⟨by decide, ⟨_, my_23, sX2_25⟩, fun q => absurd q (by decide)⟩⟩, ⟨⟨dX2_harvest_6, rfl⟩, rfl⟩, ⟨⟨dX2_harvest_7, rfl⟩, rfl⟩, ⟨⟨dX2_harvest_8, rfl⟩, rfl⟩, ⟨⟨dX2_harvest_9, rfl⟩, rfl⟩, ⟨⟨dX2_harvest_10, rfl⟩, rfl⟩, ⟨⟨dX2_harvest_11, rfl⟩, Or.inr ⟨by decide, ⟨_, my_185, sX2_48⟩, fun q => absurd q (by decide)⟩⟩, ⟨⟨dX2_harvest_14, rfl⟩, rfl⟩, ⟨⟨dX2_harvest_16, rfl⟩, rfl⟩, ⟨⟨dX2_harvest_17, rfl⟩, rfl⟩, ⟨⟨dX2_harvest_19, rfl⟩, rfl⟩, ⟨⟨dX2_harvest_20, rfl⟩, Or.inr ⟨by decide, ⟨_, my_23, sX2_25⟩, fun q => absurd q (by decide)⟩⟩, ⟨⟨dX2_harvest_23, rfl⟩, rfl⟩, ⟨⟨dX2_harvest_24, rfl⟩, trivial⟩, ⟨⟨dX2_harvest_25, rfl⟩, rfl⟩, ⟨⟨dX2_harvest_27, rfl⟩, Or.inr (Or.inr (Or.inr (Or.inr (Or.inr (Or.inl ⟨rfl, sX2_33⟩)))))⟩, ⟨⟨dX2_harvest_30, rfl⟩, rfl⟩, ⟨⟨dX2_harvest_32, rfl⟩, rfl⟩, ⟨⟨dX2_harvest_33, rfl⟩, rfl⟩, ⟨⟨dX2_harvest_35, rfl⟩, rfl⟩, ⟨⟨dX2_harvest_36, rfl⟩, rfl⟩, trivial⟩,
  ⟨⟨⟨dX2_harvest_38, rfl⟩, rfl⟩, ⟨⟨dX2_harvest_40, rfl⟩, trivial⟩, ⟨⟨dX2_harvest_41, rfl⟩, Or.inr ⟨by decide, ⟨_, my_25, sX2_52⟩, fun q => absurd q (by decide)⟩⟩, ⟨⟨dX2_harvest_44, rfl⟩, rfl⟩, ⟨⟨dX2_harvest_45, rfl⟩, rfl⟩, ⟨⟨dX2_harvest_47, rfl⟩, rfl⟩, ⟨⟨dX2_harvest_48, rfl⟩, rfl⟩, ⟨⟨dX2_harvest_50, rfl⟩, Or.inr ⟨by decide, ⟨_, my_25, sX2_52⟩, fun q => absurd q (by decide)⟩⟩, ⟨⟨dX2_harvest_53, rfl⟩, rfl⟩, ⟨⟨dX2_harvest_54, rfl⟩, rfl⟩, ⟨⟨dX2_harvest_56, rfl⟩, rfl⟩, ⟨⟨dX2_harvest_57, rfl⟩, rfl⟩, ⟨⟨dX2_harvest_58, rfl⟩, Or.inr ⟨by decide, ⟨_, my_25, sX2_52⟩, fun q => absurd q (by decide)⟩⟩, ⟨⟨dX2_harvest_61, rfl⟩, rfl⟩, ⟨⟨dX2_harvest_62, rfl⟩, rfl⟩, ⟨⟨dX2_harvest_65, rfl⟩, rfl⟩, ⟨⟨dX2_harvest_66, rfl⟩, rfl⟩, ⟨⟨dX2_harvest_67, rfl⟩, rfl⟩, ⟨⟨dX2_harvest_70, rfl⟩, rfl⟩, ⟨⟨dX2_harvest_71, rfl⟩, rfl⟩, ⟨⟨dX2_harvest_72, rfl⟩, rfl⟩, ⟨⟨dX2_harvest_73, rfl⟩, rfl⟩, ⟨⟨dX2_harvest_74, rfl⟩, rfl⟩, ⟨⟨dX2_harvest_76, rfl⟩, rfl⟩, trivial⟩,
  ⟨⟨⟨dX2_harvest_77, rfl⟩, rfl⟩, ⟨⟨dX2_harvest_78, rfl⟩, rfl⟩, ⟨⟨dX2_harvest_79, rfl⟩, Or.inr ⟨by decide, ⟨_, my_23, sX2_25⟩, fun q => absurd q (by decide)⟩⟩, ⟨⟨dX2_harvest_82, rfl⟩, Or.inl ⟨rfl, rfl, _, rfl, ftX2_56⟩⟩, ⟨⟨dX2_harvest_85, rfl⟩, rfl⟩, ⟨⟨dX2_harvest_86, rfl⟩, trivial⟩, ⟨⟨dX2_harvest_87, rfl⟩, trivial⟩, ⟨⟨dX2_harvest_88, rfl⟩, Or.inr (Or.inr (Or.inr (Or.inr (Or.inr (Or.inl ⟨rfl, sX2_33⟩)))))⟩, ⟨⟨dX2_harvest_91, rfl⟩, Or.inr (Or.inr (Or.inr (Or.inr (Or.inl ⟨rfl, sX2_38⟩))))⟩, ⟨⟨dX2_harvest_94, rfl⟩, Or.inr ⟨by decide, ⟨_, my_25, sX2_52⟩, fun q => absurd q (by decide)⟩⟩, ⟨⟨dX2_harvest_97, rfl⟩, rfl⟩, trivial⟩, trivial⟩, by decide, Or.inl ⟨rfl, by decide, rfl⟩⟩
set_option maxRecDepth 100000 in
theorem g_X2_harvest_0 (S : sT) (call : cT) (n : Nat) (a0 : Nat) (x1 : Int32) (x2 : Int32) (h : pH) : bd S call dflT E_X2_harvest (n + 1) 0 [some (.ref a0), some (.int x1), some (.int x2), none, none, none] [] h = (rC h (.ref a0) 5 (cI (call 23 [.ref a0, .int 3, .int x1] h) (fun y2 h1 => rC h1 (.ref a0) 5 (cI (call 185 [.ref a0, .int x1, .int y2, .int x2] h1) (fun y4 h3 => rC h3 (.ref a0) 5 (cI (call 23 [.ref a0, .int 6, .int x1] h3) (fun y6 h5 => dv 4 (rC h5 (.ref a0) 5 (cU (call 25 [.ref a0, .int 9, .int x1, .int (y4 - (if y4 < (y6 / 4) then y4 else (y6 / 4)))] h5) (fun h7 => rC h7 (.ref a0) 5 (cU (call 25 [.ref a0, .int 12, .int x1, .int (if y4 < (y6 / 4) then y4 else (y6 / 4))] h7) (fun h8 => rC h8 (.ref a0) 5 (cU (call 25 [.ref a0, .int 13, .int x1, .int y2] h8) (fun h9 => (if y2 < 0 then some (.inl none, h9) else (if 5 < y2 then some (.inl none, h9) else h8f [.int 20, .int 0, .int x1, .int 2, .ref a0] (rC h9 (.ref a0) 5 (cI (call 23 [.ref a0, .int 2, .int x1] h9) (fun y11 h10 => aO (.retAddr 2) y2 (fun y12 => rC h10 (.ref a0) 5 (cU (call 25 [.ref a0, .int 2, .int x1, .int (if (0 : Int32) < (if (y11 + y12) < (20 : Int32) then (y11 + y12) else (20 : Int32)) then (if (y11 + y12) < (20 : Int32) then (y11 + y12) else (20 : Int32)) else (0 : Int32))] h10) (fun h13 => some (.inl none, h13))))))))))))))))))))))) := rfl
theorem dX2_beside_0 : decode cX2_beside 0 = .ok (.iload_n 0, 1) := by decide +kernel
theorem dX2_beside_1 : decode cX2_beside 1 = .ok (.bipush 8, 2) := by decide +kernel
theorem dX2_beside_3 : decode cX2_beside 3 = .ok (.irem, 1) := by decide +kernel
theorem dX2_beside_4 : decode cX2_beside 4 = .ok (.iload_n 1, 1) := by decide +kernel
theorem dX2_beside_5 : decode cX2_beside 5 = .ok (.iconst 2, 1) := by decide +kernel
theorem dX2_beside_6 : decode cX2_beside 6 = .ok (.if_icmp .ne 7, 3) := by decide +kernel
theorem dX2_beside_9 : decode cX2_beside 9 = .ok (.iconst 1, 1) := by decide +kernel
theorem dX2_beside_10 : decode cX2_beside 10 = .ok (.goto 4, 3) := by decide +kernel
theorem dX2_beside_13 : decode cX2_beside 13 = .ok (.iconst 0, 1) := by decide +kernel
theorem dX2_beside_14 : decode cX2_beside 14 = .ok (.iadd, 1) := by decide +kernel
theorem dX2_beside_15 : decode cX2_beside 15 = .ok (.iload_n 1, 1) := by decide +kernel
theorem dX2_beside_16 : decode cX2_beside 16 = .ok (.iconst 3, 1) := by decide +kernel
theorem dX2_beside_17 : decode cX2_beside 17 = .ok (.if_icmp .ne 7, 3) := by decide +kernel
theorem dX2_beside_20 : decode cX2_beside 20 = .ok (.iconst 1, 1) := by decide +kernel
theorem dX2_beside_21 : decode cX2_beside 21 = .ok (.goto 4, 3) := by decide +kernel
theorem dX2_beside_24 : decode cX2_beside 24 = .ok (.iconst 0, 1) := by decide +kernel
theorem dX2_beside_25 : decode cX2_beside 25 = .ok (.isub, 1) := by decide +kernel
theorem dX2_beside_26 : decode cX2_beside 26 = .ok (.istore_n 2, 1) := by decide +kernel
theorem dX2_beside_27 : decode cX2_beside 27 = .ok (.iload_n 0, 1) := by decide +kernel
theorem dX2_beside_28 : decode cX2_beside 28 = .ok (.iload_n 0, 1) := by decide +kernel
theorem dX2_beside_29 : decode cX2_beside 29 = .ok (.bipush 8, 2) := by decide +kernel
theorem dX2_beside_31 : decode cX2_beside 31 = .ok (.irem, 1) := by decide +kernel
theorem dX2_beside_32 : decode cX2_beside 32 = .ok (.isub, 1) := by decide +kernel
theorem dX2_beside_33 : decode cX2_beside 33 = .ok (.iload_n 2, 1) := by decide +kernel
theorem dX2_beside_34 : decode cX2_beside 34 = .ok (.iadd, 1) := by decide +kernel
theorem dX2_beside_35 : decode cX2_beside 35 = .ok (.iload_n 1, 1) := by decide +kernel
theorem dX2_beside_36 : decode cX2_beside 36 = .ok (.iconst 1, 1) := by decide +kernel
theorem dX2_beside_37 : decode cX2_beside 37 = .ok (.if_icmp .ne 8, 3) := by decide +kernel
theorem dX2_beside_40 : decode cX2_beside 40 = .ok (.bipush 8, 2) := by decide +kernel
theorem dX2_beside_42 : decode cX2_beside 42 = .ok (.goto 4, 3) := by decide +kernel
theorem dX2_beside_45 : decode cX2_beside 45 = .ok (.iconst 0, 1) := by decide +kernel
theorem dX2_beside_46 : decode cX2_beside 46 = .ok (.iadd, 1) := by decide +kernel
theorem dX2_beside_47 : decode cX2_beside 47 = .ok (.iload_n 1, 1) := by decide +kernel
theorem dX2_beside_48 : decode cX2_beside 48 = .ok (.ifCond .ne 8, 3) := by decide +kernel
theorem dX2_beside_51 : decode cX2_beside 51 = .ok (.bipush 8, 2) := by decide +kernel
theorem dX2_beside_53 : decode cX2_beside 53 = .ok (.goto 4, 3) := by decide +kernel
theorem dX2_beside_56 : decode cX2_beside 56 = .ok (.iconst 0, 1) := by decide +kernel
theorem dX2_beside_57 : decode cX2_beside 57 = .ok (.isub, 1) := by decide +kernel
theorem dX2_beside_58 : decode cX2_beside 58 = .ok (.istore_n 3, 1) := by decide +kernel
theorem dX2_beside_59 : decode cX2_beside 59 = .ok (.iload_n 2, 1) := by decide +kernel
theorem dX2_beside_60 : decode cX2_beside 60 = .ok (.ifCond .lt 19, 3) := by decide +kernel
theorem dX2_beside_63 : decode cX2_beside 63 = .ok (.iload_n 2, 1) := by decide +kernel
theorem dX2_beside_64 : decode cX2_beside 64 = .ok (.bipush 8, 2) := by decide +kernel
theorem dX2_beside_66 : decode cX2_beside 66 = .ok (.if_icmp .ge 13, 3) := by decide +kernel
theorem dX2_beside_69 : decode cX2_beside 69 = .ok (.iload_n 3, 1) := by decide +kernel
theorem dX2_beside_70 : decode cX2_beside 70 = .ok (.ifCond .lt 9, 3) := by decide +kernel
theorem dX2_beside_73 : decode cX2_beside 73 = .ok (.iload_n 3, 1) := by decide +kernel
theorem dX2_beside_74 : decode cX2_beside 74 = .ok (.bipush 48, 2) := by decide +kernel
theorem dX2_beside_76 : decode cX2_beside 76 = .ok (.if_icmp .lt 7, 3) := by decide +kernel
theorem dX2_beside_79 : decode cX2_beside 79 = .ok (.iconst (-1), 1) := by decide +kernel
theorem dX2_beside_80 : decode cX2_beside 80 = .ok (.goto 4, 3) := by decide +kernel
theorem dX2_beside_83 : decode cX2_beside 83 = .ok (.iload_n 3, 1) := by decide +kernel
theorem dX2_beside_84 : decode cX2_beside 84 = .ok (.ireturn, 1) := by decide +kernel
noncomputable def E_X2_beside : mE := (mX2_beside, [(33, [(0, (.iload_n 0, 1, false, false, 0, 0, 0, 0, 0, 0, [])), (1, (.bipush 8, 3, false, false, 0, 0, 0, 0, 8, 0, [])), (3, (.irem, 4, false, false, 0, 0, 0, 0, 0, 0, [])), (4, (.iload_n 1, 5, false, false, 1, 0, 0, 0, 0, 0, [])), (5, (.iconst 2, 6, false, false, 0, 0, 0, 0, 2, 0, [])), (6, (.if_icmp .ne 7, 9, false, false, 13, 0, 0, 0, 0, 0, [])), (9, (.iconst 1, 10, false, false, 0, 0, 0, 0, 1, 0, [])), (10, (.goto 4, 13, false, false, 14, 0, 0, 0, 0, 0, [])), (13, (.iconst 0, 14, false, false, 0, 0, 0, 0, 0, 0, [])), (14, (.iadd, 15, false, false, 0, 0, 0, 0, 0, 0, [])), (15, (.iload_n 1, 16, false, false, 1, 0, 0, 0, 0, 0, [])), (16, (.iconst 3, 17, false, false, 0, 0, 0, 0, 3, 0, [])), (17, (.if_icmp .ne 7, 20, false, false, 24, 0, 0, 0, 0, 0, [])), (20, (.iconst 1, 21, false, false, 0, 0, 0, 0, 1, 0, [])), (21, (.goto 4, 24, false, true, 25, 0, 0, 0, 0, 0, [])), (24, (.iconst 0, 25, true, false, 0, 0, 0, 0, 0, 0, [])), (25, (.isub, 26, false, false, 0, 0, 0, 0, 0, 0, [])), (26, (.istore_n 2, 27, false, false, 2, 0, 0, 0, 0, 0, [])), (27, (.iload_n 0, 28, false, false, 0, 0, 0, 0, 0, 0, [])), (28, (.iload_n 0, 29, false, false, 0, 0, 0, 0, 0, 0, [])), (29, (.bipush 8, 31, false, false, 0, 0, 0, 0, 8, 0, [])), (31, (.irem, 32, false, false, 0, 0, 0, 0, 0, 0, [])), (32, (.isub, 33, false, false, 0, 0, 0, 0, 0, 0, [])), (33, (.iload_n 2, 34, false, false, 2, 0, 0, 0, 0, 0, []))]),
  (74, [(34, (.iadd, 35, false, false, 0, 0, 0, 0, 0, 0, [])), (35, (.iload_n 1, 36, false, false, 1, 0, 0, 0, 0, 0, [])), (36, (.iconst 1, 37, false, false, 0, 0, 0, 0, 1, 0, [])), (37, (.if_icmp .ne 8, 40, false, false, 45, 0, 0, 0, 0, 0, [])), (40, (.bipush 8, 42, false, false, 0, 0, 0, 0, 8, 0, [])), (42, (.goto 4, 45, false, false, 46, 0, 0, 0, 0, 0, [])), (45, (.iconst 0, 46, false, false, 0, 0, 0, 0, 0, 0, [])), (46, (.iadd, 47, false, false, 0, 0, 0, 0, 0, 0, [])), (47, (.iload_n 1, 48, false, false, 1, 0, 0, 0, 0, 0, [])), (48, (.ifCond .ne 8, 51, false, false, 56, 0, 0, 0, 0, 0, [])), (51, (.bipush 8, 53, false, false, 0, 0, 0, 0, 8, 0, [])), (53, (.goto 4, 56, false, true, 57, 0, 0, 0, 0, 0, [])), (56, (.iconst 0, 57, true, false, 0, 0, 0, 0, 0, 0, [])), (57, (.isub, 58, false, false, 0, 0, 0, 0, 0, 0, [])), (58, (.istore_n 3, 59, false, false, 3, 0, 0, 0, 0, 0, [])), (59, (.iload_n 2, 60, false, false, 2, 0, 0, 0, 0, 0, [])), (60, (.ifCond .lt 19, 63, false, false, 79, 0, 0, 0, 0, 0, [])), (63, (.iload_n 2, 64, false, false, 2, 0, 0, 0, 0, 0, [])), (64, (.bipush 8, 66, false, false, 0, 0, 0, 0, 8, 0, [])), (66, (.if_icmp .ge 13, 69, false, false, 79, 0, 0, 0, 0, 0, [])), (69, (.iload_n 3, 70, false, false, 3, 0, 0, 0, 0, 0, [])), (70, (.ifCond .lt 9, 73, false, false, 79, 0, 0, 0, 0, 0, [])), (73, (.iload_n 3, 74, false, false, 3, 0, 0, 0, 0, 0, [])), (74, (.bipush 48, 76, false, false, 0, 0, 0, 0, 48, 0, []))]),
  (84, [(76, (.if_icmp .lt 7, 79, false, false, 83, 0, 0, 0, 0, 0, [])), (79, (.iconst (-1), 80, false, false, 0, 0, 0, 0, -1, 0, [])), (80, (.goto 4, 83, false, false, 84, 0, 0, 0, 0, 0, [])), (83, (.iload_n 3, 84, false, false, 3, 0, 0, 0, 0, 0, [])), (84, (.ireturn, 85, false, false, 0, 0, 0, 0, 0, 0, []))])], 0, [])
set_option maxRecDepth 100000 in
theorem v_X2_beside : VE MYT dflT E_X2_beside := ⟨⟨⟨⟨⟨dX2_beside_0, rfl⟩, rfl⟩, ⟨⟨dX2_beside_1, rfl⟩, rfl⟩, ⟨⟨dX2_beside_3, rfl⟩, trivial⟩, ⟨⟨dX2_beside_4, rfl⟩, rfl⟩, ⟨⟨dX2_beside_5, rfl⟩, rfl⟩, ⟨⟨dX2_beside_6, rfl⟩, rfl⟩, ⟨⟨dX2_beside_9, rfl⟩, rfl⟩, ⟨⟨dX2_beside_10, rfl⟩, rfl⟩, ⟨⟨dX2_beside_13, rfl⟩, rfl⟩, ⟨⟨dX2_beside_14, rfl⟩, trivial⟩, ⟨⟨dX2_beside_15, rfl⟩, rfl⟩, ⟨⟨dX2_beside_16, rfl⟩, rfl⟩, ⟨⟨dX2_beside_17, rfl⟩, rfl⟩, ⟨⟨dX2_beside_20, rfl⟩, rfl⟩, ⟨⟨dX2_beside_21, rfl⟩, rfl⟩, ⟨⟨dX2_beside_24, rfl⟩, rfl⟩, ⟨⟨dX2_beside_25, rfl⟩, trivial⟩, ⟨⟨dX2_beside_26, rfl⟩, rfl⟩, ⟨⟨dX2_beside_27, rfl⟩, rfl⟩, ⟨⟨dX2_beside_28, rfl⟩, rfl⟩, ⟨⟨dX2_beside_29, rfl⟩, rfl⟩, ⟨⟨dX2_beside_31, rfl⟩, trivial⟩, ⟨⟨dX2_beside_32, rfl⟩, trivial⟩, ⟨⟨dX2_beside_33, rfl⟩, rfl⟩, trivial⟩,
  ⟨⟨⟨dX2_beside_34, rfl⟩, trivial⟩, ⟨⟨dX2_beside_35, rfl⟩, rfl⟩, ⟨⟨dX2_beside_36, rfl⟩, rfl⟩, ⟨⟨dX2_beside_37, rfl⟩, rfl⟩, ⟨⟨dX2_beside_40, rfl⟩, rfl⟩, ⟨⟨dX2_beside_42, rfl⟩, rfl⟩, ⟨⟨dX2_beside_45, rfl⟩, rfl⟩, ⟨⟨dX2_beside_46, rfl⟩, trivial⟩, ⟨⟨dX2_beside_47, rfl⟩, rfl⟩, ⟨⟨dX2_beside_48, rfl⟩, rfl⟩, ⟨⟨dX2_beside_51, rfl⟩, rfl⟩, ⟨⟨dX2_beside_53, rfl⟩, rfl⟩, ⟨⟨dX2_beside_56, rfl⟩, rfl⟩, ⟨⟨dX2_beside_57, rfl⟩, trivial⟩, ⟨⟨dX2_beside_58, rfl⟩, rfl⟩, ⟨⟨dX2_beside_59, rfl⟩, rfl⟩, ⟨⟨dX2_beside_60, rfl⟩, rfl⟩, ⟨⟨dX2_beside_63, rfl⟩, rfl⟩, ⟨⟨dX2_beside_64, rfl⟩, rfl⟩, ⟨⟨dX2_beside_66, rfl⟩, rfl⟩, ⟨⟨dX2_beside_69, rfl⟩, rfl⟩, ⟨⟨dX2_beside_70, rfl⟩, rfl⟩, ⟨⟨dX2_beside_73, rfl⟩, rfl⟩, ⟨⟨dX2_beside_74, rfl⟩, rfl⟩, trivial⟩,
  ⟨⟨⟨dX2_beside_76, rfl⟩, rfl⟩, ⟨⟨dX2_beside_79, rfl⟩, rfl⟩, ⟨⟨dX2_beside_80, rfl⟩, rfl⟩, ⟨⟨dX2_beside_83, rfl⟩, rfl⟩, ⟨⟨dX2_beside_84, rfl⟩, Or.inl ⟨rfl, rfl⟩⟩, trivial⟩, trivial⟩, by decide, Or.inl ⟨rfl, by decide, rfl⟩⟩
set_option maxRecDepth 100000 in
theorem g_X2_beside_0 (S : sT) (call : cT) (n : Nat) (x0 : Int32) (x1 : Int32) (h : pH) : bd S call dflT E_X2_beside (n + 1) 0 [some (.int x0), some (.int x1), none, none] [] h = (dv 8 ((if x1 = 2 then (if x1 = 3 then bd S call dflT E_X2_beside n 25 [some (.int x0), some (.int x1), none, none] [.int 1, .int ((x0 - x0 / 8 * 8) + 1)] h else bd S call dflT E_X2_beside n 25 [some (.int x0), some (.int x1), none, none] [.int 0, .int ((x0 - x0 / 8 * 8) + 1)] h) else (if x1 = 3 then bd S call dflT E_X2_beside n 25 [some (.int x0), some (.int x1), none, none] [.int 1, .int ((x0 - x0 / 8 * 8) + 0)] h else bd S call dflT E_X2_beside n 25 [some (.int x0), some (.int x1), none, none] [.int 0, .int ((x0 - x0 / 8 * 8) + 0)] h)))) := rfl
set_option maxRecDepth 100000 in
theorem g_X2_beside_25 (S : sT) (call : cT) (n : Nat) (x0 : Int32) (x1 : Int32) (o2 : Option Value) (o3 : Option Value) (y0 : Int32) (y1 : Int32) (h : pH) : bd S call dflT E_X2_beside (n + 1) 25 [some (.int x0), some (.int x1), o2, o3] [.int y1, .int y0] h = (dv 8 ((if x1 = 1 then (if x1 = 0 then bd S call dflT E_X2_beside n 57 [some (.int x0), some (.int x1), some (.int (y0 - y1)), o3] [.int 8, .int (((x0 - (x0 - x0 / 8 * 8)) + (y0 - y1)) + 8)] h else bd S call dflT E_X2_beside n 57 [some (.int x0), some (.int x1), some (.int (y0 - y1)), o3] [.int 0, .int (((x0 - (x0 - x0 / 8 * 8)) + (y0 - y1)) + 8)] h) else (if x1 = 0 then bd S call dflT E_X2_beside n 57 [some (.int x0), some (.int x1), some (.int (y0 - y1)), o3] [.int 8, .int (((x0 - (x0 - x0 / 8 * 8)) + (y0 - y1)) + 0)] h else bd S call dflT E_X2_beside n 57 [some (.int x0), some (.int x1), some (.int (y0 - y1)), o3] [.int 0, .int (((x0 - (x0 - x0 / 8 * 8)) + (y0 - y1)) + 0)] h)))) := rfl
set_option maxRecDepth 100000 in
theorem g_X2_beside_57 (S : sT) (call : cT) (n : Nat) (x0 : Int32) (x1 : Int32) (x2 : Int32) (o3 : Option Value) (y0 : Int32) (y1 : Int32) (h : pH) : bd S call dflT E_X2_beside (n + 1) 57 [some (.int x0), some (.int x1), some (.int x2), o3] [.int y1, .int y0] h = ((if x2 < 0 then some (.inl (some (.int (-1))), h) else (if 8 ≤ x2 then some (.inl (some (.int (-1))), h) else (if (y0 - y1) < 0 then some (.inl (some (.int (-1))), h) else (if (y0 - y1) < 48 then some (.inl (some (.int (y0 - y1))), h) else some (.inl (some (.int (-1))), h)))))) := rfl
theorem dX2_timberOf_0 : decode cX2_timberOf 0 = .ok (.aload_n 0, 1) := by decide +kernel
theorem dX2_timberOf_1 : decode cX2_timberOf 1 = .ok (.bipush 7, 2) := by decide +kernel
theorem dX2_timberOf_3 : decode cX2_timberOf 3 = .ok (.iload_n 1, 1) := by decide +kernel
theorem dX2_timberOf_4 : decode cX2_timberOf 4 = .ok (.invokevirtual 25, 3) := by decide +kernel
theorem dX2_timberOf_7 : decode cX2_timberOf 7 = .ok (.aload_n 0, 1) := by decide +kernel
theorem dX2_timberOf_8 : decode cX2_timberOf 8 = .ok (.bipush 7, 2) := by decide +kernel
theorem dX2_timberOf_10 : decode cX2_timberOf 10 = .ok (.iload_n 1, 1) := by decide +kernel
theorem dX2_timberOf_11 : decode cX2_timberOf 11 = .ok (.invokevirtual 25, 3) := by decide +kernel
theorem dX2_timberOf_14 : decode cX2_timberOf 14 = .ok (.imul, 1) := by decide +kernel
theorem dX2_timberOf_15 : decode cX2_timberOf 15 = .ok (.ireturn, 1) := by decide +kernel
noncomputable def E_X2_timberOf : mE := (mX2_timberOf, [(15, [(0, (.aload_n 0, 1, false, false, 0, 0, 0, 0, 0, 0, [])), (1, (.bipush 7, 3, false, false, 0, 0, 0, 0, 7, 0, [])), (3, (.iload_n 1, 4, false, false, 1, 0, 0, 0, 0, 0, [])), (4, (.invokevirtual 25, 7, false, false, 23, 2, 1, 5, 0, 0, [])), (7, (.aload_n 0, 8, false, false, 0, 0, 0, 0, 0, 0, [])), (8, (.bipush 7, 10, false, false, 0, 0, 0, 0, 7, 0, [])), (10, (.iload_n 1, 11, false, false, 1, 0, 0, 0, 0, 0, [])), (11, (.invokevirtual 25, 14, false, false, 23, 2, 1, 5, 0, 0, [])), (14, (.imul, 15, false, false, 0, 0, 0, 0, 0, 0, [])), (15, (.ireturn, 16, false, false, 0, 0, 0, 0, 0, 0, []))])], 0, [])
set_option maxRecDepth 100000 in
theorem v_X2_timberOf : VE MYT dflT E_X2_timberOf := ⟨⟨⟨⟨⟨dX2_timberOf_0, rfl⟩, rfl⟩, ⟨⟨dX2_timberOf_1, rfl⟩, rfl⟩, ⟨⟨dX2_timberOf_3, rfl⟩, rfl⟩, ⟨⟨dX2_timberOf_4, rfl⟩, Or.inr ⟨by decide, ⟨_, my_23, sX2_25⟩, fun q => absurd q (by decide)⟩⟩, ⟨⟨dX2_timberOf_7, rfl⟩, rfl⟩, ⟨⟨dX2_timberOf_8, rfl⟩, rfl⟩, ⟨⟨dX2_timberOf_10, rfl⟩, rfl⟩, ⟨⟨dX2_timberOf_11, rfl⟩, Or.inr ⟨by decide, ⟨_, my_23, sX2_25⟩, fun q => absurd q (by decide)⟩⟩, ⟨⟨dX2_timberOf_14, rfl⟩, trivial⟩, ⟨⟨dX2_timberOf_15, rfl⟩, Or.inl ⟨rfl, rfl⟩⟩, trivial⟩, trivial⟩, by decide, Or.inl ⟨rfl, by decide, rfl⟩⟩
set_option maxRecDepth 100000 in
theorem g_X2_timberOf_0 (S : sT) (call : cT) (n : Nat) (a0 : Nat) (x1 : Int32) (h : pH) : bd S call dflT E_X2_timberOf (n + 1) 0 [some (.ref a0), some (.int x1)] [] h = (rC h (.ref a0) 5 (cI (call 23 [.ref a0, .int 7, .int x1] h) (fun y2 h1 => rC h1 (.ref a0) 5 (cI (call 23 [.ref a0, .int 7, .int x1] h1) (fun y4 h3 => some (.inl (some (.int (y2 * y4))), h3)))))) := rfl
theorem dX2_worthOf_0 : decode cX2_worthOf 0 = .ok (.aload_n 0, 1) := by decide +kernel
theorem dX2_worthOf_1 : decode cX2_worthOf 1 = .ok (.iconst 4, 1) := by decide +kernel
theorem dX2_worthOf_2 : decode cX2_worthOf 2 = .ok (.iload_n 1, 1) := by decide +kernel
theorem dX2_worthOf_3 : decode cX2_worthOf 3 = .ok (.invokevirtual 25, 3) := by decide +kernel
theorem dX2_worthOf_6 : decode cX2_worthOf 6 = .ok (.ifCond .le 7, 3) := by decide +kernel
theorem dX2_worthOf_9 : decode cX2_worthOf 9 = .ok (.iconst 0, 1) := by decide +kernel
theorem dX2_worthOf_10 : decode cX2_worthOf 10 = .ok (.goto 9, 3) := by decide +kernel
theorem dX2_worthOf_13 : decode cX2_worthOf 13 = .ok (.aload_n 0, 1) := by decide +kernel
theorem dX2_worthOf_14 : decode cX2_worthOf 14 = .ok (.iconst 1, 1) := by decide +kernel
theorem dX2_worthOf_15 : decode cX2_worthOf 15 = .ok (.iload_n 1, 1) := by decide +kernel
theorem dX2_worthOf_16 : decode cX2_worthOf 16 = .ok (.invokevirtual 25, 3) := by decide +kernel
theorem dX2_worthOf_19 : decode cX2_worthOf 19 = .ok (.istore_n 2, 1) := by decide +kernel
theorem dX2_worthOf_20 : decode cX2_worthOf 20 = .ok (.bipush 100, 2) := by decide +kernel
theorem dX2_worthOf_22 : decode cX2_worthOf 22 = .ok (.bipush 20, 2) := by decide +kernel
theorem dX2_worthOf_24 : decode cX2_worthOf 24 = .ok (.aload_n 0, 1) := by decide +kernel
theorem dX2_worthOf_25 : decode cX2_worthOf 25 = .ok (.iconst 0, 1) := by decide +kernel
theorem dX2_worthOf_26 : decode cX2_worthOf 26 = .ok (.iload_n 1, 1) := by decide +kernel
theorem dX2_worthOf_27 : decode cX2_worthOf 27 = .ok (.invokevirtual 25, 3) := by decide +kernel
theorem dX2_worthOf_30 : decode cX2_worthOf 30 = .ok (.imul, 1) := by decide +kernel
theorem dX2_worthOf_31 : decode cX2_worthOf 31 = .ok (.iadd, 1) := by decide +kernel
theorem dX2_worthOf_32 : decode cX2_worthOf 32 = .ok (.iconst 5, 1) := by decide +kernel
theorem dX2_worthOf_33 : decode cX2_worthOf 33 = .ok (.aload_n 0, 1) := by decide +kernel
theorem dX2_worthOf_34 : decode cX2_worthOf 34 = .ok (.iconst 2, 1) := by decide +kernel
theorem dX2_worthOf_35 : decode cX2_worthOf 35 = .ok (.iload_n 1, 1) := by decide +kernel
theorem dX2_worthOf_36 : decode cX2_worthOf 36 = .ok (.invokevirtual 25, 3) := by decide +kernel
theorem dX2_worthOf_39 : decode cX2_worthOf 39 = .ok (.imul, 1) := by decide +kernel
theorem dX2_worthOf_40 : decode cX2_worthOf 40 = .ok (.isub, 1) := by decide +kernel
theorem dX2_worthOf_41 : decode cX2_worthOf 41 = .ok (.bipush 10, 2) := by decide +kernel
theorem dX2_worthOf_43 : decode cX2_worthOf 43 = .ok (.iload_n 2, 1) := by decide +kernel
theorem dX2_worthOf_44 : decode cX2_worthOf 44 = .ok (.imul, 1) := by decide +kernel
theorem dX2_worthOf_45 : decode cX2_worthOf 45 = .ok (.isub, 1) := by decide +kernel
theorem dX2_worthOf_46 : decode cX2_worthOf 46 = .ok (.bipush 30, 2) := by decide +kernel
theorem dX2_worthOf_48 : decode cX2_worthOf 48 = .ok (.aload_n 0, 1) := by decide +kernel
theorem dX2_worthOf_49 : decode cX2_worthOf 49 = .ok (.bipush 8, 2) := by decide +kernel
theorem dX2_worthOf_51 : decode cX2_worthOf 51 = .ok (.iload_n 1, 1) := by decide +kernel
theorem dX2_worthOf_52 : decode cX2_worthOf 52 = .ok (.invokevirtual 25, 3) := by decide +kernel
theorem dX2_worthOf_55 : decode cX2_worthOf 55 = .ok (.imul, 1) := by decide +kernel
theorem dX2_worthOf_56 : decode cX2_worthOf 56 = .ok (.isub, 1) := by decide +kernel
theorem dX2_worthOf_57 : decode cX2_worthOf 57 = .ok (.istore_n 3, 1) := by decide +kernel
theorem dX2_worthOf_58 : decode cX2_worthOf 58 = .ok (.bipush 10, 2) := by decide +kernel
theorem dX2_worthOf_60 : decode cX2_worthOf 60 = .ok (.iload_n 3, 1) := by decide +kernel
theorem dX2_worthOf_61 : decode cX2_worthOf 61 = .ok (.invokestatic 38, 3) := by decide +kernel
theorem dX2_worthOf_64 : decode cX2_worthOf 64 = .ok (.aload_n 0, 1) := by decide +kernel
theorem dX2_worthOf_65 : decode cX2_worthOf 65 = .ok (.iload_n 1, 1) := by decide +kernel
theorem dX2_worthOf_66 : decode cX2_worthOf 66 = .ok (.invokevirtual 41, 3) := by decide +kernel
theorem dX2_worthOf_69 : decode cX2_worthOf 69 = .ok (.iadd, 1) := by decide +kernel
theorem dX2_worthOf_70 : decode cX2_worthOf 70 = .ok (.ireturn, 1) := by decide +kernel
noncomputable def E_X2_worthOf : mE := (mX2_worthOf, [(35, [(0, (.aload_n 0, 1, false, false, 0, 0, 0, 0, 0, 0, [])), (1, (.iconst 4, 2, false, false, 0, 0, 0, 0, 4, 0, [])), (2, (.iload_n 1, 3, false, false, 1, 0, 0, 0, 0, 0, [])), (3, (.invokevirtual 25, 6, false, false, 23, 2, 1, 5, 0, 0, [])), (6, (.ifCond .le 7, 9, false, false, 13, 0, 0, 0, 0, 0, [])), (9, (.iconst 0, 10, false, false, 0, 0, 0, 0, 0, 0, [])), (10, (.goto 9, 13, false, true, 19, 0, 0, 0, 0, 0, [])), (13, (.aload_n 0, 14, false, false, 0, 0, 0, 0, 0, 0, [])), (14, (.iconst 1, 15, false, false, 0, 0, 0, 0, 1, 0, [])), (15, (.iload_n 1, 16, false, false, 1, 0, 0, 0, 0, 0, [])), (16, (.invokevirtual 25, 19, true, false, 23, 2, 1, 5, 0, 0, [])), (19, (.istore_n 2, 20, false, false, 2, 0, 0, 0, 0, 0, [])), (20, (.bipush 100, 22, false, false, 0, 0, 0, 0, 100, 0, [])), (22, (.bipush 20, 24, false, false, 0, 0, 0, 0, 20, 0, [])), (24, (.aload_n 0, 25, false, false, 0, 0, 0, 0, 0, 0, [])), (25, (.iconst 0, 26, false, false, 0, 0, 0, 0, 0, 0, [])), (26, (.iload_n 1, 27, false, false, 1, 0, 0, 0, 0, 0, [])), (27, (.invokevirtual 25, 30, false, false, 23, 2, 1, 5, 0, 0, [])), (30, (.imul, 31, false, false, 0, 0, 0, 0, 0, 0, [])), (31, (.iadd, 32, false, false, 0, 0, 0, 0, 0, 0, [])), (32, (.iconst 5, 33, false, false, 0, 0, 0, 0, 5, 0, [])), (33, (.aload_n 0, 34, false, false, 0, 0, 0, 0, 0, 0, [])), (34, (.iconst 2, 35, false, false, 0, 0, 0, 0, 2, 0, [])), (35, (.iload_n 1, 36, false, false, 1, 0, 0, 0, 0, 0, []))]),
  (70, [(36, (.invokevirtual 25, 39, false, false, 23, 2, 1, 5, 0, 0, [])), (39, (.imul, 40, false, false, 0, 0, 0, 0, 0, 0, [])), (40, (.isub, 41, false, false, 0, 0, 0, 0, 0, 0, [])), (41, (.bipush 10, 43, false, false, 0, 0, 0, 0, 10, 0, [])), (43, (.iload_n 2, 44, false, false, 2, 0, 0, 0, 0, 0, [])), (44, (.imul, 45, false, false, 0, 0, 0, 0, 0, 0, [])), (45, (.isub, 46, false, false, 0, 0, 0, 0, 0, 0, [])), (46, (.bipush 30, 48, false, false, 0, 0, 0, 0, 30, 0, [])), (48, (.aload_n 0, 49, false, false, 0, 0, 0, 0, 0, 0, [])), (49, (.bipush 8, 51, false, false, 0, 0, 0, 0, 8, 0, [])), (51, (.iload_n 1, 52, false, false, 1, 0, 0, 0, 0, 0, [])), (52, (.invokevirtual 25, 55, false, false, 23, 2, 1, 5, 0, 0, [])), (55, (.imul, 56, false, false, 0, 0, 0, 0, 0, 0, [])), (56, (.isub, 57, false, false, 0, 0, 0, 0, 0, 0, [])), (57, (.istore_n 3, 58, false, false, 3, 0, 0, 0, 0, 0, [])), (58, (.bipush 10, 60, false, false, 0, 0, 0, 0, 10, 0, [])), (60, (.iload_n 3, 61, false, false, 3, 0, 0, 0, 0, 0, [])), (61, (.invokestatic 38, 64, false, false, 0, 2, 1, 5, 0, 0, [])), (64, (.aload_n 0, 65, false, false, 0, 0, 0, 0, 0, 0, [])), (65, (.iload_n 1, 66, false, false, 1, 0, 0, 0, 0, 0, [])), (66, (.invokevirtual 41, 69, false, false, 258, 1, 1, 5, 0, 0, [])), (69, (.iadd, 70, false, false, 0, 0, 0, 0, 0, 0, [])), (70, (.ireturn, 71, false, false, 0, 0, 0, 0, 0, 0, []))])], 0, [])
set_option maxRecDepth 100000 in
theorem v_X2_worthOf : VE MYT dflT E_X2_worthOf := ⟨⟨⟨⟨⟨dX2_worthOf_0, rfl⟩, rfl⟩, ⟨⟨dX2_worthOf_1, rfl⟩, rfl⟩, ⟨⟨dX2_worthOf_2, rfl⟩, rfl⟩, ⟨⟨dX2_worthOf_3, rfl⟩, Or.inr ⟨by decide, ⟨_, my_23, sX2_25⟩, fun q => absurd q (by decide)⟩⟩, ⟨⟨dX2_worthOf_6, rfl⟩, rfl⟩, ⟨⟨dX2_worthOf_9, rfl⟩, rfl⟩, ⟨⟨dX2_worthOf_10, rfl⟩, rfl⟩, ⟨⟨dX2_worthOf_13, rfl⟩, rfl⟩, ⟨⟨dX2_worthOf_14, rfl⟩, rfl⟩, ⟨⟨dX2_worthOf_15, rfl⟩, rfl⟩, ⟨⟨dX2_worthOf_16, rfl⟩, Or.inr ⟨by decide, ⟨_, my_23, sX2_25⟩, fun q => absurd q (by decide)⟩⟩, ⟨⟨dX2_worthOf_19, rfl⟩, rfl⟩, ⟨⟨dX2_worthOf_20, rfl⟩, rfl⟩, ⟨⟨dX2_worthOf_22, rfl⟩, rfl⟩, ⟨⟨dX2_worthOf_24, rfl⟩, rfl⟩, ⟨⟨dX2_worthOf_25, rfl⟩, rfl⟩, ⟨⟨dX2_worthOf_26, rfl⟩, rfl⟩, ⟨⟨dX2_worthOf_27, rfl⟩, Or.inr ⟨by decide, ⟨_, my_23, sX2_25⟩, fun q => absurd q (by decide)⟩⟩, ⟨⟨dX2_worthOf_30, rfl⟩, trivial⟩, ⟨⟨dX2_worthOf_31, rfl⟩, trivial⟩, ⟨⟨dX2_worthOf_32, rfl⟩, rfl⟩, ⟨⟨dX2_worthOf_33, rfl⟩, rfl⟩, ⟨⟨dX2_worthOf_34, rfl⟩, rfl⟩, ⟨⟨dX2_worthOf_35, rfl⟩, rfl⟩, trivial⟩,
  ⟨⟨⟨dX2_worthOf_36, rfl⟩, Or.inr ⟨by decide, ⟨_, my_23, sX2_25⟩, fun q => absurd q (by decide)⟩⟩, ⟨⟨dX2_worthOf_39, rfl⟩, trivial⟩, ⟨⟨dX2_worthOf_40, rfl⟩, trivial⟩, ⟨⟨dX2_worthOf_41, rfl⟩, rfl⟩, ⟨⟨dX2_worthOf_43, rfl⟩, rfl⟩, ⟨⟨dX2_worthOf_44, rfl⟩, trivial⟩, ⟨⟨dX2_worthOf_45, rfl⟩, trivial⟩, ⟨⟨dX2_worthOf_46, rfl⟩, rfl⟩, ⟨⟨dX2_worthOf_48, rfl⟩, rfl⟩, ⟨⟨dX2_worthOf_49, rfl⟩, rfl⟩, ⟨⟨dX2_worthOf_51, rfl⟩, rfl⟩, ⟨⟨dX2_worthOf_52, rfl⟩, Or.inr ⟨by decide, ⟨_, my_23, sX2_25⟩, fun q => absurd q (by decide)⟩⟩, ⟨⟨dX2_worthOf_55, rfl⟩, trivial⟩, ⟨⟨dX2_worthOf_56, rfl⟩, trivial⟩, ⟨⟨dX2_worthOf_57, rfl⟩, rfl⟩, ⟨⟨dX2_worthOf_58, rfl⟩, rfl⟩, ⟨⟨dX2_worthOf_60, rfl⟩, rfl⟩, ⟨⟨dX2_worthOf_61, rfl⟩, Or.inr (Or.inr (Or.inr (Or.inr (Or.inl ⟨rfl, sX2_38⟩))))⟩, ⟨⟨dX2_worthOf_64, rfl⟩, rfl⟩, ⟨⟨dX2_worthOf_65, rfl⟩, rfl⟩, ⟨⟨dX2_worthOf_66, rfl⟩, Or.inr ⟨by decide, ⟨_, my_258, sX2_41⟩, fun q => absurd q (by decide)⟩⟩, ⟨⟨dX2_worthOf_69, rfl⟩, trivial⟩, ⟨⟨dX2_worthOf_70, rfl⟩, Or.inl ⟨rfl, rfl⟩⟩, trivial⟩, trivial⟩, by decide, Or.inl ⟨rfl, by decide, rfl⟩⟩
set_option maxRecDepth 100000 in
theorem g_X2_worthOf_0 (S : sT) (call : cT) (n : Nat) (a0 : Nat) (x1 : Int32) (h : pH) : bd S call dflT E_X2_worthOf (n + 1) 0 [some (.ref a0), some (.int x1), none, none] [] h = (rC h (.ref a0) 5 (cI (call 23 [.ref a0, .int 4, .int x1] h) (fun y2 h1 => (if y2 ≤ 0 then rC h1 (.ref a0) 5 (cI (call 23 [.ref a0, .int 1, .int x1] h1) (fun y4 h3 => bd S call dflT E_X2_worthOf n 19 [some (.ref a0), some (.int x1), none, none] [.int y4] h3)) else bd S call dflT E_X2_worthOf n 19 [some (.ref a0), some (.int x1), none, none] [.int 0] h1)))) := rfl
set_option maxRecDepth 100000 in
theorem g_X2_worthOf_19 (S : sT) (call : cT) (n : Nat) (a0 : Nat) (x1 : Int32) (o2 : Option Value) (o3 : Option Value) (y0 : Int32) (h : pH) : bd S call dflT E_X2_worthOf (n + 1) 19 [some (.ref a0), some (.int x1), o2, o3] [.int y0] h = (rC h (.ref a0) 5 (cI (call 23 [.ref a0, .int 0, .int x1] h) (fun y2 h1 => rC h1 (.ref a0) 5 (cI (call 23 [.ref a0, .int 2, .int x1] h1) (fun y4 h3 => rC h3 (.ref a0) 5 (cI (call 23 [.ref a0, .int 8, .int x1] h3) (fun y6 h5 => rC h5 (.ref a0) 5 (cI (call 258 [.ref a0, .int x1] h5) (fun y8 h7 => some (.inl (some (.int ((if (10 : Int32) < ((((100 + (20 * y2)) - (5 * y4)) - (10 * y0)) - (30 * y6)) then ((((100 + (20 * y2)) - (5 * y4)) - (10 * y0)) - (30 * y6)) else (10 : Int32)) + y8))), h7)))))))))) := rfl
theorem dX2_copyFrom_0 : decode cX2_copyFrom 0 = .ok (.aload_n 1, 1) := by decide +kernel
theorem dX2_copyFrom_1 : decode cX2_copyFrom 1 = .ok (.getfield 11, 3) := by decide +kernel
theorem dX2_copyFrom_4 : decode cX2_copyFrom 4 = .ok (.iconst 0, 1) := by decide +kernel
theorem dX2_copyFrom_5 : decode cX2_copyFrom 5 = .ok (.aload_n 0, 1) := by decide +kernel
theorem dX2_copyFrom_6 : decode cX2_copyFrom 6 = .ok (.getfield 11, 3) := by decide +kernel
theorem dX2_copyFrom_9 : decode cX2_copyFrom 9 = .ok (.iconst 0, 1) := by decide +kernel
theorem dX2_copyFrom_10 : decode cX2_copyFrom 10 = .ok (.sipush 672, 3) := by decide +kernel
theorem dX2_copyFrom_13 : decode cX2_copyFrom 13 = .ok (.invokestatic 15, 3) := by decide +kernel
theorem dX2_copyFrom_16 : decode cX2_copyFrom 16 = .ok (.return_, 1) := by decide +kernel
noncomputable def E_X2_copyFrom : mE := (mX2_copyFrom, [(16, [(0, (.aload_n 1, 1, false, false, 1, 0, 0, 0, 0, 0, [])), (1, (.getfield 11, 4, false, false, 5, 0, 1, 0, 0, 0, [])), (4, (.iconst 0, 5, false, false, 0, 0, 0, 0, 0, 0, [])), (5, (.aload_n 0, 6, false, false, 0, 0, 0, 0, 0, 0, [])), (6, (.getfield 11, 9, false, false, 5, 0, 1, 0, 0, 0, [])), (9, (.iconst 0, 10, false, false, 0, 0, 0, 0, 0, 0, [])), (10, (.sipush 672, 13, false, false, 0, 0, 0, 0, 672, 0, [])), (13, (.invokestatic 15, 16, false, false, 0, 5, 0, 2, 0, 0, [])), (16, (.return_, 17, false, false, 0, 0, 0, 0, 0, 0, []))])], 0, [])
set_option maxRecDepth 100000 in
theorem v_X2_copyFrom : VE MYT dflT E_X2_copyFrom := ⟨⟨⟨⟨⟨dX2_copyFrom_0, rfl⟩, rfl⟩, ⟨⟨dX2_copyFrom_1, rfl⟩, Or.inl ⟨by decide, _, _, fX2_11⟩⟩, ⟨⟨dX2_copyFrom_4, rfl⟩, rfl⟩, ⟨⟨dX2_copyFrom_5, rfl⟩, rfl⟩, ⟨⟨dX2_copyFrom_6, rfl⟩, Or.inl ⟨by decide, _, _, fX2_11⟩⟩, ⟨⟨dX2_copyFrom_9, rfl⟩, rfl⟩, ⟨⟨dX2_copyFrom_10, rfl⟩, rfl⟩, ⟨⟨dX2_copyFrom_13, rfl⟩, Or.inr (Or.inr (Or.inl ⟨rfl, acX2_15, ac_1, ac_2, ac_3⟩))⟩, ⟨⟨dX2_copyFrom_16, rfl⟩, rfl⟩, trivial⟩, trivial⟩, by decide, Or.inl ⟨rfl, by decide, rfl⟩⟩
set_option maxRecDepth 100000 in
theorem g_X2_copyFrom_0 (S : sT) (call : cT) (n : Nat) (a0 : Nat) (v1 : Value) (h : pH) : bd S call dflT E_X2_copyFrom (n + 1) 0 [some (.ref a0), some (v1)] [] h = (iA v1 (gV h v1 5 0 (fun w1 => gV h (.ref a0) 5 0 (fun w2 => cpI h w1 0 w2 0 672 (fun h3 => some (.inl none, h3)))))) := rfl
theorem dX2_soldFields_0 : decode cX2_soldFields 0 = .ok (.iconst 0, 1) := by decide +kernel
theorem dX2_soldFields_1 : decode cX2_soldFields 1 = .ok (.istore_n 1, 1) := by decide +kernel
theorem dX2_soldFields_2 : decode cX2_soldFields 2 = .ok (.iconst 0, 1) := by decide +kernel
theorem dX2_soldFields_3 : decode cX2_soldFields 3 = .ok (.istore_n 2, 1) := by decide +kernel
theorem dX2_soldFields_4 : decode cX2_soldFields 4 = .ok (.iload_n 2, 1) := by decide +kernel
theorem dX2_soldFields_5 : decode cX2_soldFields 5 = .ok (.bipush 48, 2) := by decide +kernel
theorem dX2_soldFields_7 : decode cX2_soldFields 7 = .ok (.if_icmp .ge 19, 3) := by decide +kernel
theorem dX2_soldFields_10 : decode cX2_soldFields 10 = .ok (.iload_n 1, 1) := by decide +kernel
theorem dX2_soldFields_11 : decode cX2_soldFields 11 = .ok (.aload_n 0, 1) := by decide +kernel
theorem dX2_soldFields_12 : decode cX2_soldFields 12 = .ok (.bipush 11, 2) := by decide +kernel
theorem dX2_soldFields_14 : decode cX2_soldFields 14 = .ok (.iload_n 2, 1) := by decide +kernel
theorem dX2_soldFields_15 : decode cX2_soldFields 15 = .ok (.invokevirtual 25, 3) := by decide +kernel
theorem dX2_soldFields_18 : decode cX2_soldFields 18 = .ok (.iadd, 1) := by decide +kernel
theorem dX2_soldFields_19 : decode cX2_soldFields 19 = .ok (.istore_n 1, 1) := by decide +kernel
theorem dX2_soldFields_20 : decode cX2_soldFields 20 = .ok (.iinc 2 1, 3) := by decide +kernel
theorem dX2_soldFields_23 : decode cX2_soldFields 23 = .ok (.goto (-19), 3) := by decide +kernel
theorem dX2_soldFields_26 : decode cX2_soldFields 26 = .ok (.iload_n 1, 1) := by decide +kernel
theorem dX2_soldFields_27 : decode cX2_soldFields 27 = .ok (.ireturn, 1) := by decide +kernel
noncomputable def E_X2_soldFields : mE := (mX2_soldFields, [(27, [(0, (.iconst 0, 1, false, false, 0, 0, 0, 0, 0, 0, [])), (1, (.istore_n 1, 2, false, false, 1, 0, 0, 0, 0, 0, [])), (2, (.iconst 0, 3, false, false, 0, 0, 0, 0, 0, 0, [])), (3, (.istore_n 2, 4, true, false, 2, 0, 0, 0, 0, 0, [])), (4, (.iload_n 2, 5, false, false, 2, 0, 0, 0, 0, 0, [])), (5, (.bipush 48, 7, false, false, 0, 0, 0, 0, 48, 0, [])), (7, (.if_icmp .ge 19, 10, false, false, 26, 0, 0, 0, 0, 0, [])), (10, (.iload_n 1, 11, false, false, 1, 0, 0, 0, 0, 0, [])), (11, (.aload_n 0, 12, false, false, 0, 0, 0, 0, 0, 0, [])), (12, (.bipush 11, 14, false, false, 0, 0, 0, 0, 11, 0, [])), (14, (.iload_n 2, 15, false, false, 2, 0, 0, 0, 0, 0, [])), (15, (.invokevirtual 25, 18, false, false, 23, 2, 1, 5, 0, 0, [])), (18, (.iadd, 19, false, false, 0, 0, 0, 0, 0, 0, [])), (19, (.istore_n 1, 20, false, false, 1, 0, 0, 0, 0, 0, [])), (20, (.iinc 2 1, 23, false, false, 2, 0, 0, 0, 1, 0, [])), (23, (.goto (-19), 26, false, true, 4, 0, 0, 0, 0, 0, [])), (26, (.iload_n 1, 27, false, false, 1, 0, 0, 0, 0, 0, [])), (27, (.ireturn, 28, false, false, 0, 0, 0, 0, 0, 0, []))])], 0, [])
set_option maxRecDepth 100000 in
theorem v_X2_soldFields : VE MYT dflT E_X2_soldFields := ⟨⟨⟨⟨⟨dX2_soldFields_0, rfl⟩, rfl⟩, ⟨⟨dX2_soldFields_1, rfl⟩, rfl⟩, ⟨⟨dX2_soldFields_2, rfl⟩, rfl⟩, ⟨⟨dX2_soldFields_3, rfl⟩, rfl⟩, ⟨⟨dX2_soldFields_4, rfl⟩, rfl⟩, ⟨⟨dX2_soldFields_5, rfl⟩, rfl⟩, ⟨⟨dX2_soldFields_7, rfl⟩, rfl⟩, ⟨⟨dX2_soldFields_10, rfl⟩, rfl⟩, ⟨⟨dX2_soldFields_11, rfl⟩, rfl⟩, ⟨⟨dX2_soldFields_12, rfl⟩, rfl⟩, ⟨⟨dX2_soldFields_14, rfl⟩, rfl⟩, ⟨⟨dX2_soldFields_15, rfl⟩, Or.inr ⟨by decide, ⟨_, my_23, sX2_25⟩, fun q => absurd q (by decide)⟩⟩, ⟨⟨dX2_soldFields_18, rfl⟩, trivial⟩, ⟨⟨dX2_soldFields_19, rfl⟩, rfl⟩, ⟨⟨dX2_soldFields_20, rfl⟩, ⟨rfl, rfl⟩⟩, ⟨⟨dX2_soldFields_23, rfl⟩, rfl⟩, ⟨⟨dX2_soldFields_26, rfl⟩, rfl⟩, ⟨⟨dX2_soldFields_27, rfl⟩, Or.inl ⟨rfl, rfl⟩⟩, trivial⟩, trivial⟩, by decide, Or.inl ⟨rfl, by decide, rfl⟩⟩
set_option maxRecDepth 100000 in
theorem g_X2_soldFields_0 (S : sT) (call : cT) (n : Nat) (a0 : Nat) (h : pH) : bd S call dflT E_X2_soldFields (n + 1) 0 [some (.ref a0), none, none] [] h = (bd S call dflT E_X2_soldFields n 4 [some (.ref a0), some (.int 0), some (.int 0)] [] h) := rfl
set_option maxRecDepth 100000 in
theorem g_X2_soldFields_4 (S : sT) (call : cT) (n : Nat) (a0 : Nat) (x1 : Int32) (x2 : Int32) (h : pH) : bd S call dflT E_X2_soldFields (n + 1) 4 [some (.ref a0), some (.int x1), some (.int x2)] [] h = ((if 48 ≤ x2 then some (.inl (some (.int x1)), h) else rC h (.ref a0) 5 (cI (call 23 [.ref a0, .int 11, .int x2] h) (fun y2 h1 => bd S call dflT E_X2_soldFields n 4 [some (.ref a0), some (.int (x1 + y2)), some (.int (x2 + 1))] [] h1)))) := rfl
