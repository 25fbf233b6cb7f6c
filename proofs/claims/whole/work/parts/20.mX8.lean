/-! by program: methods as data, that they are right, what their bodies do -/
theorem dX8_init_0 : decode cX8_init 0 = .ok (.aload_n 0, 1) := by decide +kernel
theorem dX8_init_1 : decode cX8_init 1 = .ok (.invokespecial 5, 3) := by decide +kernel
theorem dX8_init_4 : decode cX8_init 4 = .ok (.aload_n 0, 1) := by decide +kernel
theorem dX8_init_5 : decode cX8_init 5 = .ok (.iconst 0, 1) := by decide +kernel
theorem dX8_init_6 : decode cX8_init 6 = .ok (.putfield 11, 3) := by decide +kernel
theorem dX8_init_9 : decode cX8_init 9 = .ok (.aload_n 0, 1) := by decide +kernel
theorem dX8_init_10 : decode cX8_init 10 = .ok (.iconst 0, 1) := by decide +kernel
theorem dX8_init_11 : decode cX8_init 11 = .ok (.newarray .int, 2) := by decide +kernel
theorem dX8_init_13 : decode cX8_init 13 = .ok (.putfield 15, 3) := by decide +kernel
theorem dX8_init_16 : decode cX8_init 16 = .ok (.return_, 1) := by decide +kernel
noncomputable def E_X8_init : mE := (mX8_init, [(16, [(0, (.aload_n 0, 1, false, false, 0, 0, 0, 0, 0, 0, [])), (1, (.invokespecial 5, 4, false, false, 0, 0, 0, 1, 0, 0, [])), (4, (.aload_n 0, 5, false, false, 0, 0, 0, 0, 0, 0, [])), (5, (.iconst 0, 6, false, false, 0, 0, 0, 0, 0, 0, [])), (6, (.putfield 11, 9, false, false, 11, 0, 1, 0, 0, 0, [])), (9, (.aload_n 0, 10, false, false, 0, 0, 0, 0, 0, 0, [])), (10, (.iconst 0, 11, false, false, 0, 0, 0, 0, 0, 0, [])), (11, (.newarray .int, 13, false, false, 0, 0, 0, 0, 0, 0, [])), (13, (.putfield 15, 16, false, false, 11, 1, 4, 0, 0, 0, [])), (16, (.return_, 17, false, false, 0, 0, 0, 0, 0, 0, []))])], 0, [])
set_option maxRecDepth 100000 in
theorem v_X8_init : VE MYT dflT E_X8_init := ⟨⟨⟨⟨⟨dX8_init_0, rfl⟩, rfl⟩, ⟨⟨dX8_init_1, rfl⟩, Or.inr ⟨rfl, oX8_5, o_1, o_2⟩⟩, ⟨⟨dX8_init_4, rfl⟩, rfl⟩, ⟨⟨dX8_init_5, rfl⟩, rfl⟩, ⟨⟨dX8_init_6, rfl⟩, Or.inr (Or.inl ⟨rfl, fX8_11, rfl, rfl⟩)⟩, ⟨⟨dX8_init_9, rfl⟩, rfl⟩, ⟨⟨dX8_init_10, rfl⟩, rfl⟩, ⟨⟨dX8_init_11, rfl⟩, Or.inl ⟨rfl, rfl, a_int⟩⟩, ⟨⟨dX8_init_13, rfl⟩, Or.inr (Or.inr (Or.inr (Or.inr ⟨rfl, ⟨_, (Or.inr ⟨_, rfl⟩), fX8_15⟩, rfl, rfl⟩)))⟩, ⟨⟨dX8_init_16, rfl⟩, rfl⟩, trivial⟩, trivial⟩, by decide, Or.inl ⟨rfl, by decide, rfl⟩⟩
set_option maxRecDepth 100000 in
theorem g_X8_init_0 (S : sT) (call : cT) (n : Nat) (a0 : Nat) (h : pH) : bd S call dflT E_X8_init (n + 1) 0 [some (.ref a0)] [] h = (pF h (.ref a0) 11 0 (.int 0) (fun h1 => mkI h1 0 0 (fun h2 => pF h2 (.ref a0) 11 1 (.ref (List.length h1)) (fun h3 => some (.inl none, h3))))) := rfl
theorem dX8_get_0 : decode cX8_get 0 = .ok (.iload_n 2, 1) := by decide +kernel
theorem dX8_get_1 : decode cX8_get 1 = .ok (.ifCond .lt 35, 3) := by decide +kernel
theorem dX8_get_4 : decode cX8_get 4 = .ok (.iload_n 2, 1) := by decide +kernel
theorem dX8_get_5 : decode cX8_get 5 = .ok (.aload_n 0, 1) := by decide +kernel
theorem dX8_get_6 : decode cX8_get 6 = .ok (.getfield 11, 3) := by decide +kernel
theorem dX8_get_9 : decode cX8_get 9 = .ok (.if_icmp .ge 27, 3) := by decide +kernel
theorem dX8_get_12 : decode cX8_get 12 = .ok (.iload_n 1, 1) := by decide +kernel
theorem dX8_get_13 : decode cX8_get 13 = .ok (.ifCond .lt 23, 3) := by decide +kernel
theorem dX8_get_16 : decode cX8_get 16 = .ok (.iload_n 1, 1) := by decide +kernel
theorem dX8_get_17 : decode cX8_get 17 = .ok (.bipush 6, 2) := by decide +kernel
theorem dX8_get_19 : decode cX8_get 19 = .ok (.if_icmp .ge 17, 3) := by decide +kernel
theorem dX8_get_22 : decode cX8_get 22 = .ok (.aload_n 0, 1) := by decide +kernel
theorem dX8_get_23 : decode cX8_get 23 = .ok (.getfield 15, 3) := by decide +kernel
theorem dX8_get_26 : decode cX8_get 26 = .ok (.bipush 6, 2) := by decide +kernel
theorem dX8_get_28 : decode cX8_get 28 = .ok (.iload_n 2, 1) := by decide +kernel
theorem dX8_get_29 : decode cX8_get 29 = .ok (.imul, 1) := by decide +kernel
theorem dX8_get_30 : decode cX8_get 30 = .ok (.iload_n 1, 1) := by decide +kernel
theorem dX8_get_31 : decode cX8_get 31 = .ok (.iadd, 1) := by decide +kernel
theorem dX8_get_32 : decode cX8_get 32 = .ok (.iaload, 1) := by decide +kernel
theorem dX8_get_33 : decode cX8_get 33 = .ok (.goto 4, 3) := by decide +kernel
theorem dX8_get_36 : decode cX8_get 36 = .ok (.iconst 0, 1) := by decide +kernel
theorem dX8_get_37 : decode cX8_get 37 = .ok (.ireturn, 1) := by decide +kernel
noncomputable def E_X8_get : mE := (mX8_get, [(37, [(0, (.iload_n 2, 1, false, false, 2, 0, 0, 0, 0, 0, [])), (1, (.ifCond .lt 35, 4, false, false, 36, 0, 0, 0, 0, 0, [])), (4, (.iload_n 2, 5, false, false, 2, 0, 0, 0, 0, 0, [])), (5, (.aload_n 0, 6, false, false, 0, 0, 0, 0, 0, 0, [])), (6, (.getfield 11, 9, false, false, 11, 0, 0, 0, 0, 0, [])), (9, (.if_icmp .ge 27, 12, false, false, 36, 0, 0, 0, 0, 0, [])), (12, (.iload_n 1, 13, false, false, 1, 0, 0, 0, 0, 0, [])), (13, (.ifCond .lt 23, 16, false, false, 36, 0, 0, 0, 0, 0, [])), (16, (.iload_n 1, 17, false, false, 1, 0, 0, 0, 0, 0, [])), (17, (.bipush 6, 19, false, false, 0, 0, 0, 0, 6, 0, [])), (19, (.if_icmp .ge 17, 22, false, false, 36, 0, 0, 0, 0, 0, [])), (22, (.aload_n 0, 23, false, false, 0, 0, 0, 0, 0, 0, [])), (23, (.getfield 15, 26, false, false, 11, 1, 1, 0, 0, 0, [])), (26, (.bipush 6, 28, false, false, 0, 0, 0, 0, 6, 0, [])), (28, (.iload_n 2, 29, false, false, 2, 0, 0, 0, 0, 0, [])), (29, (.imul, 30, false, false, 0, 0, 0, 0, 0, 0, [])), (30, (.iload_n 1, 31, false, false, 1, 0, 0, 0, 0, 0, [])), (31, (.iadd, 32, false, false, 0, 0, 0, 0, 0, 0, [])), (32, (.iaload, 33, false, false, 0, 0, 0, 0, 0, 0, [])), (33, (.goto 4, 36, false, false, 37, 0, 0, 0, 0, 0, [])), (36, (.iconst 0, 37, false, false, 0, 0, 0, 0, 0, 0, [])), (37, (.ireturn, 38, false, false, 0, 0, 0, 0, 0, 0, []))])], 0, [])
set_option maxRecDepth 100000 in
theorem v_X8_get : VE MYT dflT E_X8_get := ⟨⟨⟨⟨⟨dX8_get_0, rfl⟩, rfl⟩, ⟨⟨dX8_get_1, rfl⟩, rfl⟩, ⟨⟨dX8_get_4, rfl⟩, rfl⟩, ⟨⟨dX8_get_5, rfl⟩, rfl⟩, ⟨⟨dX8_get_6, rfl⟩, Or.inl ⟨by decide, _, _, fX8_11⟩⟩, ⟨⟨dX8_get_9, rfl⟩, rfl⟩, ⟨⟨dX8_get_12, rfl⟩, rfl⟩, ⟨⟨dX8_get_13, rfl⟩, rfl⟩, ⟨⟨dX8_get_16, rfl⟩, rfl⟩, ⟨⟨dX8_get_17, rfl⟩, rfl⟩, ⟨⟨dX8_get_19, rfl⟩, rfl⟩, ⟨⟨dX8_get_22, rfl⟩, rfl⟩, ⟨⟨dX8_get_23, rfl⟩, Or.inl ⟨by decide, _, _, fX8_15⟩⟩, ⟨⟨dX8_get_26, rfl⟩, rfl⟩, ⟨⟨dX8_get_28, rfl⟩, rfl⟩, ⟨⟨dX8_get_29, rfl⟩, trivial⟩, ⟨⟨dX8_get_30, rfl⟩, rfl⟩, ⟨⟨dX8_get_31, rfl⟩, trivial⟩, ⟨⟨dX8_get_32, rfl⟩, trivial⟩, ⟨⟨dX8_get_33, rfl⟩, rfl⟩, ⟨⟨dX8_get_36, rfl⟩, rfl⟩, ⟨⟨dX8_get_37, rfl⟩, Or.inl ⟨rfl, rfl⟩⟩, trivial⟩, trivial⟩, by decide, Or.inl ⟨rfl, by decide, rfl⟩⟩
set_option maxRecDepth 100000 in
theorem g_X8_get_0 (S : sT) (call : cT) (n : Nat) (a0 : Nat) (x1 : Int32) (x2 : Int32) (h : pH) : bd S call dflT E_X8_get (n + 1) 0 [some (.ref a0), some (.int x1), some (.int x2)] [] h = ((if x2 < 0 then some (.inl (some (.int 0)), h) else gI h (.ref a0) 11 0 (fun y1 => (if y1 ≤ x2 then some (.inl (some (.int 0)), h) else (if x1 < 0 then some (.inl (some (.int 0)), h) else (if 6 ≤ x1 then some (.inl (some (.int 0)), h) else gV h (.ref a0) 11 1 (fun w2 => aI h w2 0 ((6 * x2) + x1) (fun y3 => some (.inl (some (.int y3)), h))))))))) := rfl
theorem dX8_lastOf_0 : decode cX8_lastOf 0 = .ok (.aload_n 0, 1) := by decide +kernel
theorem dX8_lastOf_1 : decode cX8_lastOf 1 = .ok (.getfield 11, 3) := by decide +kernel
theorem dX8_lastOf_4 : decode cX8_lastOf 4 = .ok (.iconst 1, 1) := by decide +kernel
theorem dX8_lastOf_5 : decode cX8_lastOf 5 = .ok (.isub, 1) := by decide +kernel
theorem dX8_lastOf_6 : decode cX8_lastOf 6 = .ok (.istore_n 3, 1) := by decide +kernel
theorem dX8_lastOf_7 : decode cX8_lastOf 7 = .ok (.iload_n 3, 1) := by decide +kernel
theorem dX8_lastOf_8 : decode cX8_lastOf 8 = .ok (.ifCond .lt 31, 3) := by decide +kernel
theorem dX8_lastOf_11 : decode cX8_lastOf 11 = .ok (.aload_n 0, 1) := by decide +kernel
theorem dX8_lastOf_12 : decode cX8_lastOf 12 = .ok (.iconst 0, 1) := by decide +kernel
theorem dX8_lastOf_13 : decode cX8_lastOf 13 = .ok (.iload_n 3, 1) := by decide +kernel
theorem dX8_lastOf_14 : decode cX8_lastOf 14 = .ok (.invokevirtual 19, 3) := by decide +kernel
theorem dX8_lastOf_17 : decode cX8_lastOf 17 = .ok (.iload_n 1, 1) := by decide +kernel
theorem dX8_lastOf_18 : decode cX8_lastOf 18 = .ok (.if_icmp .ne 15, 3) := by decide +kernel
theorem dX8_lastOf_21 : decode cX8_lastOf 21 = .ok (.aload_n 0, 1) := by decide +kernel
theorem dX8_lastOf_22 : decode cX8_lastOf 22 = .ok (.iconst 2, 1) := by decide +kernel
theorem dX8_lastOf_23 : decode cX8_lastOf 23 = .ok (.iload_n 3, 1) := by decide +kernel
theorem dX8_lastOf_24 : decode cX8_lastOf 24 = .ok (.invokevirtual 19, 3) := by decide +kernel
theorem dX8_lastOf_27 : decode cX8_lastOf 27 = .ok (.iload_n 2, 1) := by decide +kernel
theorem dX8_lastOf_28 : decode cX8_lastOf 28 = .ok (.if_icmp .ne 5, 3) := by decide +kernel
theorem dX8_lastOf_31 : decode cX8_lastOf 31 = .ok (.iload_n 3, 1) := by decide +kernel
theorem dX8_lastOf_32 : decode cX8_lastOf 32 = .ok (.ireturn, 1) := by decide +kernel
theorem dX8_lastOf_33 : decode cX8_lastOf 33 = .ok (.iinc 3 (-1), 3) := by decide +kernel
theorem dX8_lastOf_36 : decode cX8_lastOf 36 = .ok (.goto (-29), 3) := by decide +kernel
theorem dX8_lastOf_39 : decode cX8_lastOf 39 = .ok (.iconst (-1), 1) := by decide +kernel
theorem dX8_lastOf_40 : decode cX8_lastOf 40 = .ok (.ireturn, 1) := by decide +kernel
noncomputable def E_X8_lastOf : mE := (mX8_lastOf, [(39, [(0, (.aload_n 0, 1, false, false, 0, 0, 0, 0, 0, 0, [])), (1, (.getfield 11, 4, false, false, 11, 0, 0, 0, 0, 0, [])), (4, (.iconst 1, 5, false, false, 0, 0, 0, 0, 1, 0, [])), (5, (.isub, 6, false, false, 0, 0, 0, 0, 0, 0, [])), (6, (.istore_n 3, 7, true, false, 3, 0, 0, 0, 0, 0, [])), (7, (.iload_n 3, 8, false, false, 3, 0, 0, 0, 0, 0, [])), (8, (.ifCond .lt 31, 11, false, false, 39, 0, 0, 0, 0, 0, [])), (11, (.aload_n 0, 12, false, false, 0, 0, 0, 0, 0, 0, [])), (12, (.iconst 0, 13, false, false, 0, 0, 0, 0, 0, 0, [])), (13, (.iload_n 3, 14, false, false, 3, 0, 0, 0, 0, 0, [])), (14, (.invokevirtual 19, 17, false, false, 88, 2, 1, 11, 0, 0, [])), (17, (.iload_n 1, 18, false, false, 1, 0, 0, 0, 0, 0, [])), (18, (.if_icmp .ne 15, 21, false, false, 33, 0, 0, 0, 0, 0, [])), (21, (.aload_n 0, 22, false, false, 0, 0, 0, 0, 0, 0, [])), (22, (.iconst 2, 23, false, false, 0, 0, 0, 0, 2, 0, [])), (23, (.iload_n 3, 24, false, false, 3, 0, 0, 0, 0, 0, [])), (24, (.invokevirtual 19, 27, false, false, 88, 2, 1, 11, 0, 0, [])), (27, (.iload_n 2, 28, false, false, 2, 0, 0, 0, 0, 0, [])), (28, (.if_icmp .ne 5, 31, false, false, 33, 0, 0, 0, 0, 0, [])), (31, (.iload_n 3, 32, false, false, 3, 0, 0, 0, 0, 0, [])), (32, (.ireturn, 33, false, false, 0, 0, 0, 0, 0, 0, [])), (33, (.iinc 3 (-1), 36, false, false, 3, 0, 0, 0, -1, 0, [])), (36, (.goto (-29), 39, false, true, 7, 0, 0, 0, 0, 0, [])), (39, (.iconst (-1), 40, false, false, 0, 0, 0, 0, -1, 0, []))]),
  (40, [(40, (.ireturn, 41, false, false, 0, 0, 0, 0, 0, 0, []))])], 0, [])
set_option maxRecDepth 100000 in
theorem v_X8_lastOf : VE MYT dflT E_X8_lastOf := ⟨⟨⟨⟨⟨dX8_lastOf_0, rfl⟩, rfl⟩, ⟨⟨dX8_lastOf_1, rfl⟩, Or.inl ⟨by decide, _, _, fX8_11⟩⟩, ⟨⟨dX8_lastOf_4, rfl⟩, rfl⟩, ⟨⟨dX8_lastOf_5, rfl⟩, trivial⟩, ⟨⟨dX8_lastOf_6, rfl⟩, rfl⟩, ⟨⟨dX8_lastOf_7, rfl⟩, rfl⟩, ⟨⟨dX8_lastOf_8, rfl⟩, rfl⟩, ⟨⟨dX8_lastOf_11, rfl⟩, rfl⟩, ⟨⟨dX8_lastOf_12, rfl⟩, rfl⟩, ⟨⟨dX8_lastOf_13, rfl⟩, rfl⟩, ⟨⟨dX8_lastOf_14, rfl⟩, Or.inr ⟨by decide, ⟨_, my_88, sX8_19⟩, fun q => absurd q (by decide)⟩⟩, ⟨⟨dX8_lastOf_17, rfl⟩, rfl⟩, ⟨⟨dX8_lastOf_18, rfl⟩, rfl⟩, ⟨⟨dX8_lastOf_21, rfl⟩, rfl⟩, ⟨⟨dX8_lastOf_22, rfl⟩, rfl⟩, ⟨⟨dX8_lastOf_23, rfl⟩, rfl⟩, ⟨⟨dX8_lastOf_24, rfl⟩, Or.inr ⟨by decide, ⟨_, my_88, sX8_19⟩, fun q => absurd q (by decide)⟩⟩, ⟨⟨dX8_lastOf_27, rfl⟩, rfl⟩, ⟨⟨dX8_lastOf_28, rfl⟩, rfl⟩, ⟨⟨dX8_lastOf_31, rfl⟩, rfl⟩, ⟨⟨dX8_lastOf_32, rfl⟩, Or.inl ⟨rfl, rfl⟩⟩, ⟨⟨dX8_lastOf_33, rfl⟩, ⟨rfl, rfl⟩⟩, ⟨⟨dX8_lastOf_36, rfl⟩, rfl⟩, ⟨⟨dX8_lastOf_39, rfl⟩, rfl⟩, trivial⟩,
  ⟨⟨⟨dX8_lastOf_40, rfl⟩, Or.inl ⟨rfl, rfl⟩⟩, trivial⟩, trivial⟩, by decide, Or.inl ⟨rfl, by decide, rfl⟩⟩
set_option maxRecDepth 100000 in
theorem g_X8_lastOf_0 (S : sT) (call : cT) (n : Nat) (a0 : Nat) (x1 : Int32) (x2 : Int32) (h : pH) : bd S call dflT E_X8_lastOf (n + 1) 0 [some (.ref a0), some (.int x1), some (.int x2), none] [] h = (gI h (.ref a0) 11 0 (fun y1 => bd S call dflT E_X8_lastOf n 7 [some (.ref a0), some (.int x1), some (.int x2), some (.int (y1 - 1))] [] h)) := rfl
set_option maxRecDepth 100000 in
theorem g_X8_lastOf_7 (S : sT) (call : cT) (n : Nat) (a0 : Nat) (x1 : Int32) (x2 : Int32) (x3 : Int32) (h : pH) : bd S call dflT E_X8_lastOf (n + 1) 7 [some (.ref a0), some (.int x1), some (.int x2), some (.int x3)] [] h = ((if x3 < 0 then some (.inl (some (.int (-1))), h) else rC h (.ref a0) 11 (cI (call 88 [.ref a0, .int 0, .int x3] h) (fun y2 h1 => (if y2 = x1 then rC h1 (.ref a0) 11 (cI (call 88 [.ref a0, .int 2, .int x3] h1) (fun y4 h3 => (if y4 = x2 then some (.inl (some (.int x3)), h3) else bd S call dflT E_X8_lastOf n 7 [some (.ref a0), some (.int x1), some (.int x2), some (.int (x3 + (-1)))] [] h3))) else bd S call dflT E_X8_lastOf n 7 [some (.ref a0), some (.int x1), some (.int x2), some (.int (x3 + (-1)))] [] h1))))) := rfl
theorem dX8_init__0 : decode cX8_init_ 0 = .ok (.aload_n 0, 1) := by decide +kernel
theorem dX8_init__1 : decode cX8_init_ 1 = .ok (.invokespecial 5, 3) := by decide +kernel
theorem dX8_init__4 : decode cX8_init_ 4 = .ok (.aload_n 0, 1) := by decide +kernel
theorem dX8_init__5 : decode cX8_init_ 5 = .ok (.iload_n 1, 1) := by decide +kernel
theorem dX8_init__6 : decode cX8_init_ 6 = .ok (.putfield 11, 3) := by decide +kernel
theorem dX8_init__9 : decode cX8_init_ 9 = .ok (.aload_n 0, 1) := by decide +kernel
theorem dX8_init__10 : decode cX8_init_ 10 = .ok (.aload_n 2, 1) := by decide +kernel
theorem dX8_init__11 : decode cX8_init_ 11 = .ok (.putfield 15, 3) := by decide +kernel
theorem dX8_init__14 : decode cX8_init_ 14 = .ok (.return_, 1) := by decide +kernel
noncomputable def E_X8_init_ : mE := (mX8_init_, [(14, [(0, (.aload_n 0, 1, false, false, 0, 0, 0, 0, 0, 0, [])), (1, (.invokespecial 5, 4, false, false, 0, 0, 0, 1, 0, 0, [])), (4, (.aload_n 0, 5, false, false, 0, 0, 0, 0, 0, 0, [])), (5, (.iload_n 1, 6, false, false, 1, 0, 0, 0, 0, 0, [])), (6, (.putfield 11, 9, false, false, 11, 0, 1, 0, 0, 0, [])), (9, (.aload_n 0, 10, false, false, 0, 0, 0, 0, 0, 0, [])), (10, (.aload_n 2, 11, false, false, 2, 0, 0, 0, 0, 0, [])), (11, (.putfield 15, 14, false, false, 11, 1, 4, 0, 0, 0, [])), (14, (.return_, 15, false, false, 0, 0, 0, 0, 0, 0, []))])], 0, [])
set_option maxRecDepth 100000 in
theorem v_X8_init_ : VE MYT dflT E_X8_init_ := ⟨⟨⟨⟨⟨dX8_init__0, rfl⟩, rfl⟩, ⟨⟨dX8_init__1, rfl⟩, Or.inr ⟨rfl, oX8_5, o_1, o_2⟩⟩, ⟨⟨dX8_init__4, rfl⟩, rfl⟩, ⟨⟨dX8_init__5, rfl⟩, rfl⟩, ⟨⟨dX8_init__6, rfl⟩, Or.inr (Or.inl ⟨rfl, fX8_11, rfl, rfl⟩)⟩, ⟨⟨dX8_init__9, rfl⟩, rfl⟩, ⟨⟨dX8_init__10, rfl⟩, rfl⟩, ⟨⟨dX8_init__11, rfl⟩, Or.inr (Or.inr (Or.inr (Or.inr ⟨rfl, ⟨_, (Or.inr ⟨_, rfl⟩), fX8_15⟩, rfl, rfl⟩)))⟩, ⟨⟨dX8_init__14, rfl⟩, rfl⟩, trivial⟩, trivial⟩, by decide, Or.inl ⟨rfl, by decide, rfl⟩⟩
set_option maxRecDepth 100000 in
theorem g_X8_init__0 (S : sT) (call : cT) (n : Nat) (a0 : Nat) (x1 : Int32) (v2 : Value) (h : pH) : bd S call dflT E_X8_init_ (n + 1) 0 [some (.ref a0), some (.int x1), some (v2)] [] h = (pF h (.ref a0) 11 0 (.int x1) (fun h1 => iA v2 (iA v2 (pF h1 (.ref a0) 11 1 (v2) (fun h2 => some (.inl none, h2)))))) := rfl
theorem dX8_step_0 : decode cX8_step 0 = .ok (.iload_n 0, 1) := by decide +kernel
theorem dX8_step_1 : decode cX8_step 1 = .ok (.bipush (-12), 2) := by decide +kernel
theorem dX8_step_3 : decode cX8_step 3 = .ok (.if_icmp .le 38, 3) := by decide +kernel
theorem dX8_step_6 : decode cX8_step 6 = .ok (.iload_n 1, 1) := by decide +kernel
theorem dX8_step_7 : decode cX8_step 7 = .ok (.bipush 11, 2) := by decide +kernel
theorem dX8_step_9 : decode cX8_step 9 = .ok (.if_icmp .lt 9, 3) := by decide +kernel
theorem dX8_step_12 : decode cX8_step 12 = .ok (.iload_n 1, 1) := by decide +kernel
theorem dX8_step_13 : decode cX8_step 13 = .ok (.aload_n 2, 1) := by decide +kernel
theorem dX8_step_14 : decode cX8_step 14 = .ok (.arraylength, 1) := by decide +kernel
theorem dX8_step_15 : decode cX8_step 15 = .ok (.if_icmp .lt 5, 3) := by decide +kernel
theorem dX8_step_18 : decode cX8_step 18 = .ok (.iload_n 1, 1) := by decide +kernel
theorem dX8_step_19 : decode cX8_step 19 = .ok (.ireturn, 1) := by decide +kernel
theorem dX8_step_20 : decode cX8_step 20 = .ok (.aload_n 2, 1) := by decide +kernel
theorem dX8_step_21 : decode cX8_step 21 = .ok (.iload_n 1, 1) := by decide +kernel
theorem dX8_step_22 : decode cX8_step 22 = .ok (.iload_n 0, 1) := by decide +kernel
theorem dX8_step_23 : decode cX8_step 23 = .ok (.ifCond .lt 8, 3) := by decide +kernel
theorem dX8_step_26 : decode cX8_step 26 = .ok (.iload_n 0, 1) := by decide +kernel
theorem dX8_step_27 : decode cX8_step 27 = .ok (.i2l, 1) := by decide +kernel
theorem dX8_step_28 : decode cX8_step 28 = .ok (.goto 8, 3) := by decide +kernel
theorem dX8_step_31 : decode cX8_step 31 = .ok (.aload_n 2, 1) := by decide +kernel
theorem dX8_step_32 : decode cX8_step 32 = .ok (.iconst (-1), 1) := by decide +kernel
theorem dX8_step_33 : decode cX8_step 33 = .ok (.iload_n 0, 1) := by decide +kernel
theorem dX8_step_34 : decode cX8_step 34 = .ok (.isub, 1) := by decide +kernel
theorem dX8_step_35 : decode cX8_step 35 = .ok (.laload, 1) := by decide +kernel
theorem dX8_step_36 : decode cX8_step 36 = .ok (.lastore, 1) := by decide +kernel
theorem dX8_step_37 : decode cX8_step 37 = .ok (.iload_n 1, 1) := by decide +kernel
theorem dX8_step_38 : decode cX8_step 38 = .ok (.iconst 1, 1) := by decide +kernel
theorem dX8_step_39 : decode cX8_step 39 = .ok (.iadd, 1) := by decide +kernel
theorem dX8_step_40 : decode cX8_step 40 = .ok (.ireturn, 1) := by decide +kernel
theorem dX8_step_41 : decode cX8_step 41 = .ok (.iload_n 1, 1) := by decide +kernel
theorem dX8_step_42 : decode cX8_step 42 = .ok (.bipush 11, 2) := by decide +kernel
theorem dX8_step_44 : decode cX8_step 44 = .ok (.iload_n 0, 1) := by decide +kernel
theorem dX8_step_45 : decode cX8_step 45 = .ok (.bipush (-15), 2) := by decide +kernel
theorem dX8_step_47 : decode cX8_step 47 = .ok (.if_icmp .ne 7, 3) := by decide +kernel
theorem dX8_step_50 : decode cX8_step 50 = .ok (.iconst 1, 1) := by decide +kernel
theorem dX8_step_51 : decode cX8_step 51 = .ok (.goto 4, 3) := by decide +kernel
theorem dX8_step_54 : decode cX8_step 54 = .ok (.iconst 2, 1) := by decide +kernel
theorem dX8_step_55 : decode cX8_step 55 = .ok (.iadd, 1) := by decide +kernel
theorem dX8_step_56 : decode cX8_step 56 = .ok (.if_icmp .lt 9, 3) := by decide +kernel
theorem dX8_step_59 : decode cX8_step 59 = .ok (.iload_n 1, 1) := by decide +kernel
theorem dX8_step_60 : decode cX8_step 60 = .ok (.aload_n 2, 1) := by decide +kernel
theorem dX8_step_61 : decode cX8_step 61 = .ok (.arraylength, 1) := by decide +kernel
theorem dX8_step_62 : decode cX8_step 62 = .ok (.if_icmp .le 5, 3) := by decide +kernel
theorem dX8_step_65 : decode cX8_step 65 = .ok (.iload_n 1, 1) := by decide +kernel
theorem dX8_step_66 : decode cX8_step 66 = .ok (.ireturn, 1) := by decide +kernel
theorem dX8_step_67 : decode cX8_step 67 = .ok (.aload_n 2, 1) := by decide +kernel
theorem dX8_step_68 : decode cX8_step 68 = .ok (.iload_n 1, 1) := by decide +kernel
theorem dX8_step_69 : decode cX8_step 69 = .ok (.iconst 1, 1) := by decide +kernel
theorem dX8_step_70 : decode cX8_step 70 = .ok (.isub, 1) := by decide +kernel
theorem dX8_step_71 : decode cX8_step 71 = .ok (.laload, 1) := by decide +kernel
theorem dX8_step_72 : decode cX8_step 72 = .ok (.lstore_n 3, 1) := by decide +kernel
theorem dX8_step_73 : decode cX8_step 73 = .ok (.iload_n 0, 1) := by decide +kernel
theorem dX8_step_74 : decode cX8_step 74 = .ok (.bipush (-15), 2) := by decide +kernel
theorem dX8_step_76 : decode cX8_step 76 = .ok (.if_icmp .ne 13, 3) := by decide +kernel
theorem dX8_step_79 : decode cX8_step 79 = .ok (.aload_n 2, 1) := by decide +kernel
theorem dX8_step_80 : decode cX8_step 80 = .ok (.iload_n 1, 1) := by decide +kernel
theorem dX8_step_81 : decode cX8_step 81 = .ok (.iconst 1, 1) := by decide +kernel
theorem dX8_step_82 : decode cX8_step 82 = .ok (.isub, 1) := by decide +kernel
theorem dX8_step_83 : decode cX8_step 83 = .ok (.lconst 1, 1) := by decide +kernel
theorem dX8_step_84 : decode cX8_step 84 = .ok (.lload_n 3, 1) := by decide +kernel
theorem dX8_step_85 : decode cX8_step 85 = .ok (.lsub, 1) := by decide +kernel
theorem dX8_step_86 : decode cX8_step 86 = .ok (.lastore, 1) := by decide +kernel
theorem dX8_step_87 : decode cX8_step 87 = .ok (.iload_n 1, 1) := by decide +kernel
theorem dX8_step_88 : decode cX8_step 88 = .ok (.ireturn, 1) := by decide +kernel
theorem dX8_step_89 : decode cX8_step 89 = .ok (.aload_n 2, 1) := by decide +kernel
theorem dX8_step_90 : decode cX8_step 90 = .ok (.iload_n 1, 1) := by decide +kernel
theorem dX8_step_91 : decode cX8_step 91 = .ok (.iconst 2, 1) := by decide +kernel
theorem dX8_step_92 : decode cX8_step 92 = .ok (.isub, 1) := by decide +kernel
theorem dX8_step_93 : decode cX8_step 93 = .ok (.laload, 1) := by decide +kernel
theorem dX8_step_94 : decode cX8_step 94 = .ok (.lstore 5, 2) := by decide +kernel
theorem dX8_step_96 : decode cX8_step 96 = .ok (.iload_n 0, 1) := by decide +kernel
theorem dX8_step_97 : decode cX8_step 97 = .ok (.bipush (-12), 2) := by decide +kernel
theorem dX8_step_99 : decode cX8_step 99 = .ok (.if_icmp .ne 15, 3) := by decide +kernel
theorem dX8_step_102 : decode cX8_step 102 = .ok (.aload_n 2, 1) := by decide +kernel
theorem dX8_step_103 : decode cX8_step 103 = .ok (.iload_n 1, 1) := by decide +kernel
theorem dX8_step_104 : decode cX8_step 104 = .ok (.iconst 2, 1) := by decide +kernel
theorem dX8_step_105 : decode cX8_step 105 = .ok (.isub, 1) := by decide +kernel
theorem dX8_step_106 : decode cX8_step 106 = .ok (.lload 5, 2) := by decide +kernel
theorem dX8_step_108 : decode cX8_step 108 = .ok (.lload_n 3, 1) := by decide +kernel
theorem dX8_step_109 : decode cX8_step 109 = .ok (.ladd, 1) := by decide +kernel
theorem dX8_step_110 : decode cX8_step 110 = .ok (.lastore, 1) := by decide +kernel
theorem dX8_step_111 : decode cX8_step 111 = .ok (.goto 72, 3) := by decide +kernel
theorem dX8_step_114 : decode cX8_step 114 = .ok (.iload_n 0, 1) := by decide +kernel
theorem dX8_step_115 : decode cX8_step 115 = .ok (.bipush (-16), 2) := by decide +kernel
theorem dX8_step_117 : decode cX8_step 117 = .ok (.if_icmp .ne 15, 3) := by decide +kernel
theorem dX8_step_120 : decode cX8_step 120 = .ok (.aload_n 2, 1) := by decide +kernel
theorem dX8_step_121 : decode cX8_step 121 = .ok (.iload_n 1, 1) := by decide +kernel
theorem dX8_step_122 : decode cX8_step 122 = .ok (.iconst 2, 1) := by decide +kernel
theorem dX8_step_123 : decode cX8_step 123 = .ok (.isub, 1) := by decide +kernel
theorem dX8_step_124 : decode cX8_step 124 = .ok (.lload 5, 2) := by decide +kernel
theorem dX8_step_126 : decode cX8_step 126 = .ok (.lload_n 3, 1) := by decide +kernel
theorem dX8_step_127 : decode cX8_step 127 = .ok (.land, 1) := by decide +kernel
theorem dX8_step_128 : decode cX8_step 128 = .ok (.lastore, 1) := by decide +kernel
theorem dX8_step_129 : decode cX8_step 129 = .ok (.goto 54, 3) := by decide +kernel
theorem dX8_step_132 : decode cX8_step 132 = .ok (.iload_n 0, 1) := by decide +kernel
theorem dX8_step_133 : decode cX8_step 133 = .ok (.bipush (-17), 2) := by decide +kernel
theorem dX8_step_135 : decode cX8_step 135 = .ok (.if_icmp .ne 15, 3) := by decide +kernel
theorem dX8_step_138 : decode cX8_step 138 = .ok (.aload_n 2, 1) := by decide +kernel
theorem dX8_step_139 : decode cX8_step 139 = .ok (.iload_n 1, 1) := by decide +kernel
theorem dX8_step_140 : decode cX8_step 140 = .ok (.iconst 2, 1) := by decide +kernel
theorem dX8_step_141 : decode cX8_step 141 = .ok (.isub, 1) := by decide +kernel
theorem dX8_step_142 : decode cX8_step 142 = .ok (.lload 5, 2) := by decide +kernel
theorem dX8_step_144 : decode cX8_step 144 = .ok (.lload_n 3, 1) := by decide +kernel
theorem dX8_step_145 : decode cX8_step 145 = .ok (.lor, 1) := by decide +kernel
theorem dX8_step_146 : decode cX8_step 146 = .ok (.lastore, 1) := by decide +kernel
theorem dX8_step_147 : decode cX8_step 147 = .ok (.goto 36, 3) := by decide +kernel
theorem dX8_step_150 : decode cX8_step 150 = .ok (.aload_n 2, 1) := by decide +kernel
theorem dX8_step_151 : decode cX8_step 151 = .ok (.iload_n 1, 1) := by decide +kernel
theorem dX8_step_152 : decode cX8_step 152 = .ok (.iconst 2, 1) := by decide +kernel
theorem dX8_step_153 : decode cX8_step 153 = .ok (.isub, 1) := by decide +kernel
theorem dX8_step_154 : decode cX8_step 154 = .ok (.iload_n 0, 1) := by decide +kernel
theorem dX8_step_155 : decode cX8_step 155 = .ok (.bipush (-13), 2) := by decide +kernel
theorem dX8_step_157 : decode cX8_step 157 = .ok (.if_icmp .ne 13, 3) := by decide +kernel
theorem dX8_step_160 : decode cX8_step 160 = .ok (.lload 5, 2) := by decide +kernel
theorem dX8_step_162 : decode cX8_step 162 = .ok (.lload_n 3, 1) := by decide +kernel
theorem dX8_step_163 : decode cX8_step 163 = .ok (.lcmp, 1) := by decide +kernel
theorem dX8_step_164 : decode cX8_step 164 = .ok (.ifCond .ge 17, 3) := by decide +kernel
theorem dX8_step_167 : decode cX8_step 167 = .ok (.goto 10, 3) := by decide +kernel
theorem dX8_step_170 : decode cX8_step 170 = .ok (.lload 5, 2) := by decide +kernel
theorem dX8_step_172 : decode cX8_step 172 = .ok (.lload_n 3, 1) := by decide +kernel
theorem dX8_step_173 : decode cX8_step 173 = .ok (.lcmp, 1) := by decide +kernel
theorem dX8_step_174 : decode cX8_step 174 = .ok (.ifCond .le 7, 3) := by decide +kernel
theorem dX8_step_177 : decode cX8_step 177 = .ok (.lconst 1, 1) := by decide +kernel
theorem dX8_step_178 : decode cX8_step 178 = .ok (.goto 4, 3) := by decide +kernel
theorem dX8_step_181 : decode cX8_step 181 = .ok (.lconst 0, 1) := by decide +kernel
theorem dX8_step_182 : decode cX8_step 182 = .ok (.lastore, 1) := by decide +kernel
theorem dX8_step_183 : decode cX8_step 183 = .ok (.iload_n 1, 1) := by decide +kernel
theorem dX8_step_184 : decode cX8_step 184 = .ok (.iconst 1, 1) := by decide +kernel
theorem dX8_step_185 : decode cX8_step 185 = .ok (.isub, 1) := by decide +kernel
theorem dX8_step_186 : decode cX8_step 186 = .ok (.ireturn, 1) := by decide +kernel
noncomputable def E_X8_step : mE := (mX8_step, [(35, [(0, (.iload_n 0, 1, false, false, 0, 0, 0, 0, 0, 0, [])), (1, (.bipush (-12), 3, false, false, 0, 0, 0, 0, -12, 0, [])), (3, (.if_icmp .le 38, 6, false, false, 41, 0, 0, 0, 0, 0, [])), (6, (.iload_n 1, 7, false, false, 1, 0, 0, 0, 0, 0, [])), (7, (.bipush 11, 9, false, false, 0, 0, 0, 0, 11, 0, [])), (9, (.if_icmp .lt 9, 12, false, false, 18, 0, 0, 0, 0, 0, [])), (12, (.iload_n 1, 13, false, false, 1, 0, 0, 0, 0, 0, [])), (13, (.aload_n 2, 14, false, false, 2, 0, 0, 0, 0, 0, [])), (14, (.arraylength, 15, false, false, 0, 0, 0, 0, 0, 0, [])), (15, (.if_icmp .lt 5, 18, false, false, 20, 0, 0, 0, 0, 0, [])), (18, (.iload_n 1, 19, false, false, 1, 0, 0, 0, 0, 0, [])), (19, (.ireturn, 20, false, false, 0, 0, 0, 0, 0, 0, [])), (20, (.aload_n 2, 21, false, false, 2, 0, 0, 0, 0, 0, [])), (21, (.iload_n 1, 22, false, false, 1, 0, 0, 0, 0, 0, [])), (22, (.iload_n 0, 23, false, false, 0, 0, 0, 0, 0, 0, [])), (23, (.ifCond .lt 8, 26, false, false, 31, 0, 0, 0, 0, 0, [])), (26, (.iload_n 0, 27, false, false, 0, 0, 0, 0, 0, 0, [])), (27, (.i2l, 28, false, false, 0, 0, 0, 0, 0, 0, [])), (28, (.goto 8, 31, false, false, 36, 0, 0, 0, 0, 0, [])), (31, (.aload_n 2, 32, false, false, 2, 0, 0, 0, 0, 0, [])), (32, (.iconst (-1), 33, false, false, 0, 0, 0, 0, -1, 0, [])), (33, (.iload_n 0, 34, false, false, 0, 0, 0, 0, 0, 0, [])), (34, (.isub, 35, false, false, 0, 0, 0, 0, 0, 0, [])), (35, (.laload, 36, false, false, 0, 0, 0, 0, 0, 0, []))]),
  (69, [(36, (.lastore, 37, false, false, 0, 0, 0, 0, 0, 0, [])), (37, (.iload_n 1, 38, false, false, 1, 0, 0, 0, 0, 0, [])), (38, (.iconst 1, 39, false, false, 0, 0, 0, 0, 1, 0, [])), (39, (.iadd, 40, false, false, 0, 0, 0, 0, 0, 0, [])), (40, (.ireturn, 41, false, false, 0, 0, 0, 0, 0, 0, [])), (41, (.iload_n 1, 42, false, false, 1, 0, 0, 0, 0, 0, [])), (42, (.bipush 11, 44, false, false, 0, 0, 0, 0, 11, 0, [])), (44, (.iload_n 0, 45, false, false, 0, 0, 0, 0, 0, 0, [])), (45, (.bipush (-15), 47, false, false, 0, 0, 0, 0, -15, 0, [])), (47, (.if_icmp .ne 7, 50, false, false, 54, 0, 0, 0, 0, 0, [])), (50, (.iconst 1, 51, false, false, 0, 0, 0, 0, 1, 0, [])), (51, (.goto 4, 54, false, true, 55, 0, 0, 0, 0, 0, [])), (54, (.iconst 2, 55, true, false, 0, 0, 0, 0, 2, 0, [])), (55, (.iadd, 56, false, false, 0, 0, 0, 0, 0, 0, [])), (56, (.if_icmp .lt 9, 59, false, false, 65, 0, 0, 0, 0, 0, [])), (59, (.iload_n 1, 60, false, false, 1, 0, 0, 0, 0, 0, [])), (60, (.aload_n 2, 61, false, false, 2, 0, 0, 0, 0, 0, [])), (61, (.arraylength, 62, false, false, 0, 0, 0, 0, 0, 0, [])), (62, (.if_icmp .le 5, 65, false, false, 67, 0, 0, 0, 0, 0, [])), (65, (.iload_n 1, 66, false, false, 1, 0, 0, 0, 0, 0, [])), (66, (.ireturn, 67, false, false, 0, 0, 0, 0, 0, 0, [])), (67, (.aload_n 2, 68, false, false, 2, 0, 0, 0, 0, 0, [])), (68, (.iload_n 1, 69, false, false, 1, 0, 0, 0, 0, 0, [])), (69, (.iconst 1, 70, false, false, 0, 0, 0, 0, 1, 0, []))]),
  (97, [(70, (.isub, 71, false, false, 0, 0, 0, 0, 0, 0, [])), (71, (.laload, 72, false, false, 0, 0, 0, 0, 0, 0, [])), (72, (.lstore_n 3, 73, false, false, 3, 4, 0, 0, 0, 0, [])), (73, (.iload_n 0, 74, false, false, 0, 0, 0, 0, 0, 0, [])), (74, (.bipush (-15), 76, false, false, 0, 0, 0, 0, -15, 0, [])), (76, (.if_icmp .ne 13, 79, false, false, 89, 0, 0, 0, 0, 0, [])), (79, (.aload_n 2, 80, false, false, 2, 0, 0, 0, 0, 0, [])), (80, (.iload_n 1, 81, false, false, 1, 0, 0, 0, 0, 0, [])), (81, (.iconst 1, 82, false, false, 0, 0, 0, 0, 1, 0, [])), (82, (.isub, 83, false, false, 0, 0, 0, 0, 0, 0, [])), (83, (.lconst 1, 84, false, false, 0, 0, 0, 0, 0, 1, [])), (84, (.lload_n 3, 85, false, false, 3, 0, 0, 0, 0, 0, [])), (85, (.lsub, 86, false, false, 0, 0, 0, 0, 0, 0, [])), (86, (.lastore, 87, false, false, 0, 0, 0, 0, 0, 0, [])), (87, (.iload_n 1, 88, false, false, 1, 0, 0, 0, 0, 0, [])), (88, (.ireturn, 89, false, false, 0, 0, 0, 0, 0, 0, [])), (89, (.aload_n 2, 90, false, false, 2, 0, 0, 0, 0, 0, [])), (90, (.iload_n 1, 91, false, false, 1, 0, 0, 0, 0, 0, [])), (91, (.iconst 2, 92, false, false, 0, 0, 0, 0, 2, 0, [])), (92, (.isub, 93, false, false, 0, 0, 0, 0, 0, 0, [])), (93, (.laload, 94, false, false, 0, 0, 0, 0, 0, 0, [])), (94, (.lstore 5, 96, false, false, 5, 6, 0, 0, 0, 0, [])), (96, (.iload_n 0, 97, false, false, 0, 0, 0, 0, 0, 0, [])), (97, (.bipush (-12), 99, false, false, 0, 0, 0, 0, -12, 0, []))]),
  (133, [(99, (.if_icmp .ne 15, 102, false, false, 114, 0, 0, 0, 0, 0, [])), (102, (.aload_n 2, 103, false, false, 2, 0, 0, 0, 0, 0, [])), (103, (.iload_n 1, 104, false, false, 1, 0, 0, 0, 0, 0, [])), (104, (.iconst 2, 105, false, false, 0, 0, 0, 0, 2, 0, [])), (105, (.isub, 106, false, false, 0, 0, 0, 0, 0, 0, [])), (106, (.lload 5, 108, false, false, 5, 0, 0, 0, 0, 0, [])), (108, (.lload_n 3, 109, false, false, 3, 0, 0, 0, 0, 0, [])), (109, (.ladd, 110, false, false, 0, 0, 0, 0, 0, 0, [])), (110, (.lastore, 111, false, false, 0, 0, 0, 0, 0, 0, [])), (111, (.goto 72, 114, false, false, 183, 0, 0, 0, 0, 0, [])), (114, (.iload_n 0, 115, false, false, 0, 0, 0, 0, 0, 0, [])), (115, (.bipush (-16), 117, false, false, 0, 0, 0, 0, -16, 0, [])), (117, (.if_icmp .ne 15, 120, false, false, 132, 0, 0, 0, 0, 0, [])), (120, (.aload_n 2, 121, false, false, 2, 0, 0, 0, 0, 0, [])), (121, (.iload_n 1, 122, false, false, 1, 0, 0, 0, 0, 0, [])), (122, (.iconst 2, 123, false, false, 0, 0, 0, 0, 2, 0, [])), (123, (.isub, 124, false, false, 0, 0, 0, 0, 0, 0, [])), (124, (.lload 5, 126, false, false, 5, 0, 0, 0, 0, 0, [])), (126, (.lload_n 3, 127, false, false, 3, 0, 0, 0, 0, 0, [])), (127, (.land, 128, false, false, 0, 0, 0, 0, 0, 0, [])), (128, (.lastore, 129, false, false, 0, 0, 0, 0, 0, 0, [])), (129, (.goto 54, 132, false, false, 183, 0, 0, 0, 0, 0, [])), (132, (.iload_n 0, 133, false, false, 0, 0, 0, 0, 0, 0, [])), (133, (.bipush (-17), 135, false, false, 0, 0, 0, 0, -17, 0, []))]),
  (172, [(135, (.if_icmp .ne 15, 138, false, false, 150, 0, 0, 0, 0, 0, [])), (138, (.aload_n 2, 139, false, false, 2, 0, 0, 0, 0, 0, [])), (139, (.iload_n 1, 140, false, false, 1, 0, 0, 0, 0, 0, [])), (140, (.iconst 2, 141, false, false, 0, 0, 0, 0, 2, 0, [])), (141, (.isub, 142, false, false, 0, 0, 0, 0, 0, 0, [])), (142, (.lload 5, 144, false, false, 5, 0, 0, 0, 0, 0, [])), (144, (.lload_n 3, 145, false, false, 3, 0, 0, 0, 0, 0, [])), (145, (.lor, 146, false, false, 0, 0, 0, 0, 0, 0, [])), (146, (.lastore, 147, false, false, 0, 0, 0, 0, 0, 0, [])), (147, (.goto 36, 150, false, false, 183, 0, 0, 0, 0, 0, [])), (150, (.aload_n 2, 151, false, false, 2, 0, 0, 0, 0, 0, [])), (151, (.iload_n 1, 152, false, false, 1, 0, 0, 0, 0, 0, [])), (152, (.iconst 2, 153, false, false, 0, 0, 0, 0, 2, 0, [])), (153, (.isub, 154, false, false, 0, 0, 0, 0, 0, 0, [])), (154, (.iload_n 0, 155, false, false, 0, 0, 0, 0, 0, 0, [])), (155, (.bipush (-13), 157, false, false, 0, 0, 0, 0, -13, 0, [])), (157, (.if_icmp .ne 13, 160, false, false, 170, 0, 0, 0, 0, 0, [])), (160, (.lload 5, 162, false, false, 5, 0, 0, 0, 0, 0, [])), (162, (.lload_n 3, 163, false, false, 3, 0, 0, 0, 0, 0, [])), (163, (.lcmp, 164, false, false, 0, 0, 0, 0, 0, 0, [])), (164, (.ifCond .ge 17, 167, false, false, 181, 0, 0, 0, 0, 0, [])), (167, (.goto 10, 170, false, false, 177, 0, 0, 0, 0, 0, [])), (170, (.lload 5, 172, false, false, 5, 0, 0, 0, 0, 0, [])), (172, (.lload_n 3, 173, false, false, 3, 0, 0, 0, 0, 0, []))]),
  (186, [(173, (.lcmp, 174, false, false, 0, 0, 0, 0, 0, 0, [])), (174, (.ifCond .le 7, 177, false, false, 181, 0, 0, 0, 0, 0, [])), (177, (.lconst 1, 178, false, false, 0, 0, 0, 0, 0, 1, [])), (178, (.goto 4, 181, false, false, 182, 0, 0, 0, 0, 0, [])), (181, (.lconst 0, 182, false, false, 0, 0, 0, 0, 0, 0, [])), (182, (.lastore, 183, false, false, 0, 0, 0, 0, 0, 0, [])), (183, (.iload_n 1, 184, false, false, 1, 0, 0, 0, 0, 0, [])), (184, (.iconst 1, 185, false, false, 0, 0, 0, 0, 1, 0, [])), (185, (.isub, 186, false, false, 0, 0, 0, 0, 0, 0, [])), (186, (.ireturn, 187, false, false, 0, 0, 0, 0, 0, 0, []))])], 0, [])
set_option maxRecDepth 100000 in
theorem v_X8_step : VE MYT dflT E_X8_step := ⟨⟨⟨⟨⟨dX8_step_0, rfl⟩, rfl⟩, ⟨⟨dX8_step_1, rfl⟩, rfl⟩, ⟨⟨dX8_step_3, rfl⟩, rfl⟩, ⟨⟨dX8_step_6, rfl⟩, rfl⟩, ⟨⟨dX8_step_7, rfl⟩, rfl⟩, ⟨⟨dX8_step_9, rfl⟩, rfl⟩, ⟨⟨dX8_step_12, rfl⟩, rfl⟩, ⟨⟨dX8_step_13, rfl⟩, rfl⟩, ⟨⟨dX8_step_14, rfl⟩, trivial⟩, ⟨⟨dX8_step_15, rfl⟩, rfl⟩, ⟨⟨dX8_step_18, rfl⟩, rfl⟩, ⟨⟨dX8_step_19, rfl⟩, Or.inl ⟨rfl, rfl⟩⟩, ⟨⟨dX8_step_20, rfl⟩, rfl⟩, ⟨⟨dX8_step_21, rfl⟩, rfl⟩, ⟨⟨dX8_step_22, rfl⟩, rfl⟩, ⟨⟨dX8_step_23, rfl⟩, rfl⟩, ⟨⟨dX8_step_26, rfl⟩, rfl⟩, ⟨⟨dX8_step_27, rfl⟩, trivial⟩, ⟨⟨dX8_step_28, rfl⟩, rfl⟩, ⟨⟨dX8_step_31, rfl⟩, rfl⟩, ⟨⟨dX8_step_32, rfl⟩, rfl⟩, ⟨⟨dX8_step_33, rfl⟩, rfl⟩, ⟨⟨dX8_step_34, rfl⟩, trivial⟩, ⟨⟨dX8_step_35, rfl⟩, trivial⟩, trivial⟩,
  ⟨⟨⟨dX8_step_36, rfl⟩, trivial⟩, ⟨⟨dX8_step_37, rfl⟩, rfl⟩, ⟨⟨dX8_step_38, rfl⟩, rfl⟩, ⟨⟨dX8_step_39, rfl⟩, trivial⟩, ⟨⟨dX8_step_40, rfl⟩, Or.inl ⟨rfl, rfl⟩⟩, ⟨⟨dX8_step_41, rfl⟩, rfl⟩, ⟨⟨dX8_step_42, rfl⟩, rfl⟩, ⟨⟨dX8_step_44, rfl⟩, rfl⟩, ⟨⟨dX8_step_45, rfl⟩, rfl⟩, ⟨⟨dX8_step_47, rfl⟩, rfl⟩, ⟨⟨dX8_step_50, rfl⟩, rfl⟩, ⟨⟨dX8_step_51, rfl⟩, rfl⟩, ⟨⟨dX8_step_54, rfl⟩, rfl⟩, ⟨⟨dX8_step_55, rfl⟩, trivial⟩, ⟨⟨dX8_step_56, rfl⟩, rfl⟩, ⟨⟨dX8_step_59, rfl⟩, rfl⟩, ⟨⟨dX8_step_60, rfl⟩, rfl⟩, ⟨⟨dX8_step_61, rfl⟩, trivial⟩, ⟨⟨dX8_step_62, rfl⟩, rfl⟩, ⟨⟨dX8_step_65, rfl⟩, rfl⟩, ⟨⟨dX8_step_66, rfl⟩, Or.inl ⟨rfl, rfl⟩⟩, ⟨⟨dX8_step_67, rfl⟩, rfl⟩, ⟨⟨dX8_step_68, rfl⟩, rfl⟩, ⟨⟨dX8_step_69, rfl⟩, rfl⟩, trivial⟩,
  ⟨⟨⟨dX8_step_70, rfl⟩, trivial⟩, ⟨⟨dX8_step_71, rfl⟩, trivial⟩, ⟨⟨dX8_step_72, rfl⟩, ⟨rfl, rfl⟩⟩, ⟨⟨dX8_step_73, rfl⟩, rfl⟩, ⟨⟨dX8_step_74, rfl⟩, rfl⟩, ⟨⟨dX8_step_76, rfl⟩, rfl⟩, ⟨⟨dX8_step_79, rfl⟩, rfl⟩, ⟨⟨dX8_step_80, rfl⟩, rfl⟩, ⟨⟨dX8_step_81, rfl⟩, rfl⟩, ⟨⟨dX8_step_82, rfl⟩, trivial⟩, ⟨⟨dX8_step_83, rfl⟩, rfl⟩, ⟨⟨dX8_step_84, rfl⟩, rfl⟩, ⟨⟨dX8_step_85, rfl⟩, trivial⟩, ⟨⟨dX8_step_86, rfl⟩, trivial⟩, ⟨⟨dX8_step_87, rfl⟩, rfl⟩, ⟨⟨dX8_step_88, rfl⟩, Or.inl ⟨rfl, rfl⟩⟩, ⟨⟨dX8_step_89, rfl⟩, rfl⟩, ⟨⟨dX8_step_90, rfl⟩, rfl⟩, ⟨⟨dX8_step_91, rfl⟩, rfl⟩, ⟨⟨dX8_step_92, rfl⟩, trivial⟩, ⟨⟨dX8_step_93, rfl⟩, trivial⟩, ⟨⟨dX8_step_94, rfl⟩, ⟨rfl, rfl⟩⟩, ⟨⟨dX8_step_96, rfl⟩, rfl⟩, ⟨⟨dX8_step_97, rfl⟩, rfl⟩, trivial⟩,
  ⟨⟨⟨dX8_step_99, rfl⟩, rfl⟩, ⟨⟨dX8_step_102, rfl⟩, rfl⟩, ⟨⟨dX8_step_103, rfl⟩, rfl⟩, ⟨⟨dX8_step_104, rfl⟩, rfl⟩, ⟨⟨dX8_step_105, rfl⟩, trivial⟩, ⟨⟨dX8_step_106, rfl⟩, rfl⟩, ⟨⟨dX8_step_108, rfl⟩, rfl⟩, ⟨⟨dX8_step_109, rfl⟩, trivial⟩, ⟨⟨dX8_step_110, rfl⟩, trivial⟩, ⟨⟨dX8_step_111, rfl⟩, rfl⟩, ⟨⟨dX8_step_114, rfl⟩, rfl⟩, ⟨⟨dX8_step_115, rfl⟩, rfl⟩, ⟨⟨dX8_step_117, rfl⟩, rfl⟩, ⟨⟨dX8_step_120, rfl⟩, rfl⟩, ⟨⟨dX8_step_121, rfl⟩, rfl⟩, ⟨⟨dX8_step_122, rfl⟩, rfl⟩, ⟨⟨dX8_step_123, rfl⟩, trivial⟩, ⟨⟨dX8_step_124, rfl⟩, rfl⟩, ⟨⟨dX8_step_126, rfl⟩, rfl⟩, ⟨⟨dX8_step_127, rfl⟩, trivial⟩, ⟨⟨dX8_step_128, rfl⟩, trivial⟩, ⟨⟨dX8_step_129, rfl⟩, rfl⟩, ⟨⟨dX8_step_132, rfl⟩, rfl⟩, ⟨⟨dX8_step_133, rfl⟩, rfl⟩, trivial⟩,
  ⟨⟨⟨dX8_step_135, rfl⟩, rfl⟩, ⟨⟨dX8_step_138, rfl⟩, rfl⟩, ⟨⟨dX8_step_139, rfl⟩, rfl⟩, ⟨⟨dX8_step_140, rfl⟩, rfl⟩, ⟨⟨dX8_step_141, rfl⟩, trivial⟩, ⟨⟨dX8_step_142, rfl⟩, rfl⟩, ⟨⟨dX8_step_144, rfl⟩, rfl⟩, ⟨⟨dX8_step_145, rfl⟩, trivial⟩, ⟨⟨dX8_step_146, rfl⟩, trivial⟩, ⟨⟨dX8_step_147, rfl⟩, rfl⟩, ⟨⟨dX8_step_150, rfl⟩, rfl⟩, ⟨⟨dX8_step_151, rfl⟩, rfl⟩, ⟨⟨dX8_step_152, rfl⟩, rfl⟩, ⟨⟨dX8_step_153, rfl⟩, trivial⟩, ⟨⟨dX8_step_154, rfl⟩, rfl⟩, ⟨⟨dX8_step_155, rfl⟩, rfl⟩, ⟨⟨dX8_step_157, rfl⟩, rfl⟩, ⟨⟨dX8_step_160, rfl⟩, rfl⟩, ⟨⟨dX8_step_162, rfl⟩, rfl⟩, ⟨⟨dX8_step_163, rfl⟩, trivial⟩, ⟨⟨dX8_step_164, rfl⟩, rfl⟩, ⟨⟨dX8_step_167, rfl⟩, rfl⟩, ⟨⟨dX8_step_170, rfl⟩, rfl⟩, ⟨⟨dX8_step_172, rfl⟩, rfl⟩, trivial⟩,
  ⟨⟨⟨dX8_step_173, rfl⟩, trivial⟩, ⟨⟨dX8_step_174, rfl⟩, rfl⟩, ⟨⟨dX8_step_177, rfl⟩, rfl⟩, ⟨⟨dX8_step_178, rfl⟩, rfl⟩, ⟨⟨dX8_step_181, rfl⟩, rfl⟩, ⟨⟨dX8_step_182, rfl⟩, trivial⟩, ⟨⟨dX8_step_183, rfl⟩, rfl⟩, ⟨⟨dX8_step_184, rfl⟩, rfl⟩, ⟨⟨dX8_step_185, rfl⟩, trivial⟩, ⟨⟨dX8_step_186, rfl⟩, Or.inl ⟨rfl, rfl⟩⟩, trivial⟩, trivial⟩, by decide, Or.inl ⟨rfl, by decide, rfl⟩⟩
set_option maxRecDepth 100000 in
theorem g_X8_step_0 (S : sT) (call : cT) (n : Nat) (x0 : Int32) (x1 : Int32) (v2 : Value) (h : pH) : bd S call dflT E_X8_step (n + 1) 0 [some (.int x0), some (.int x1), some (v2), none, none, none, none] [] h = ((if x0 ≤ (-12) then (if x0 = (-15) then bd S call dflT E_X8_step n 55 [some (.int x0), some (.int x1), some (v2), none, none, none, none] [.int 1, .int 11, .int x1] h else bd S call dflT E_X8_step n 55 [some (.int x0), some (.int x1), some (v2), none, none, none, none] [.int 2, .int 11, .int x1] h) else (if x1 < 11 then some (.inl (some (.int x1)), h) else iA v2 (aLen h v2 (fun y1 => (if x1 < y1 then iA v2 ((if x0 < 0 then iA v2 (aJ h v2 ((-1) - x0) (fun y2 => sJ h v2 x1 y2 (fun h3 => some (.inl (some (.int (x1 + 1))), h3)))) else sJ h v2 x1 x0.toInt64 (fun h4 => some (.inl (some (.int (x1 + 1))), h4)))) else some (.inl (some (.int x1)), h))))))) := rfl
set_option maxRecDepth 100000 in
theorem g_X8_step_55 (S : sT) (call : cT) (n : Nat) (x0 : Int32) (x1 : Int32) (v2 : Value) (o3 : Option Value) (o4 : Option Value) (o5 : Option Value) (o6 : Option Value) (y0 : Int32) (y1 : Int32) (y2 : Int32) (h : pH) : bd S call dflT E_X8_step (n + 1) 55 [some (.int x0), some (.int x1), some (v2), o3, o4, o5, o6] [.int y2, .int y1, .int y0] h = ((if y0 < (y1 + y2) then some (.inl (some (.int x1)), h) else iA v2 (aLen h v2 (fun y1 => (if x1 ≤ y1 then iA v2 (aJ h v2 (x1 - 1) (fun y2 => nl v2 ((if x0 = (-15) then iA v2 (sJ h v2 (x1 - 1) (1 - y2) (fun h11 => some (.inl (some (.int x1)), h11))) else iA v2 (aJ h v2 (x1 - 2) (fun y3 => (if x0 = (-12) then iA v2 (sJ h v2 (x1 - 2) (y3 + y2) (fun h10 => some (.inl (some (.int (x1 - 1))), h10))) else (if x0 = (-16) then iA v2 (sJ h v2 (x1 - 2) (y3 &&& y2) (fun h9 => some (.inl (some (.int (x1 - 1))), h9))) else (if x0 = (-17) then iA v2 (sJ h v2 (x1 - 2) (y3 ||| y2) (fun h8 => some (.inl (some (.int (x1 - 1))), h8))) else iA v2 ((if x0 = (-13) then (if 0 ≤ (lg_cmp y3 y2) then sJ h v2 (x1 - 2) 0 (fun h6 => some (.inl (some (.int (x1 - 1))), h6)) else sJ h v2 (x1 - 2) 1 (fun h7 => some (.inl (some (.int (x1 - 1))), h7))) else (if (lg_cmp y3 y2) ≤ 0 then sJ h v2 (x1 - 2) 0 (fun h4 => some (.inl (some (.int (x1 - 1))), h4)) else sJ h v2 (x1 - 2) 1 (fun h5 => some (.inl (some (.int (x1 - 1))), h5)))))))))))))) else some (.inl (some (.int x1)), h)))))) := rfl
theorem dX8_holds_0 : decode cX8_holds 0 = .ok (.bipush 6, 2) := by decide +kernel
theorem dX8_holds_2 : decode cX8_holds 2 = .ok (.aload_n 0, 1) := by decide +kernel
theorem dX8_holds_3 : decode cX8_holds 3 = .ok (.getfield 11, 3) := by decide +kernel
theorem dX8_holds_6 : decode cX8_holds 6 = .ok (.imul, 1) := by decide +kernel
theorem dX8_holds_7 : decode cX8_holds 7 = .ok (.aload_n 0, 1) := by decide +kernel
theorem dX8_holds_8 : decode cX8_holds 8 = .ok (.iconst 5, 1) := by decide +kernel
theorem dX8_holds_9 : decode cX8_holds 9 = .ok (.iload_n 1, 1) := by decide +kernel
theorem dX8_holds_10 : decode cX8_holds 10 = .ok (.invokevirtual 19, 3) := by decide +kernel
theorem dX8_holds_13 : decode cX8_holds 13 = .ok (.iadd, 1) := by decide +kernel
theorem dX8_holds_14 : decode cX8_holds 14 = .ok (.istore_n 3, 1) := by decide +kernel
theorem dX8_holds_15 : decode cX8_holds 15 = .ok (.bipush 11, 2) := by decide +kernel
theorem dX8_holds_17 : decode cX8_holds 17 = .ok (.istore 4, 2) := by decide +kernel
theorem dX8_holds_19 : decode cX8_holds 19 = .ok (.bipush 6, 2) := by decide +kernel
theorem dX8_holds_21 : decode cX8_holds 21 = .ok (.aload_n 0, 1) := by decide +kernel
theorem dX8_holds_22 : decode cX8_holds 22 = .ok (.getfield 11, 3) := by decide +kernel
theorem dX8_holds_25 : decode cX8_holds 25 = .ok (.imul, 1) := by decide +kernel
theorem dX8_holds_26 : decode cX8_holds 26 = .ok (.aload_n 0, 1) := by decide +kernel
theorem dX8_holds_27 : decode cX8_holds 27 = .ok (.iconst 4, 1) := by decide +kernel
theorem dX8_holds_28 : decode cX8_holds 28 = .ok (.iload_n 1, 1) := by decide +kernel
theorem dX8_holds_29 : decode cX8_holds 29 = .ok (.invokevirtual 19, 3) := by decide +kernel
theorem dX8_holds_32 : decode cX8_holds 32 = .ok (.iadd, 1) := by decide +kernel
theorem dX8_holds_33 : decode cX8_holds 33 = .ok (.istore 5, 2) := by decide +kernel
theorem dX8_holds_35 : decode cX8_holds 35 = .ok (.iload 5, 2) := by decide +kernel
theorem dX8_holds_37 : decode cX8_holds 37 = .ok (.iload_n 3, 1) := by decide +kernel
theorem dX8_holds_38 : decode cX8_holds 38 = .ok (.if_icmp .ge 34, 3) := by decide +kernel
theorem dX8_holds_41 : decode cX8_holds 41 = .ok (.iload 5, 2) := by decide +kernel
theorem dX8_holds_43 : decode cX8_holds 43 = .ok (.aload_n 0, 1) := by decide +kernel
theorem dX8_holds_44 : decode cX8_holds 44 = .ok (.getfield 15, 3) := by decide +kernel
theorem dX8_holds_47 : decode cX8_holds 47 = .ok (.arraylength, 1) := by decide +kernel
theorem dX8_holds_48 : decode cX8_holds 48 = .ok (.if_icmp .ge 24, 3) := by decide +kernel
theorem dX8_holds_51 : decode cX8_holds 51 = .ok (.aload_n 0, 1) := by decide +kernel
theorem dX8_holds_52 : decode cX8_holds 52 = .ok (.getfield 15, 3) := by decide +kernel
theorem dX8_holds_55 : decode cX8_holds 55 = .ok (.iload 5, 2) := by decide +kernel
theorem dX8_holds_57 : decode cX8_holds 57 = .ok (.iaload, 1) := by decide +kernel
theorem dX8_holds_58 : decode cX8_holds 58 = .ok (.iload 4, 2) := by decide +kernel
theorem dX8_holds_60 : decode cX8_holds 60 = .ok (.aload_n 2, 1) := by decide +kernel
theorem dX8_holds_61 : decode cX8_holds 61 = .ok (.invokestatic 23, 3) := by decide +kernel
theorem dX8_holds_64 : decode cX8_holds 64 = .ok (.istore 4, 2) := by decide +kernel
theorem dX8_holds_66 : decode cX8_holds 66 = .ok (.iinc 5 1, 3) := by decide +kernel
theorem dX8_holds_69 : decode cX8_holds 69 = .ok (.goto (-34), 3) := by decide +kernel
theorem dX8_holds_72 : decode cX8_holds 72 = .ok (.iload 4, 2) := by decide +kernel
theorem dX8_holds_74 : decode cX8_holds 74 = .ok (.bipush 11, 2) := by decide +kernel
theorem dX8_holds_76 : decode cX8_holds 76 = .ok (.if_icmp .le 12, 3) := by decide +kernel
theorem dX8_holds_79 : decode cX8_holds 79 = .ok (.aload_n 2, 1) := by decide +kernel
theorem dX8_holds_80 : decode cX8_holds 80 = .ok (.bipush 11, 2) := by decide +kernel
theorem dX8_holds_82 : decode cX8_holds 82 = .ok (.laload, 1) := by decide +kernel
theorem dX8_holds_83 : decode cX8_holds 83 = .ok (.lconst 0, 1) := by decide +kernel
theorem dX8_holds_84 : decode cX8_holds 84 = .ok (.lcmp, 1) := by decide +kernel
theorem dX8_holds_85 : decode cX8_holds 85 = .ok (.ifCond .eq 7, 3) := by decide +kernel
theorem dX8_holds_88 : decode cX8_holds 88 = .ok (.iconst 1, 1) := by decide +kernel
theorem dX8_holds_89 : decode cX8_holds 89 = .ok (.goto 4, 3) := by decide +kernel
theorem dX8_holds_92 : decode cX8_holds 92 = .ok (.iconst 0, 1) := by decide +kernel
theorem dX8_holds_93 : decode cX8_holds 93 = .ok (.ireturn, 1) := by decide +kernel
noncomputable def E_X8_holds : mE := (mX8_holds, [(37, [(0, (.bipush 6, 2, false, false, 0, 0, 0, 0, 6, 0, [])), (2, (.aload_n 0, 3, false, false, 0, 0, 0, 0, 0, 0, [])), (3, (.getfield 11, 6, false, false, 11, 0, 0, 0, 0, 0, [])), (6, (.imul, 7, false, false, 0, 0, 0, 0, 0, 0, [])), (7, (.aload_n 0, 8, false, false, 0, 0, 0, 0, 0, 0, [])), (8, (.iconst 5, 9, false, false, 0, 0, 0, 0, 5, 0, [])), (9, (.iload_n 1, 10, false, false, 1, 0, 0, 0, 0, 0, [])), (10, (.invokevirtual 19, 13, false, false, 88, 2, 1, 11, 0, 0, [])), (13, (.iadd, 14, false, false, 0, 0, 0, 0, 0, 0, [])), (14, (.istore_n 3, 15, false, false, 3, 0, 0, 0, 0, 0, [])), (15, (.bipush 11, 17, false, false, 0, 0, 0, 0, 11, 0, [])), (17, (.istore 4, 19, false, false, 4, 0, 0, 0, 0, 0, [])), (19, (.bipush 6, 21, false, false, 0, 0, 0, 0, 6, 0, [])), (21, (.aload_n 0, 22, false, false, 0, 0, 0, 0, 0, 0, [])), (22, (.getfield 11, 25, false, false, 11, 0, 0, 0, 0, 0, [])), (25, (.imul, 26, false, false, 0, 0, 0, 0, 0, 0, [])), (26, (.aload_n 0, 27, false, false, 0, 0, 0, 0, 0, 0, [])), (27, (.iconst 4, 28, false, false, 0, 0, 0, 0, 4, 0, [])), (28, (.iload_n 1, 29, false, false, 1, 0, 0, 0, 0, 0, [])), (29, (.invokevirtual 19, 32, false, false, 88, 2, 1, 11, 0, 0, [])), (32, (.iadd, 33, false, false, 0, 0, 0, 0, 0, 0, [])), (33, (.istore 5, 35, true, false, 5, 0, 0, 0, 0, 0, [])), (35, (.iload 5, 37, false, false, 5, 0, 0, 0, 0, 0, [])), (37, (.iload_n 3, 38, false, false, 3, 0, 0, 0, 0, 0, []))]),
  (84, [(38, (.if_icmp .ge 34, 41, false, true, 72, 0, 0, 0, 0, 0, [])), (41, (.iload 5, 43, false, false, 5, 0, 0, 0, 0, 0, [])), (43, (.aload_n 0, 44, false, false, 0, 0, 0, 0, 0, 0, [])), (44, (.getfield 15, 47, false, false, 11, 1, 1, 0, 0, 0, [])), (47, (.arraylength, 48, false, false, 0, 0, 0, 0, 0, 0, [])), (48, (.if_icmp .ge 24, 51, false, true, 72, 0, 0, 0, 0, 0, [])), (51, (.aload_n 0, 52, false, false, 0, 0, 0, 0, 0, 0, [])), (52, (.getfield 15, 55, false, false, 11, 1, 1, 0, 0, 0, [])), (55, (.iload 5, 57, false, false, 5, 0, 0, 0, 0, 0, [])), (57, (.iaload, 58, false, false, 0, 0, 0, 0, 0, 0, [])), (58, (.iload 4, 60, false, false, 4, 0, 0, 0, 0, 0, [])), (60, (.aload_n 2, 61, false, false, 2, 0, 0, 0, 0, 0, [])), (61, (.invokestatic 23, 64, false, false, 198, 3, 1, 0, 0, 0, [])), (64, (.istore 4, 66, false, false, 4, 0, 0, 0, 0, 0, [])), (66, (.iinc 5 1, 69, false, false, 5, 0, 0, 0, 1, 0, [])), (69, (.goto (-34), 72, false, true, 35, 0, 0, 0, 0, 0, [])), (72, (.iload 4, 74, false, false, 4, 0, 0, 0, 0, 0, [])), (74, (.bipush 11, 76, false, false, 0, 0, 0, 0, 11, 0, [])), (76, (.if_icmp .le 12, 79, false, false, 88, 0, 0, 0, 0, 0, [])), (79, (.aload_n 2, 80, false, false, 2, 0, 0, 0, 0, 0, [])), (80, (.bipush 11, 82, false, false, 0, 0, 0, 0, 11, 0, [])), (82, (.laload, 83, false, false, 0, 0, 0, 0, 0, 0, [])), (83, (.lconst 0, 84, false, false, 0, 0, 0, 0, 0, 0, [])), (84, (.lcmp, 85, false, false, 0, 0, 0, 0, 0, 0, []))]),
  (93, [(85, (.ifCond .eq 7, 88, false, false, 92, 0, 0, 0, 0, 0, [])), (88, (.iconst 1, 89, false, false, 0, 0, 0, 0, 1, 0, [])), (89, (.goto 4, 92, false, false, 93, 0, 0, 0, 0, 0, [])), (92, (.iconst 0, 93, false, false, 0, 0, 0, 0, 0, 0, [])), (93, (.ireturn, 94, false, false, 0, 0, 1, 0, 0, 0, []))])], 0, [])
set_option maxRecDepth 100000 in
theorem v_X8_holds : VE MYT dflT E_X8_holds := ⟨⟨⟨⟨⟨dX8_holds_0, rfl⟩, rfl⟩, ⟨⟨dX8_holds_2, rfl⟩, rfl⟩, ⟨⟨dX8_holds_3, rfl⟩, Or.inl ⟨by decide, _, _, fX8_11⟩⟩, ⟨⟨dX8_holds_6, rfl⟩, trivial⟩, ⟨⟨dX8_holds_7, rfl⟩, rfl⟩, ⟨⟨dX8_holds_8, rfl⟩, rfl⟩, ⟨⟨dX8_holds_9, rfl⟩, rfl⟩, ⟨⟨dX8_holds_10, rfl⟩, Or.inr ⟨by decide, ⟨_, my_88, sX8_19⟩, fun q => absurd q (by decide)⟩⟩, ⟨⟨dX8_holds_13, rfl⟩, trivial⟩, ⟨⟨dX8_holds_14, rfl⟩, rfl⟩, ⟨⟨dX8_holds_15, rfl⟩, rfl⟩, ⟨⟨dX8_holds_17, rfl⟩, rfl⟩, ⟨⟨dX8_holds_19, rfl⟩, rfl⟩, ⟨⟨dX8_holds_21, rfl⟩, rfl⟩, ⟨⟨dX8_holds_22, rfl⟩, Or.inl ⟨by decide, _, _, fX8_11⟩⟩, ⟨⟨dX8_holds_25, rfl⟩, trivial⟩, ⟨⟨dX8_holds_26, rfl⟩, rfl⟩, ⟨⟨dX8_holds_27, rfl⟩, rfl⟩, ⟨⟨dX8_holds_28, rfl⟩, rfl⟩, ⟨⟨dX8_holds_29, rfl⟩, Or.inr ⟨by decide, ⟨_, my_88, sX8_19⟩, fun q => absurd q (by decide)⟩⟩, ⟨⟨dX8_holds_32, rfl⟩, trivial⟩, ⟨⟨dX8_holds_33, rfl⟩, rfl⟩, ⟨⟨dX8_holds_35, rfl⟩, rfl⟩, ⟨⟨dX8_holds_37, rfl⟩, rfl⟩, trivial⟩,
  ⟨⟨⟨dX8_holds_38, rfl⟩, rfl⟩, ⟨⟨dX8_holds_41, rfl⟩, rfl⟩, ⟨⟨dX8_holds_43, rfl⟩, rfl⟩, ⟨⟨dX8_holds_44, rfl⟩, Or.inl ⟨by decide, _, _, fX8_15⟩⟩, ⟨⟨dX8_holds_47, rfl⟩, trivial⟩, ⟨⟨dX8_holds_48, rfl⟩, rfl⟩, ⟨⟨dX8_holds_51, rfl⟩, rfl⟩, ⟨⟨dX8_holds_52, rfl⟩, Or.inl ⟨by decide, _, _, fX8_15⟩⟩, ⟨⟨dX8_holds_55, rfl⟩, rfl⟩, ⟨⟨dX8_holds_57, rfl⟩, trivial⟩, ⟨⟨dX8_holds_58, rfl⟩, rfl⟩, ⟨⟨dX8_holds_60, rfl⟩, rfl⟩, ⟨⟨dX8_holds_61, rfl⟩, Or.inl ⟨rfl, _, my_198, sX8_23⟩⟩, ⟨⟨dX8_holds_64, rfl⟩, rfl⟩, ⟨⟨dX8_holds_66, rfl⟩, ⟨rfl, rfl⟩⟩, ⟨⟨dX8_holds_69, rfl⟩, rfl⟩, ⟨⟨dX8_holds_72, rfl⟩, rfl⟩, ⟨⟨dX8_holds_74, rfl⟩, rfl⟩, ⟨⟨dX8_holds_76, rfl⟩, rfl⟩, ⟨⟨dX8_holds_79, rfl⟩, rfl⟩, ⟨⟨dX8_holds_80, rfl⟩, rfl⟩, ⟨⟨dX8_holds_82, rfl⟩, trivial⟩, ⟨⟨dX8_holds_83, rfl⟩, rfl⟩, ⟨⟨dX8_holds_84, rfl⟩, trivial⟩, trivial⟩,
  ⟨⟨⟨dX8_holds_85, rfl⟩, rfl⟩, ⟨⟨dX8_holds_88, rfl⟩, rfl⟩, ⟨⟨dX8_holds_89, rfl⟩, rfl⟩, ⟨⟨dX8_holds_92, rfl⟩, rfl⟩, ⟨⟨dX8_holds_93, rfl⟩, Or.inr (Or.inl ⟨rfl, rfl⟩)⟩, trivial⟩, trivial⟩, by decide, Or.inl ⟨rfl, by decide, rfl⟩⟩
set_option maxRecDepth 100000 in
theorem g_X8_holds_0 (S : sT) (call : cT) (n : Nat) (a0 : Nat) (x1 : Int32) (v2 : Value) (h : pH) : bd S call dflT E_X8_holds (n + 1) 0 [some (.ref a0), some (.int x1), some (v2), none, none, none] [] h = (gI h (.ref a0) 11 0 (fun y1 => rC h (.ref a0) 11 (cI (call 88 [.ref a0, .int 5, .int x1] h) (fun y3 h2 => nl v2 (gI h2 (.ref a0) 11 0 (fun y4 => rC h2 (.ref a0) 11 (cI (call 88 [.ref a0, .int 4, .int x1] h2) (fun y6 h5 => bd S call dflT E_X8_holds n 35 [some (.ref a0), some (.int x1), some (v2), some (.int ((6 * y1) + y3)), some (.int 11), some (.int ((6 * y4) + y6))] [] h5)))))))) := rfl
set_option maxRecDepth 100000 in
theorem g_X8_holds_35 (S : sT) (call : cT) (n : Nat) (a0 : Nat) (x1 : Int32) (v2 : Value) (x3 : Int32) (x4 : Int32) (x5 : Int32) (h : pH) : bd S call dflT E_X8_holds (n + 1) 35 [some (.ref a0), some (.int x1), some (v2), some (.int x3), some (.int x4), some (.int x5)] [] h = ((if x3 ≤ x5 then bd S call dflT E_X8_holds n 72 [some (.ref a0), some (.int x1), some (v2), some (.int x3), some (.int x4), some (.int x5)] [] h else gV h (.ref a0) 11 1 (fun w1 => aLen h w1 (fun y2 => (if y2 ≤ x5 then bd S call dflT E_X8_holds n 72 [some (.ref a0), some (.int x1), some (v2), some (.int x3), some (.int x4), some (.int x5)] [] h else gV h (.ref a0) 11 1 (fun w3 => aI h w3 0 x5 (fun y4 => iA v2 (cI (call 198 [.int y4, .int x4, v2] h) (fun y6 h5 => bd S call dflT E_X8_holds n 35 [some (.ref a0), some (.int x1), some (v2), some (.int x3), some (.int y6), some (.int (x5 + 1))] [] h5))))))))) := rfl
set_option maxRecDepth 100000 in
theorem g_X8_holds_72 (S : sT) (call : cT) (n : Nat) (a0 : Nat) (x1 : Int32) (v2 : Value) (x3 : Int32) (x4 : Int32) (x5 : Int32) (h : pH) : bd S call dflT E_X8_holds (n + 1) 72 [some (.ref a0), some (.int x1), some (v2), some (.int x3), some (.int x4), some (.int x5)] [] h = ((if x4 ≤ 11 then zR 1 (some (.inl (some (.int 1)), h)) else iA v2 (aJ h v2 11 (fun y1 => (if (lg_cmp y1 0) = 0 then zR 0 (some (.inl (some (.int 0)), h)) else zR 1 (some (.inl (some (.int 1)), h))))))) := rfl
theorem dX8_sumHolding_0 : decode cX8_sumHolding 0 = .ok (.iconst 0, 1) := by decide +kernel
theorem dX8_sumHolding_1 : decode cX8_sumHolding 1 = .ok (.istore_n 3, 1) := by decide +kernel
theorem dX8_sumHolding_2 : decode cX8_sumHolding 2 = .ok (.iconst 0, 1) := by decide +kernel
theorem dX8_sumHolding_3 : decode cX8_sumHolding 3 = .ok (.istore 4, 2) := by decide +kernel
theorem dX8_sumHolding_5 : decode cX8_sumHolding 5 = .ok (.iload 4, 2) := by decide +kernel
theorem dX8_sumHolding_7 : decode cX8_sumHolding 7 = .ok (.aload_n 0, 1) := by decide +kernel
theorem dX8_sumHolding_8 : decode cX8_sumHolding 8 = .ok (.getfield 11, 3) := by decide +kernel
theorem dX8_sumHolding_11 : decode cX8_sumHolding 11 = .ok (.if_icmp .ge 40, 3) := by decide +kernel
theorem dX8_sumHolding_14 : decode cX8_sumHolding 14 = .ok (.aload_n 0, 1) := by decide +kernel
theorem dX8_sumHolding_15 : decode cX8_sumHolding 15 = .ok (.iconst 0, 1) := by decide +kernel
theorem dX8_sumHolding_16 : decode cX8_sumHolding 16 = .ok (.iload 4, 2) := by decide +kernel
theorem dX8_sumHolding_18 : decode cX8_sumHolding 18 = .ok (.invokevirtual 19, 3) := by decide +kernel
theorem dX8_sumHolding_21 : decode cX8_sumHolding 21 = .ok (.iload_n 1, 1) := by decide +kernel
theorem dX8_sumHolding_22 : decode cX8_sumHolding 22 = .ok (.if_icmp .ne 23, 3) := by decide +kernel
theorem dX8_sumHolding_25 : decode cX8_sumHolding 25 = .ok (.aload_n 0, 1) := by decide +kernel
theorem dX8_sumHolding_26 : decode cX8_sumHolding 26 = .ok (.iload 4, 2) := by decide +kernel
theorem dX8_sumHolding_28 : decode cX8_sumHolding 28 = .ok (.aload_n 2, 1) := by decide +kernel
theorem dX8_sumHolding_29 : decode cX8_sumHolding 29 = .ok (.invokevirtual 27, 3) := by decide +kernel
theorem dX8_sumHolding_32 : decode cX8_sumHolding 32 = .ok (.ifCond .eq 13, 3) := by decide +kernel
theorem dX8_sumHolding_35 : decode cX8_sumHolding 35 = .ok (.iload_n 3, 1) := by decide +kernel
theorem dX8_sumHolding_36 : decode cX8_sumHolding 36 = .ok (.aload_n 0, 1) := by decide +kernel
theorem dX8_sumHolding_37 : decode cX8_sumHolding 37 = .ok (.iconst 1, 1) := by decide +kernel
theorem dX8_sumHolding_38 : decode cX8_sumHolding 38 = .ok (.iload 4, 2) := by decide +kernel
theorem dX8_sumHolding_40 : decode cX8_sumHolding 40 = .ok (.invokevirtual 19, 3) := by decide +kernel
theorem dX8_sumHolding_43 : decode cX8_sumHolding 43 = .ok (.iadd, 1) := by decide +kernel
theorem dX8_sumHolding_44 : decode cX8_sumHolding 44 = .ok (.istore_n 3, 1) := by decide +kernel
theorem dX8_sumHolding_45 : decode cX8_sumHolding 45 = .ok (.iinc 4 1, 3) := by decide +kernel
theorem dX8_sumHolding_48 : decode cX8_sumHolding 48 = .ok (.goto (-43), 3) := by decide +kernel
theorem dX8_sumHolding_51 : decode cX8_sumHolding 51 = .ok (.iload_n 3, 1) := by decide +kernel
theorem dX8_sumHolding_52 : decode cX8_sumHolding 52 = .ok (.ireturn, 1) := by decide +kernel
noncomputable def E_X8_sumHolding : mE := (mX8_sumHolding, [(40, [(0, (.iconst 0, 1, false, false, 0, 0, 0, 0, 0, 0, [])), (1, (.istore_n 3, 2, false, false, 3, 0, 0, 0, 0, 0, [])), (2, (.iconst 0, 3, false, false, 0, 0, 0, 0, 0, 0, [])), (3, (.istore 4, 5, true, false, 4, 0, 0, 0, 0, 0, [])), (5, (.iload 4, 7, false, false, 4, 0, 0, 0, 0, 0, [])), (7, (.aload_n 0, 8, false, false, 0, 0, 0, 0, 0, 0, [])), (8, (.getfield 11, 11, false, false, 11, 0, 0, 0, 0, 0, [])), (11, (.if_icmp .ge 40, 14, false, false, 51, 0, 0, 0, 0, 0, [])), (14, (.aload_n 0, 15, false, false, 0, 0, 0, 0, 0, 0, [])), (15, (.iconst 0, 16, false, false, 0, 0, 0, 0, 0, 0, [])), (16, (.iload 4, 18, false, false, 4, 0, 0, 0, 0, 0, [])), (18, (.invokevirtual 19, 21, false, false, 88, 2, 1, 11, 0, 0, [])), (21, (.iload_n 1, 22, false, false, 1, 0, 0, 0, 0, 0, [])), (22, (.if_icmp .ne 23, 25, false, false, 45, 0, 0, 0, 0, 0, [])), (25, (.aload_n 0, 26, false, false, 0, 0, 0, 0, 0, 0, [])), (26, (.iload 4, 28, false, false, 4, 0, 0, 0, 0, 0, [])), (28, (.aload_n 2, 29, false, false, 2, 0, 0, 0, 0, 0, [])), (29, (.invokevirtual 27, 32, false, false, 199, 2, 1, 11, 0, 0, [])), (32, (.ifCond .eq 13, 35, false, false, 45, 0, 0, 0, 0, 0, [])), (35, (.iload_n 3, 36, false, false, 3, 0, 0, 0, 0, 0, [])), (36, (.aload_n 0, 37, false, false, 0, 0, 0, 0, 0, 0, [])), (37, (.iconst 1, 38, false, false, 0, 0, 0, 0, 1, 0, [])), (38, (.iload 4, 40, false, false, 4, 0, 0, 0, 0, 0, [])), (40, (.invokevirtual 19, 43, false, false, 88, 2, 1, 11, 0, 0, []))]),
  (52, [(43, (.iadd, 44, false, false, 0, 0, 0, 0, 0, 0, [])), (44, (.istore_n 3, 45, false, false, 3, 0, 0, 0, 0, 0, [])), (45, (.iinc 4 1, 48, false, false, 4, 0, 0, 0, 1, 0, [])), (48, (.goto (-43), 51, false, true, 5, 0, 0, 0, 0, 0, [])), (51, (.iload_n 3, 52, false, false, 3, 0, 0, 0, 0, 0, [])), (52, (.ireturn, 53, false, false, 0, 0, 0, 0, 0, 0, []))])], 0, [])
set_option maxRecDepth 100000 in
theorem v_X8_sumHolding : VE MYT dflT E_X8_sumHolding := ⟨⟨⟨⟨⟨dX8_sumHolding_0, rfl⟩, rfl⟩, ⟨⟨dX8_sumHolding_1, rfl⟩, rfl⟩, ⟨⟨dX8_sumHolding_2, rfl⟩, rfl⟩, ⟨⟨dX8_sumHolding_3, rfl⟩, rfl⟩, ⟨⟨dX8_sumHolding_5, rfl⟩, rfl⟩, ⟨⟨dX8_sumHolding_7, rfl⟩, rfl⟩, ⟨⟨dX8_sumHolding_8, rfl⟩, Or.inl ⟨by decide, _, _, fX8_11⟩⟩, ⟨⟨dX8_sumHolding_11, rfl⟩, rfl⟩, ⟨⟨dX8_sumHolding_14, rfl⟩, rfl⟩, ⟨⟨dX8_sumHolding_15, rfl⟩, rfl⟩, ⟨⟨dX8_sumHolding_16, rfl⟩, rfl⟩, ⟨⟨dX8_sumHolding_18, rfl⟩, Or.inr ⟨by decide, ⟨_, my_88, sX8_19⟩, fun q => absurd q (by decide)⟩⟩, ⟨⟨dX8_sumHolding_21, rfl⟩, rfl⟩, ⟨⟨dX8_sumHolding_22, rfl⟩, rfl⟩, ⟨⟨dX8_sumHolding_25, rfl⟩, rfl⟩, ⟨⟨dX8_sumHolding_26, rfl⟩, rfl⟩, ⟨⟨dX8_sumHolding_28, rfl⟩, rfl⟩, ⟨⟨dX8_sumHolding_29, rfl⟩, Or.inr ⟨by decide, ⟨_, my_199, sX8_27⟩, fun q => absurd q (by decide)⟩⟩, ⟨⟨dX8_sumHolding_32, rfl⟩, rfl⟩, ⟨⟨dX8_sumHolding_35, rfl⟩, rfl⟩, ⟨⟨dX8_sumHolding_36, rfl⟩, rfl⟩, ⟨⟨dX8_sumHolding_37, rfl⟩, rfl⟩, ⟨⟨dX8_sumHolding_38, rfl⟩, rfl⟩, ⟨⟨dX8_sumHolding_40, rfl⟩, Or.inr ⟨by decide, ⟨_, my_88, sX8_19⟩, fun q => absurd q (by decide)⟩⟩, trivial⟩,
  ⟨⟨⟨dX8_sumHolding_43, rfl⟩, trivial⟩, ⟨⟨dX8_sumHolding_44, rfl⟩, rfl⟩, ⟨⟨dX8_sumHolding_45, rfl⟩, ⟨rfl, rfl⟩⟩, ⟨⟨dX8_sumHolding_48, rfl⟩, rfl⟩, ⟨⟨dX8_sumHolding_51, rfl⟩, rfl⟩, ⟨⟨dX8_sumHolding_52, rfl⟩, Or.inl ⟨rfl, rfl⟩⟩, trivial⟩, trivial⟩, by decide, Or.inl ⟨rfl, by decide, rfl⟩⟩
set_option maxRecDepth 100000 in
theorem g_X8_sumHolding_0 (S : sT) (call : cT) (n : Nat) (a0 : Nat) (x1 : Int32) (v2 : Value) (h : pH) : bd S call dflT E_X8_sumHolding (n + 1) 0 [some (.ref a0), some (.int x1), some (v2), none, none] [] h = (nl v2 (bd S call dflT E_X8_sumHolding n 5 [some (.ref a0), some (.int x1), some (v2), some (.int 0), some (.int 0)] [] h)) := rfl
set_option maxRecDepth 100000 in
theorem g_X8_sumHolding_5 (S : sT) (call : cT) (n : Nat) (a0 : Nat) (x1 : Int32) (v2 : Value) (x3 : Int32) (x4 : Int32) (h : pH) : bd S call dflT E_X8_sumHolding (n + 1) 5 [some (.ref a0), some (.int x1), some (v2), some (.int x3), some (.int x4)] [] h = (gI h (.ref a0) 11 0 (fun y1 => (if y1 ≤ x4 then some (.inl (some (.int x3)), h) else rC h (.ref a0) 11 (cI (call 88 [.ref a0, .int 0, .int x4] h) (fun y3 h2 => (if y3 = x1 then iA v2 (rC h2 (.ref a0) 11 (cI (call 199 [.ref a0, .int x4, v2] h2) (fun y5 h4 => (if y5 = 0 then bd S call dflT E_X8_sumHolding n 5 [some (.ref a0), some (.int x1), some (v2), some (.int x3), some (.int (x4 + 1))] [] h4 else rC h4 (.ref a0) 11 (cI (call 88 [.ref a0, .int 1, .int x4] h4) (fun y7 h6 => nl v2 (bd S call dflT E_X8_sumHolding n 5 [some (.ref a0), some (.int x1), some (v2), some (.int (x3 + y7)), some (.int (x4 + 1))] [] h6))))))) else bd S call dflT E_X8_sumHolding n 5 [some (.ref a0), some (.int x1), some (v2), some (.int x3), some (.int (x4 + 1))] [] h2)))))) := rfl
theorem dX8_firstHolding_0 : decode cX8_firstHolding 0 = .ok (.iconst 0, 1) := by decide +kernel
theorem dX8_firstHolding_1 : decode cX8_firstHolding 1 = .ok (.istore_n 3, 1) := by decide +kernel
theorem dX8_firstHolding_2 : decode cX8_firstHolding 2 = .ok (.iload_n 3, 1) := by decide +kernel
theorem dX8_firstHolding_3 : decode cX8_firstHolding 3 = .ok (.aload_n 0, 1) := by decide +kernel
theorem dX8_firstHolding_4 : decode cX8_firstHolding 4 = .ok (.getfield 11, 3) := by decide +kernel
theorem dX8_firstHolding_7 : decode cX8_firstHolding 7 = .ok (.if_icmp .ge 30, 3) := by decide +kernel
theorem dX8_firstHolding_10 : decode cX8_firstHolding 10 = .ok (.aload_n 0, 1) := by decide +kernel
theorem dX8_firstHolding_11 : decode cX8_firstHolding 11 = .ok (.iconst 0, 1) := by decide +kernel
theorem dX8_firstHolding_12 : decode cX8_firstHolding 12 = .ok (.iload_n 3, 1) := by decide +kernel
theorem dX8_firstHolding_13 : decode cX8_firstHolding 13 = .ok (.invokevirtual 19, 3) := by decide +kernel
theorem dX8_firstHolding_16 : decode cX8_firstHolding 16 = .ok (.iload_n 1, 1) := by decide +kernel
theorem dX8_firstHolding_17 : decode cX8_firstHolding 17 = .ok (.if_icmp .ne 14, 3) := by decide +kernel
theorem dX8_firstHolding_20 : decode cX8_firstHolding 20 = .ok (.aload_n 0, 1) := by decide +kernel
theorem dX8_firstHolding_21 : decode cX8_firstHolding 21 = .ok (.iload_n 3, 1) := by decide +kernel
theorem dX8_firstHolding_22 : decode cX8_firstHolding 22 = .ok (.aload_n 2, 1) := by decide +kernel
theorem dX8_firstHolding_23 : decode cX8_firstHolding 23 = .ok (.invokevirtual 27, 3) := by decide +kernel
theorem dX8_firstHolding_26 : decode cX8_firstHolding 26 = .ok (.ifCond .eq 5, 3) := by decide +kernel
theorem dX8_firstHolding_29 : decode cX8_firstHolding 29 = .ok (.iload_n 3, 1) := by decide +kernel
theorem dX8_firstHolding_30 : decode cX8_firstHolding 30 = .ok (.ireturn, 1) := by decide +kernel
theorem dX8_firstHolding_31 : decode cX8_firstHolding 31 = .ok (.iinc 3 1, 3) := by decide +kernel
theorem dX8_firstHolding_34 : decode cX8_firstHolding 34 = .ok (.goto (-32), 3) := by decide +kernel
theorem dX8_firstHolding_37 : decode cX8_firstHolding 37 = .ok (.iconst (-1), 1) := by decide +kernel
theorem dX8_firstHolding_38 : decode cX8_firstHolding 38 = .ok (.ireturn, 1) := by decide +kernel
noncomputable def E_X8_firstHolding : mE := (mX8_firstHolding, [(38, [(0, (.iconst 0, 1, false, false, 0, 0, 0, 0, 0, 0, [])), (1, (.istore_n 3, 2, true, false, 3, 0, 0, 0, 0, 0, [])), (2, (.iload_n 3, 3, false, false, 3, 0, 0, 0, 0, 0, [])), (3, (.aload_n 0, 4, false, false, 0, 0, 0, 0, 0, 0, [])), (4, (.getfield 11, 7, false, false, 11, 0, 0, 0, 0, 0, [])), (7, (.if_icmp .ge 30, 10, false, false, 37, 0, 0, 0, 0, 0, [])), (10, (.aload_n 0, 11, false, false, 0, 0, 0, 0, 0, 0, [])), (11, (.iconst 0, 12, false, false, 0, 0, 0, 0, 0, 0, [])), (12, (.iload_n 3, 13, false, false, 3, 0, 0, 0, 0, 0, [])), (13, (.invokevirtual 19, 16, false, false, 88, 2, 1, 11, 0, 0, [])), (16, (.iload_n 1, 17, false, false, 1, 0, 0, 0, 0, 0, [])), (17, (.if_icmp .ne 14, 20, false, false, 31, 0, 0, 0, 0, 0, [])), (20, (.aload_n 0, 21, false, false, 0, 0, 0, 0, 0, 0, [])), (21, (.iload_n 3, 22, false, false, 3, 0, 0, 0, 0, 0, [])), (22, (.aload_n 2, 23, false, false, 2, 0, 0, 0, 0, 0, [])), (23, (.invokevirtual 27, 26, false, false, 199, 2, 1, 11, 0, 0, [])), (26, (.ifCond .eq 5, 29, false, false, 31, 0, 0, 0, 0, 0, [])), (29, (.iload_n 3, 30, false, false, 3, 0, 0, 0, 0, 0, [])), (30, (.ireturn, 31, false, false, 0, 0, 0, 0, 0, 0, [])), (31, (.iinc 3 1, 34, false, false, 3, 0, 0, 0, 1, 0, [])), (34, (.goto (-32), 37, false, true, 2, 0, 0, 0, 0, 0, [])), (37, (.iconst (-1), 38, false, false, 0, 0, 0, 0, -1, 0, [])), (38, (.ireturn, 39, false, false, 0, 0, 0, 0, 0, 0, []))])], 0, [])
set_option maxRecDepth 100000 in
theorem v_X8_firstHolding : VE MYT dflT E_X8_firstHolding := ⟨⟨⟨⟨⟨dX8_firstHolding_0, rfl⟩, rfl⟩, ⟨⟨dX8_firstHolding_1, rfl⟩, rfl⟩, ⟨⟨dX8_firstHolding_2, rfl⟩, rfl⟩, ⟨⟨dX8_firstHolding_3, rfl⟩, rfl⟩, ⟨⟨dX8_firstHolding_4, rfl⟩, Or.inl ⟨by decide, _, _, fX8_11⟩⟩, ⟨⟨dX8_firstHolding_7, rfl⟩, rfl⟩, ⟨⟨dX8_firstHolding_10, rfl⟩, rfl⟩, ⟨⟨dX8_firstHolding_11, rfl⟩, rfl⟩, ⟨⟨dX8_firstHolding_12, rfl⟩, rfl⟩, ⟨⟨dX8_firstHolding_13, rfl⟩, Or.inr ⟨by decide, ⟨_, my_88, sX8_19⟩, fun q => absurd q (by decide)⟩⟩, ⟨⟨dX8_firstHolding_16, rfl⟩, rfl⟩, ⟨⟨dX8_firstHolding_17, rfl⟩, rfl⟩, ⟨⟨dX8_firstHolding_20, rfl⟩, rfl⟩, ⟨⟨dX8_firstHolding_21, rfl⟩, rfl⟩, ⟨⟨dX8_firstHolding_22, rfl⟩, rfl⟩, ⟨⟨dX8_firstHolding_23, rfl⟩, Or.inr ⟨by decide, ⟨_, my_199, sX8_27⟩, fun q => absurd q (by decide)⟩⟩, ⟨⟨dX8_firstHolding_26, rfl⟩, rfl⟩, ⟨⟨dX8_firstHolding_29, rfl⟩, rfl⟩, ⟨⟨dX8_firstHolding_30, rfl⟩, Or.inl ⟨rfl, rfl⟩⟩, ⟨⟨dX8_firstHolding_31, rfl⟩, ⟨rfl, rfl⟩⟩, ⟨⟨dX8_firstHolding_34, rfl⟩, rfl⟩, ⟨⟨dX8_firstHolding_37, rfl⟩, rfl⟩, ⟨⟨dX8_firstHolding_38, rfl⟩, Or.inl ⟨rfl, rfl⟩⟩, trivial⟩, trivial⟩, by decide, Or.inl ⟨rfl, by decide, rfl⟩⟩
set_option maxRecDepth 100000 in
theorem g_X8_firstHolding_0 (S : sT) (call : cT) (n : Nat) (a0 : Nat) (x1 : Int32) (v2 : Value) (h : pH) : bd S call dflT E_X8_firstHolding (n + 1) 0 [some (.ref a0), some (.int x1), some (v2), none] [] h = (nl v2 (bd S call dflT E_X8_firstHolding n 2 [some (.ref a0), some (.int x1), some (v2), some (.int 0)] [] h)) := rfl
set_option maxRecDepth 100000 in
theorem g_X8_firstHolding_2 (S : sT) (call : cT) (n : Nat) (a0 : Nat) (x1 : Int32) (v2 : Value) (x3 : Int32) (h : pH) : bd S call dflT E_X8_firstHolding (n + 1) 2 [some (.ref a0), some (.int x1), some (v2), some (.int x3)] [] h = (gI h (.ref a0) 11 0 (fun y1 => (if y1 ≤ x3 then some (.inl (some (.int (-1))), h) else rC h (.ref a0) 11 (cI (call 88 [.ref a0, .int 0, .int x3] h) (fun y3 h2 => (if y3 = x1 then iA v2 (rC h2 (.ref a0) 11 (cI (call 199 [.ref a0, .int x3, v2] h2) (fun y5 h4 => (if y5 = 0 then nl v2 (bd S call dflT E_X8_firstHolding n 2 [some (.ref a0), some (.int x1), some (v2), some (.int (x3 + 1))] [] h4) else some (.inl (some (.int x3)), h4))))) else nl v2 (bd S call dflT E_X8_firstHolding n 2 [some (.ref a0), some (.int x1), some (v2), some (.int (x3 + 1))] [] h2))))))) := rfl
