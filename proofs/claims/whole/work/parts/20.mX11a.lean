/-! by program: methods as data, that they are right, what their bodies do -/
theorem dX11_init_0 : decode cX11_init 0 = .ok (.aload_n 0, 1) := by decide +kernel
theorem dX11_init_1 : decode cX11_init 1 = .ok (.invokespecial 1, 3) := by decide +kernel
theorem dX11_init_4 : decode cX11_init 4 = .ok (.aload_n 0, 1) := by decide +kernel
theorem dX11_init_5 : decode cX11_init 5 = .ok (.new 7, 3) := by decide +kernel
theorem dX11_init_8 : decode cX11_init 8 = .ok (.dup, 1) := by decide +kernel
theorem dX11_init_9 : decode cX11_init 9 = .ok (.invokespecial 9, 3) := by decide +kernel
theorem dX11_init_12 : decode cX11_init 12 = .ok (.putfield 10, 3) := by decide +kernel
theorem dX11_init_15 : decode cX11_init 15 = .ok (.aload_n 0, 1) := by decide +kernel
theorem dX11_init_16 : decode cX11_init 16 = .ok (.new 16, 3) := by decide +kernel
theorem dX11_init_19 : decode cX11_init 19 = .ok (.dup, 1) := by decide +kernel
theorem dX11_init_20 : decode cX11_init 20 = .ok (.invokespecial 18, 3) := by decide +kernel
theorem dX11_init_23 : decode cX11_init 23 = .ok (.putfield 19, 3) := by decide +kernel
theorem dX11_init_26 : decode cX11_init 26 = .ok (.aload_n 0, 1) := by decide +kernel
theorem dX11_init_27 : decode cX11_init 27 = .ok (.new 23, 3) := by decide +kernel
theorem dX11_init_30 : decode cX11_init 30 = .ok (.dup, 1) := by decide +kernel
theorem dX11_init_31 : decode cX11_init 31 = .ok (.aload_n 0, 1) := by decide +kernel
theorem dX11_init_32 : decode cX11_init 32 = .ok (.getfield 19, 3) := by decide +kernel
theorem dX11_init_35 : decode cX11_init 35 = .ok (.invokespecial 25, 3) := by decide +kernel
theorem dX11_init_38 : decode cX11_init 38 = .ok (.putfield 28, 3) := by decide +kernel
theorem dX11_init_41 : decode cX11_init 41 = .ok (.return_, 1) := by decide +kernel
noncomputable def E_X11_init : mE := (mX11_init, [(41, [(0, (.aload_n 0, 1, false, false, 0, 0, 0, 0, 0, 0, [])), (1, (.invokespecial 1, 4, false, false, 0, 0, 0, 1, 0, 0, [])), (4, (.aload_n 0, 5, false, false, 0, 0, 0, 0, 0, 0, [])), (5, (.new 7, 8, false, false, 9, 0, 0, 0, 0, 0, [])), (8, (.dup, 9, false, false, 0, 0, 0, 0, 0, 0, [])), (9, (.invokespecial 9, 12, false, false, 0, 0, 0, 0, 0, 0, [])), (12, (.putfield 10, 15, false, false, 14, 0, 4, 0, 0, 0, [])), (15, (.aload_n 0, 16, false, false, 0, 0, 0, 0, 0, 0, [])), (16, (.new 16, 19, false, false, 3, 0, 0, 0, 0, 0, [])), (19, (.dup, 20, false, false, 0, 0, 0, 0, 0, 0, [])), (20, (.invokespecial 18, 23, false, false, 9, 0, 0, 0, 0, 0, [])), (23, (.putfield 19, 26, false, false, 14, 1, 4, 0, 0, 0, [])), (26, (.aload_n 0, 27, false, false, 0, 0, 0, 0, 0, 0, [])), (27, (.new 23, 30, false, false, 13, 0, 0, 0, 0, 0, [])), (30, (.dup, 31, false, false, 0, 0, 0, 0, 0, 0, [])), (31, (.aload_n 0, 32, false, false, 0, 0, 0, 0, 0, 0, [])), (32, (.getfield 19, 35, false, false, 14, 1, 1, 0, 0, 0, [])), (35, (.invokespecial 25, 38, false, false, 10, 1, 0, 0, 0, 0, [])), (38, (.putfield 28, 41, false, false, 14, 2, 4, 0, 0, 0, [])), (41, (.return_, 42, false, false, 0, 0, 0, 0, 0, 0, []))])], 0, [])
set_option maxRecDepth 100000 in
theorem v_X11_init : VE MYT dflT E_X11_init := ⟨⟨⟨⟨⟨dX11_init_0, rfl⟩, rfl⟩, ⟨⟨dX11_init_1, rfl⟩, Or.inr ⟨rfl, oX11_1, o_1, o_2⟩⟩, ⟨⟨dX11_init_4, rfl⟩, rfl⟩, ⟨⟨dX11_init_5, rfl⟩, Or.inl ⟨rfl, _, rfl, nX11_7⟩⟩, ⟨⟨dX11_init_8, rfl⟩, trivial⟩, ⟨⟨dX11_init_9, rfl⟩, Or.inl ⟨rfl, _, my_0, sX11_9⟩⟩, ⟨⟨dX11_init_12, rfl⟩, Or.inr (Or.inr (Or.inr (Or.inr ⟨rfl, ⟨_, (Or.inl ⟨_, rfl⟩), fX11_10⟩, rfl, rfl⟩)))⟩, ⟨⟨dX11_init_15, rfl⟩, rfl⟩, ⟨⟨dX11_init_16, rfl⟩, Or.inl ⟨rfl, _, rfl, nX11_16⟩⟩, ⟨⟨dX11_init_19, rfl⟩, trivial⟩, ⟨⟨dX11_init_20, rfl⟩, Or.inl ⟨rfl, _, my_9, sX11_18⟩⟩, ⟨⟨dX11_init_23, rfl⟩, Or.inr (Or.inr (Or.inr (Or.inr ⟨rfl, ⟨_, (Or.inl ⟨_, rfl⟩), fX11_19⟩, rfl, rfl⟩)))⟩, ⟨⟨dX11_init_26, rfl⟩, rfl⟩, ⟨⟨dX11_init_27, rfl⟩, Or.inl ⟨rfl, _, rfl, nX11_23⟩⟩, ⟨⟨dX11_init_30, rfl⟩, trivial⟩, ⟨⟨dX11_init_31, rfl⟩, rfl⟩, ⟨⟨dX11_init_32, rfl⟩, Or.inl ⟨by decide, _, _, fX11_19⟩⟩, ⟨⟨dX11_init_35, rfl⟩, Or.inl ⟨rfl, _, my_10, sX11_25⟩⟩, ⟨⟨dX11_init_38, rfl⟩, Or.inr (Or.inr (Or.inr (Or.inr ⟨rfl, ⟨_, (Or.inl ⟨_, rfl⟩), fX11_28⟩, rfl, rfl⟩)))⟩, ⟨⟨dX11_init_41, rfl⟩, rfl⟩, trivial⟩, trivial⟩, by decide, Or.inl ⟨rfl, by decide, rfl⟩⟩
set_option maxRecDepth 100000 in
theorem g_X11_init_0 (S : sT) (call : cT) (n : Nat) (a0 : Nat) (h : pH) : bd S call dflT E_X11_init (n + 1) 0 [some (.ref a0)] [] h = (cUx tN (call 0 [.ref (List.length h)] (h ++ [.inr (9, dflT 9)])) (fun h1 => pF h1 (.ref a0) 14 0 (.ref (List.length h)) (fun h2 => cUx tN (call 9 [.ref (List.length h2)] (h2 ++ [.inr (3, dflT 3)])) (fun h3 => pF h3 (.ref a0) 14 1 (.ref (List.length h2)) (fun h4 => gV (h4 ++ [.inr (13, dflT 13)]) (.ref a0) 14 1 (fun w5 => cUx tN (call 10 [.ref (List.length h4), w5] (h4 ++ [.inr (13, dflT 13)])) (fun h6 => pF h6 (.ref a0) 14 2 (.ref (List.length h4)) (fun h7 => some (.inl none, h7))))))))) := rfl
theorem dX11_feed_0 : decode cX11_feed 0 = .ok (.aload_n 0, 1) := by decide +kernel
theorem dX11_feed_1 : decode cX11_feed 1 = .ok (.getfield 10, 3) := by decide +kernel
theorem dX11_feed_4 : decode cX11_feed 4 = .ok (.getfield 32, 3) := by decide +kernel
theorem dX11_feed_7 : decode cX11_feed 7 = .ok (.bipush 20, 2) := by decide +kernel
theorem dX11_feed_9 : decode cX11_feed 9 = .ok (.iadd, 1) := by decide +kernel
theorem dX11_feed_10 : decode cX11_feed 10 = .ok (.sipush 400, 3) := by decide +kernel
theorem dX11_feed_13 : decode cX11_feed 13 = .ok (.if_icmp .le 5, 3) := by decide +kernel
theorem dX11_feed_16 : decode cX11_feed 16 = .ok (.iconst (-1), 1) := by decide +kernel
theorem dX11_feed_17 : decode cX11_feed 17 = .ok (.ireturn, 1) := by decide +kernel
theorem dX11_feed_18 : decode cX11_feed 18 = .ok (.aload_n 0, 1) := by decide +kernel
theorem dX11_feed_19 : decode cX11_feed 19 = .ok (.getfield 10, 3) := by decide +kernel
theorem dX11_feed_22 : decode cX11_feed 22 = .ok (.iload_n 1, 1) := by decide +kernel
theorem dX11_feed_23 : decode cX11_feed 23 = .ok (.invokevirtual 36, 3) := by decide +kernel
theorem dX11_feed_26 : decode cX11_feed 26 = .ok (.aload_n 0, 1) := by decide +kernel
theorem dX11_feed_27 : decode cX11_feed 27 = .ok (.getfield 10, 3) := by decide +kernel
theorem dX11_feed_30 : decode cX11_feed 30 = .ok (.iload_n 2, 1) := by decide +kernel
theorem dX11_feed_31 : decode cX11_feed 31 = .ok (.invokevirtual 36, 3) := by decide +kernel
theorem dX11_feed_34 : decode cX11_feed 34 = .ok (.aload_n 0, 1) := by decide +kernel
theorem dX11_feed_35 : decode cX11_feed 35 = .ok (.getfield 10, 3) := by decide +kernel
theorem dX11_feed_38 : decode cX11_feed 38 = .ok (.iload_n 3, 1) := by decide +kernel
theorem dX11_feed_39 : decode cX11_feed 39 = .ok (.invokevirtual 36, 3) := by decide +kernel
theorem dX11_feed_42 : decode cX11_feed 42 = .ok (.aload_n 0, 1) := by decide +kernel
theorem dX11_feed_43 : decode cX11_feed 43 = .ok (.getfield 10, 3) := by decide +kernel
theorem dX11_feed_46 : decode cX11_feed 46 = .ok (.iload 4, 2) := by decide +kernel
theorem dX11_feed_48 : decode cX11_feed 48 = .ok (.invokevirtual 36, 3) := by decide +kernel
theorem dX11_feed_51 : decode cX11_feed 51 = .ok (.aload_n 0, 1) := by decide +kernel
theorem dX11_feed_52 : decode cX11_feed 52 = .ok (.getfield 10, 3) := by decide +kernel
theorem dX11_feed_55 : decode cX11_feed 55 = .ok (.iload 5, 2) := by decide +kernel
theorem dX11_feed_57 : decode cX11_feed 57 = .ok (.invokevirtual 36, 3) := by decide +kernel
theorem dX11_feed_60 : decode cX11_feed 60 = .ok (.aload_n 0, 1) := by decide +kernel
theorem dX11_feed_61 : decode cX11_feed 61 = .ok (.getfield 10, 3) := by decide +kernel
theorem dX11_feed_64 : decode cX11_feed 64 = .ok (.getfield 32, 3) := by decide +kernel
theorem dX11_feed_67 : decode cX11_feed 67 = .ok (.ireturn, 1) := by decide +kernel
noncomputable def E_X11_feed : mE := (mX11_feed, [(46, [(0, (.aload_n 0, 1, false, false, 0, 0, 0, 0, 0, 0, [])), (1, (.getfield 10, 4, false, false, 14, 0, 1, 0, 0, 0, [])), (4, (.getfield 32, 7, false, false, 9, 1, 0, 0, 0, 0, [])), (7, (.bipush 20, 9, false, false, 0, 0, 0, 0, 20, 0, [])), (9, (.iadd, 10, false, false, 0, 0, 0, 0, 0, 0, [])), (10, (.sipush 400, 13, false, false, 0, 0, 0, 0, 400, 0, [])), (13, (.if_icmp .le 5, 16, false, false, 18, 0, 0, 0, 0, 0, [])), (16, (.iconst (-1), 17, false, false, 0, 0, 0, 0, -1, 0, [])), (17, (.ireturn, 18, false, false, 0, 0, 0, 0, 0, 0, [])), (18, (.aload_n 0, 19, false, false, 0, 0, 0, 0, 0, 0, [])), (19, (.getfield 10, 22, false, false, 14, 0, 1, 0, 0, 0, [])), (22, (.iload_n 1, 23, false, false, 1, 0, 0, 0, 0, 0, [])), (23, (.invokevirtual 36, 26, false, false, 14, 1, 0, 9, 0, 0, [])), (26, (.aload_n 0, 27, false, false, 0, 0, 0, 0, 0, 0, [])), (27, (.getfield 10, 30, false, false, 14, 0, 1, 0, 0, 0, [])), (30, (.iload_n 2, 31, false, false, 2, 0, 0, 0, 0, 0, [])), (31, (.invokevirtual 36, 34, false, false, 14, 1, 0, 9, 0, 0, [])), (34, (.aload_n 0, 35, false, false, 0, 0, 0, 0, 0, 0, [])), (35, (.getfield 10, 38, false, false, 14, 0, 1, 0, 0, 0, [])), (38, (.iload_n 3, 39, false, false, 3, 0, 0, 0, 0, 0, [])), (39, (.invokevirtual 36, 42, false, false, 14, 1, 0, 9, 0, 0, [])), (42, (.aload_n 0, 43, false, false, 0, 0, 0, 0, 0, 0, [])), (43, (.getfield 10, 46, false, false, 14, 0, 1, 0, 0, 0, [])), (46, (.iload 4, 48, false, false, 4, 0, 0, 0, 0, 0, []))]),
  (67, [(48, (.invokevirtual 36, 51, false, false, 14, 1, 0, 9, 0, 0, [])), (51, (.aload_n 0, 52, false, false, 0, 0, 0, 0, 0, 0, [])), (52, (.getfield 10, 55, false, false, 14, 0, 1, 0, 0, 0, [])), (55, (.iload 5, 57, false, false, 5, 0, 0, 0, 0, 0, [])), (57, (.invokevirtual 36, 60, false, false, 14, 1, 0, 9, 0, 0, [])), (60, (.aload_n 0, 61, false, false, 0, 0, 0, 0, 0, 0, [])), (61, (.getfield 10, 64, false, false, 14, 0, 1, 0, 0, 0, [])), (64, (.getfield 32, 67, false, false, 9, 1, 0, 0, 0, 0, [])), (67, (.ireturn, 68, false, false, 0, 0, 0, 0, 0, 0, []))])], 0, [])
set_option maxRecDepth 100000 in
theorem v_X11_feed : VE MYT dflT E_X11_feed := ⟨⟨⟨⟨⟨dX11_feed_0, rfl⟩, rfl⟩, ⟨⟨dX11_feed_1, rfl⟩, Or.inl ⟨by decide, _, _, fX11_10⟩⟩, ⟨⟨dX11_feed_4, rfl⟩, Or.inl ⟨by decide, _, _, fX11_32⟩⟩, ⟨⟨dX11_feed_7, rfl⟩, rfl⟩, ⟨⟨dX11_feed_9, rfl⟩, trivial⟩, ⟨⟨dX11_feed_10, rfl⟩, rfl⟩, ⟨⟨dX11_feed_13, rfl⟩, rfl⟩, ⟨⟨dX11_feed_16, rfl⟩, rfl⟩, ⟨⟨dX11_feed_17, rfl⟩, Or.inl ⟨rfl, rfl⟩⟩, ⟨⟨dX11_feed_18, rfl⟩, rfl⟩, ⟨⟨dX11_feed_19, rfl⟩, Or.inl ⟨by decide, _, _, fX11_10⟩⟩, ⟨⟨dX11_feed_22, rfl⟩, rfl⟩, ⟨⟨dX11_feed_23, rfl⟩, Or.inr ⟨by decide, ⟨_, my_14, sX11_36⟩, fun q => absurd q (by decide)⟩⟩, ⟨⟨dX11_feed_26, rfl⟩, rfl⟩, ⟨⟨dX11_feed_27, rfl⟩, Or.inl ⟨by decide, _, _, fX11_10⟩⟩, ⟨⟨dX11_feed_30, rfl⟩, rfl⟩, ⟨⟨dX11_feed_31, rfl⟩, Or.inr ⟨by decide, ⟨_, my_14, sX11_36⟩, fun q => absurd q (by decide)⟩⟩, ⟨⟨dX11_feed_34, rfl⟩, rfl⟩, ⟨⟨dX11_feed_35, rfl⟩, Or.inl ⟨by decide, _, _, fX11_10⟩⟩, ⟨⟨dX11_feed_38, rfl⟩, rfl⟩, ⟨⟨dX11_feed_39, rfl⟩, Or.inr ⟨by decide, ⟨_, my_14, sX11_36⟩, fun q => absurd q (by decide)⟩⟩, ⟨⟨dX11_feed_42, rfl⟩, rfl⟩, ⟨⟨dX11_feed_43, rfl⟩, Or.inl ⟨by decide, _, _, fX11_10⟩⟩, ⟨⟨dX11_feed_46, rfl⟩, rfl⟩, trivial⟩,
  ⟨⟨⟨dX11_feed_48, rfl⟩, Or.inr ⟨by decide, ⟨_, my_14, sX11_36⟩, fun q => absurd q (by decide)⟩⟩, ⟨⟨dX11_feed_51, rfl⟩, rfl⟩, ⟨⟨dX11_feed_52, rfl⟩, Or.inl ⟨by decide, _, _, fX11_10⟩⟩, ⟨⟨dX11_feed_55, rfl⟩, rfl⟩, ⟨⟨dX11_feed_57, rfl⟩, Or.inr ⟨by decide, ⟨_, my_14, sX11_36⟩, fun q => absurd q (by decide)⟩⟩, ⟨⟨dX11_feed_60, rfl⟩, rfl⟩, ⟨⟨dX11_feed_61, rfl⟩, Or.inl ⟨by decide, _, _, fX11_10⟩⟩, ⟨⟨dX11_feed_64, rfl⟩, Or.inl ⟨by decide, _, _, fX11_32⟩⟩, ⟨⟨dX11_feed_67, rfl⟩, Or.inl ⟨rfl, rfl⟩⟩, trivial⟩, trivial⟩, by decide, Or.inl ⟨rfl, by decide, rfl⟩⟩
set_option maxRecDepth 100000 in
theorem g_X11_feed_0 (S : sT) (call : cT) (n : Nat) (a0 : Nat) (x1 : Int32) (x2 : Int32) (x3 : Int32) (x4 : Int32) (x5 : Int32) (h : pH) : bd S call dflT E_X11_feed (n + 1) 0 [some (.ref a0), some (.int x1), some (.int x2), some (.int x3), some (.int x4), some (.int x5)] [] h = (gV h (.ref a0) 14 0 (fun w1 => gI h w1 9 1 (fun y2 => (if (y2 + 20) ≤ 400 then gV h (.ref a0) 14 0 (fun w3 => rC h w3 9 (cU (call 14 [w3, .int x1] h) (fun h4 => gV h4 (.ref a0) 14 0 (fun w5 => rC h4 w5 9 (cU (call 14 [w5, .int x2] h4) (fun h6 => gV h6 (.ref a0) 14 0 (fun w7 => rC h6 w7 9 (cU (call 14 [w7, .int x3] h6) (fun h8 => gV h8 (.ref a0) 14 0 (fun w9 => rC h8 w9 9 (cU (call 14 [w9, .int x4] h8) (fun h10 => gV h10 (.ref a0) 14 0 (fun w11 => rC h10 w11 9 (cU (call 14 [w11, .int x5] h10) (fun h12 => gV h12 (.ref a0) 14 0 (fun w13 => gI h12 w13 9 1 (fun y14 => some (.inl (some (.int y14)), h12)))))))))))))))))) else some (.inl (some (.int (-1))), h))))) := rfl
theorem dX11_end_0 : decode cX11_end 0 = .ok (.iload_n 1, 1) := by decide +kernel
theorem dX11_end_1 : decode cX11_end 1 = .ok (.ifCond .lt 14, 3) := by decide +kernel
theorem dX11_end_4 : decode cX11_end 4 = .ok (.iload_n 1, 1) := by decide +kernel
theorem dX11_end_5 : decode cX11_end 5 = .ok (.aload_n 0, 1) := by decide +kernel
theorem dX11_end_6 : decode cX11_end 6 = .ok (.getfield 10, 3) := by decide +kernel
theorem dX11_end_9 : decode cX11_end 9 = .ok (.getfield 32, 3) := by decide +kernel
theorem dX11_end_12 : decode cX11_end 12 = .ok (.if_icmp .le 5, 3) := by decide +kernel
theorem dX11_end_15 : decode cX11_end 15 = .ok (.iconst 0, 1) := by decide +kernel
theorem dX11_end_16 : decode cX11_end 16 = .ok (.ireturn, 1) := by decide +kernel
theorem dX11_end_17 : decode cX11_end 17 = .ok (.aload_n 0, 1) := by decide +kernel
theorem dX11_end_18 : decode cX11_end 18 = .ok (.getfield 10, 3) := by decide +kernel
theorem dX11_end_21 : decode cX11_end 21 = .ok (.iload_n 1, 1) := by decide +kernel
theorem dX11_end_22 : decode cX11_end 22 = .ok (.putfield 32, 3) := by decide +kernel
theorem dX11_end_25 : decode cX11_end 25 = .ok (.iconst 1, 1) := by decide +kernel
theorem dX11_end_26 : decode cX11_end 26 = .ok (.ireturn, 1) := by decide +kernel
noncomputable def E_X11_end : mE := (mX11_end, [(26, [(0, (.iload_n 1, 1, false, false, 1, 0, 0, 0, 0, 0, [])), (1, (.ifCond .lt 14, 4, false, false, 15, 0, 0, 0, 0, 0, [])), (4, (.iload_n 1, 5, false, false, 1, 0, 0, 0, 0, 0, [])), (5, (.aload_n 0, 6, false, false, 0, 0, 0, 0, 0, 0, [])), (6, (.getfield 10, 9, false, false, 14, 0, 1, 0, 0, 0, [])), (9, (.getfield 32, 12, false, false, 9, 1, 0, 0, 0, 0, [])), (12, (.if_icmp .le 5, 15, false, false, 17, 0, 0, 0, 0, 0, [])), (15, (.iconst 0, 16, false, false, 0, 0, 0, 0, 0, 0, [])), (16, (.ireturn, 17, false, false, 0, 0, 1, 0, 0, 0, [])), (17, (.aload_n 0, 18, false, false, 0, 0, 0, 0, 0, 0, [])), (18, (.getfield 10, 21, false, false, 14, 0, 1, 0, 0, 0, [])), (21, (.iload_n 1, 22, false, false, 1, 0, 0, 0, 0, 0, [])), (22, (.putfield 32, 25, false, false, 9, 1, 0, 0, 0, 0, [])), (25, (.iconst 1, 26, false, false, 0, 0, 0, 0, 1, 0, [])), (26, (.ireturn, 27, false, false, 0, 0, 1, 0, 0, 0, []))])], 0, [])
set_option maxRecDepth 100000 in
theorem v_X11_end : VE MYT dflT E_X11_end := ⟨⟨⟨⟨⟨dX11_end_0, rfl⟩, rfl⟩, ⟨⟨dX11_end_1, rfl⟩, rfl⟩, ⟨⟨dX11_end_4, rfl⟩, rfl⟩, ⟨⟨dX11_end_5, rfl⟩, rfl⟩, ⟨⟨dX11_end_6, rfl⟩, Or.inl ⟨by decide, _, _, fX11_10⟩⟩, ⟨⟨dX11_end_9, rfl⟩, Or.inl ⟨by decide, _, _, fX11_32⟩⟩, ⟨⟨dX11_end_12, rfl⟩, rfl⟩, ⟨⟨dX11_end_15, rfl⟩, rfl⟩, ⟨⟨dX11_end_16, rfl⟩, Or.inr (Or.inl ⟨rfl, rfl⟩)⟩, ⟨⟨dX11_end_17, rfl⟩, rfl⟩, ⟨⟨dX11_end_18, rfl⟩, Or.inl ⟨by decide, _, _, fX11_10⟩⟩, ⟨⟨dX11_end_21, rfl⟩, rfl⟩, ⟨⟨dX11_end_22, rfl⟩, Or.inl ⟨rfl, fX11_32⟩⟩, ⟨⟨dX11_end_25, rfl⟩, rfl⟩, ⟨⟨dX11_end_26, rfl⟩, Or.inr (Or.inl ⟨rfl, rfl⟩)⟩, trivial⟩, trivial⟩, by decide, Or.inl ⟨rfl, by decide, rfl⟩⟩
set_option maxRecDepth 100000 in
theorem g_X11_end_0 (S : sT) (call : cT) (n : Nat) (a0 : Nat) (x1 : Int32) (h : pH) : bd S call dflT E_X11_end (n + 1) 0 [some (.ref a0), some (.int x1)] [] h = ((if x1 < 0 then zR 0 (some (.inl (some (.int 0)), h)) else gV h (.ref a0) 14 0 (fun w1 => gI h w1 9 1 (fun y2 => (if x1 ≤ y2 then gV h (.ref a0) 14 0 (fun w3 => pF h w3 9 1 (.int x1) (fun h4 => zR 1 (some (.inl (some (.int 1)), h4)))) else zR 0 (some (.inl (some (.int 0)), h))))))) := rfl
theorem dX11_needIndex_0 : decode cX11_needIndex 0 = .ok (.iload_n 0, 1) := by decide +kernel
theorem dX11_needIndex_1 : decode cX11_needIndex 1 = .ok (.ifCond .lt 8, 3) := by decide +kernel
theorem dX11_needIndex_4 : decode cX11_needIndex 4 = .ok (.iload_n 0, 1) := by decide +kernel
theorem dX11_needIndex_5 : decode cX11_needIndex 5 = .ok (.iload_n 1, 1) := by decide +kernel
theorem dX11_needIndex_6 : decode cX11_needIndex 6 = .ok (.if_icmp .lt 14, 3) := by decide +kernel
theorem dX11_needIndex_9 : decode cX11_needIndex 9 = .ok (.new 316, 3) := by decide +kernel
theorem dX11_needIndex_12 : decode cX11_needIndex 12 = .ok (.dup, 1) := by decide +kernel
theorem dX11_needIndex_13 : decode cX11_needIndex 13 = .ok (.ldc_w 318, 3) := by decide +kernel
theorem dX11_needIndex_16 : decode cX11_needIndex 16 = .ok (.invokespecial 320, 3) := by decide +kernel
theorem dX11_needIndex_19 : decode cX11_needIndex 19 = .ok (.athrow, 1) := by decide +kernel
theorem dX11_needIndex_20 : decode cX11_needIndex 20 = .ok (.return_, 1) := by decide +kernel
theorem thX11_needIndex_9 : GT mX11_needIndex 9 (xnm 0) := fun G d mc ms loc st h h8 => go_throwW (ik := 316) (is := 318) (ic := 320) (i := 0) (by decide) ⟨by decide, ⟨_, rfl, rfl, rfl⟩, tw_in tk_3 (i := 149) rfl rfl, tw_in tk_1 (i := 17) rfl rfl, by decide +kernel, by decide +kernel⟩ rfl h8 dX11_needIndex_9 dX11_needIndex_12 dX11_needIndex_13 dX11_needIndex_16 dX11_needIndex_19
noncomputable def E_X11_needIndex : mE := (mX11_needIndex, [(20, [(0, (.iload_n 0, 1, false, false, 0, 0, 0, 0, 0, 0, [])), (1, (.ifCond .lt 8, 4, false, false, 9, 0, 0, 0, 0, 0, [])), (4, (.iload_n 0, 5, false, false, 0, 0, 0, 0, 0, 0, [])), (5, (.iload_n 1, 6, false, false, 1, 0, 0, 0, 0, 0, [])), (6, (.if_icmp .lt 14, 9, false, false, 20, 0, 0, 0, 0, 0, [])), (9, (.new 316, 12, false, false, 0, 0, 1, 0, 0, 0, [])), (20, (.return_, 21, false, false, 0, 0, 0, 0, 0, 0, []))])], 0, [])
set_option maxRecDepth 100000 in
theorem v_X11_needIndex : VE MYT dflT E_X11_needIndex := ⟨⟨⟨⟨⟨dX11_needIndex_0, rfl⟩, rfl⟩, ⟨⟨dX11_needIndex_1, rfl⟩, rfl⟩, ⟨⟨dX11_needIndex_4, rfl⟩, rfl⟩, ⟨⟨dX11_needIndex_5, rfl⟩, rfl⟩, ⟨⟨dX11_needIndex_6, rfl⟩, rfl⟩, ⟨⟨dX11_needIndex_9, rfl⟩, Or.inr ⟨rfl, rfl, thX11_needIndex_9⟩⟩, ⟨⟨dX11_needIndex_20, rfl⟩, rfl⟩, trivial⟩, trivial⟩, by decide, Or.inl ⟨rfl, by decide, rfl⟩⟩
set_option maxRecDepth 100000 in
theorem g_X11_needIndex_0 (S : sT) (call : cT) (n : Nat) (x0 : Int32) (x1 : Int32) (h : pH) : bd S call dflT E_X11_needIndex (n + 1) 0 [some (.int x0), some (.int x1)] [] h = ((if x0 < 0 then some (.inr (xnm 0), h) else (if x0 < x1 then some (.inl none, h) else some (.inr (xnm 0), h)))) := rfl
theorem dX11_needField_0 : decode cX11_needField 0 = .ok (.iload_n 0, 1) := by decide +kernel
theorem dX11_needField_1 : decode cX11_needField 1 = .ok (.bipush 48, 2) := by decide +kernel
theorem dX11_needField_3 : decode cX11_needField 3 = .ok (.invokestatic 234, 3) := by decide +kernel
theorem dX11_needField_6 : decode cX11_needField 6 = .ok (.return_, 1) := by decide +kernel
noncomputable def E_X11_needField : mE := (mX11_needField, [(6, [(0, (.iload_n 0, 1, false, false, 0, 0, 0, 0, 0, 0, [])), (1, (.bipush 48, 3, false, false, 0, 0, 0, 0, 48, 0, [])), (3, (.invokestatic 234, 6, false, false, 19, 2, 0, 0, 0, 0, [])), (6, (.return_, 7, false, false, 0, 0, 0, 0, 0, 0, []))])], 0, [])
set_option maxRecDepth 100000 in
theorem v_X11_needField : VE MYT dflT E_X11_needField := ⟨⟨⟨⟨⟨dX11_needField_0, rfl⟩, rfl⟩, ⟨⟨dX11_needField_1, rfl⟩, rfl⟩, ⟨⟨dX11_needField_3, rfl⟩, Or.inl ⟨rfl, _, my_19, sX11_234⟩⟩, ⟨⟨dX11_needField_6, rfl⟩, rfl⟩, trivial⟩, trivial⟩, by decide, Or.inl ⟨rfl, by decide, rfl⟩⟩
set_option maxRecDepth 100000 in
theorem g_X11_needField_0 (S : sT) (call : cT) (n : Nat) (x0 : Int32) (h : pH) : bd S call dflT E_X11_needField (n + 1) 0 [some (.int x0)] [] h = (cU (call 19 [.int x0, .int 48] h) (fun h1 => some (.inl none, h1))) := rfl
theorem dX11_needWithin_0 : decode cX11_needWithin 0 = .ok (.iload_n 0, 1) := by decide +kernel
theorem dX11_needWithin_1 : decode cX11_needWithin 1 = .ok (.iload_n 1, 1) := by decide +kernel
theorem dX11_needWithin_2 : decode cX11_needWithin 2 = .ok (.if_icmp .lt 8, 3) := by decide +kernel
theorem dX11_needWithin_5 : decode cX11_needWithin 5 = .ok (.iload_n 0, 1) := by decide +kernel
theorem dX11_needWithin_6 : decode cX11_needWithin 6 = .ok (.iload_n 2, 1) := by decide +kernel
theorem dX11_needWithin_7 : decode cX11_needWithin 7 = .ok (.if_icmp .le 14, 3) := by decide +kernel
theorem dX11_needWithin_10 : decode cX11_needWithin 10 = .ok (.new 323, 3) := by decide +kernel
theorem dX11_needWithin_13 : decode cX11_needWithin 13 = .ok (.dup, 1) := by decide +kernel
theorem dX11_needWithin_14 : decode cX11_needWithin 14 = .ok (.ldc_w 325, 3) := by decide +kernel
theorem dX11_needWithin_17 : decode cX11_needWithin 17 = .ok (.invokespecial 327, 3) := by decide +kernel
theorem dX11_needWithin_20 : decode cX11_needWithin 20 = .ok (.athrow, 1) := by decide +kernel
theorem dX11_needWithin_21 : decode cX11_needWithin 21 = .ok (.return_, 1) := by decide +kernel
theorem thX11_needWithin_10 : GT mX11_needWithin 10 (xnm 1) := fun G d mc ms loc st h h8 => go_throwW (ik := 323) (is := 325) (ic := 327) (i := 1) (by decide) ⟨by decide, ⟨_, rfl, rfl, rfl⟩, tw_in tk_3 (i := 165) rfl rfl, tw_in tk_1 (i := 20) rfl rfl, by decide +kernel, by decide +kernel⟩ rfl h8 dX11_needWithin_10 dX11_needWithin_13 dX11_needWithin_14 dX11_needWithin_17 dX11_needWithin_20
noncomputable def E_X11_needWithin : mE := (mX11_needWithin, [(21, [(0, (.iload_n 0, 1, false, false, 0, 0, 0, 0, 0, 0, [])), (1, (.iload_n 1, 2, false, false, 1, 0, 0, 0, 0, 0, [])), (2, (.if_icmp .lt 8, 5, false, false, 10, 0, 0, 0, 0, 0, [])), (5, (.iload_n 0, 6, false, false, 0, 0, 0, 0, 0, 0, [])), (6, (.iload_n 2, 7, false, false, 2, 0, 0, 0, 0, 0, [])), (7, (.if_icmp .le 14, 10, false, false, 21, 0, 0, 0, 0, 0, [])), (10, (.new 323, 13, false, false, 1, 0, 1, 0, 0, 0, [])), (21, (.return_, 22, false, false, 0, 0, 0, 0, 0, 0, []))])], 0, [])
set_option maxRecDepth 100000 in
theorem v_X11_needWithin : VE MYT dflT E_X11_needWithin := ⟨⟨⟨⟨⟨dX11_needWithin_0, rfl⟩, rfl⟩, ⟨⟨dX11_needWithin_1, rfl⟩, rfl⟩, ⟨⟨dX11_needWithin_2, rfl⟩, rfl⟩, ⟨⟨dX11_needWithin_5, rfl⟩, rfl⟩, ⟨⟨dX11_needWithin_6, rfl⟩, rfl⟩, ⟨⟨dX11_needWithin_7, rfl⟩, rfl⟩, ⟨⟨dX11_needWithin_10, rfl⟩, Or.inr ⟨rfl, rfl, thX11_needWithin_10⟩⟩, ⟨⟨dX11_needWithin_21, rfl⟩, rfl⟩, trivial⟩, trivial⟩, by decide, Or.inl ⟨rfl, by decide, rfl⟩⟩
set_option maxRecDepth 100000 in
theorem g_X11_needWithin_0 (S : sT) (call : cT) (n : Nat) (x0 : Int32) (x1 : Int32) (x2 : Int32) (h : pH) : bd S call dflT E_X11_needWithin (n + 1) 0 [some (.int x0), some (.int x1), some (.int x2)] [] h = ((if x0 < x1 then some (.inr (xnm 1), h) else (if x0 ≤ x2 then some (.inl none, h) else some (.inr (xnm 1), h)))) := rfl
theorem dX11_field_0 : decode cX11_field 0 = .ok (.iload_n 1, 1) := by decide +kernel
theorem dX11_field_1 : decode cX11_field 1 = .ok (.invokestatic 40, 3) := by decide +kernel
theorem dX11_field_4 : decode cX11_field 4 = .ok (.iload_n 2, 1) := by decide +kernel
theorem dX11_field_5 : decode cX11_field 5 = .ok (.iconst 0, 1) := by decide +kernel
theorem dX11_field_6 : decode cX11_field 6 = .ok (.bipush 9, 2) := by decide +kernel
theorem dX11_field_8 : decode cX11_field 8 = .ok (.invokestatic 43, 3) := by decide +kernel
theorem dX11_field_11 : decode cX11_field 11 = .ok (.iload_n 3, 1) := by decide +kernel
theorem dX11_field_12 : decode cX11_field 12 = .ok (.iconst 0, 1) := by decide +kernel
theorem dX11_field_13 : decode cX11_field 13 = .ok (.bipush 9, 2) := by decide +kernel
theorem dX11_field_15 : decode cX11_field 15 = .ok (.invokestatic 43, 3) := by decide +kernel
theorem dX11_field_18 : decode cX11_field 18 = .ok (.iload 4, 2) := by decide +kernel
theorem dX11_field_20 : decode cX11_field 20 = .ok (.iconst 0, 1) := by decide +kernel
theorem dX11_field_21 : decode cX11_field 21 = .ok (.bipush 20, 2) := by decide +kernel
theorem dX11_field_23 : decode cX11_field 23 = .ok (.invokestatic 43, 3) := by decide +kernel
theorem dX11_field_26 : decode cX11_field 26 = .ok (.iload 5, 2) := by decide +kernel
theorem dX11_field_28 : decode cX11_field 28 = .ok (.iconst 0, 1) := by decide +kernel
theorem dX11_field_29 : decode cX11_field 29 = .ok (.bipush 99, 2) := by decide +kernel
theorem dX11_field_31 : decode cX11_field 31 = .ok (.invokestatic 43, 3) := by decide +kernel
theorem dX11_field_34 : decode cX11_field 34 = .ok (.iload 6, 2) := by decide +kernel
theorem dX11_field_36 : decode cX11_field 36 = .ok (.iconst 0, 1) := by decide +kernel
theorem dX11_field_37 : decode cX11_field 37 = .ok (.sipush 300, 3) := by decide +kernel
theorem dX11_field_40 : decode cX11_field 40 = .ok (.invokestatic 43, 3) := by decide +kernel
theorem dX11_field_43 : decode cX11_field 43 = .ok (.aload_n 0, 1) := by decide +kernel
theorem dX11_field_44 : decode cX11_field 44 = .ok (.getfield 19, 3) := by decide +kernel
theorem dX11_field_47 : decode cX11_field 47 = .ok (.getfield 47, 3) := by decide +kernel
theorem dX11_field_50 : decode cX11_field 50 = .ok (.iload_n 1, 1) := by decide +kernel
theorem dX11_field_51 : decode cX11_field 51 = .ok (.invokevirtual 51, 3) := by decide +kernel
theorem dX11_field_54 : decode cX11_field 54 = .ok (.ifCond .eq 5, 3) := by decide +kernel
theorem dX11_field_57 : decode cX11_field 57 = .ok (.iconst 0, 1) := by decide +kernel
theorem dX11_field_58 : decode cX11_field 58 = .ok (.ireturn, 1) := by decide +kernel
theorem dX11_field_59 : decode cX11_field 59 = .ok (.aload_n 0, 1) := by decide +kernel
theorem dX11_field_60 : decode cX11_field 60 = .ok (.getfield 19, 3) := by decide +kernel
theorem dX11_field_63 : decode cX11_field 63 = .ok (.getfield 47, 3) := by decide +kernel
theorem dX11_field_66 : decode cX11_field 66 = .ok (.iconst 0, 1) := by decide +kernel
theorem dX11_field_67 : decode cX11_field 67 = .ok (.iload_n 1, 1) := by decide +kernel
theorem dX11_field_68 : decode cX11_field 68 = .ok (.iload_n 2, 1) := by decide +kernel
theorem dX11_field_69 : decode cX11_field 69 = .ok (.invokevirtual 57, 3) := by decide +kernel
theorem dX11_field_72 : decode cX11_field 72 = .ok (.aload_n 0, 1) := by decide +kernel
theorem dX11_field_73 : decode cX11_field 73 = .ok (.getfield 19, 3) := by decide +kernel
theorem dX11_field_76 : decode cX11_field 76 = .ok (.getfield 47, 3) := by decide +kernel
theorem dX11_field_79 : decode cX11_field 79 = .ok (.iconst 1, 1) := by decide +kernel
theorem dX11_field_80 : decode cX11_field 80 = .ok (.iload_n 1, 1) := by decide +kernel
theorem dX11_field_81 : decode cX11_field 81 = .ok (.iload_n 3, 1) := by decide +kernel
theorem dX11_field_82 : decode cX11_field 82 = .ok (.invokevirtual 57, 3) := by decide +kernel
theorem dX11_field_85 : decode cX11_field 85 = .ok (.aload_n 0, 1) := by decide +kernel
theorem dX11_field_86 : decode cX11_field 86 = .ok (.getfield 19, 3) := by decide +kernel
theorem dX11_field_89 : decode cX11_field 89 = .ok (.getfield 47, 3) := by decide +kernel
theorem dX11_field_92 : decode cX11_field 92 = .ok (.iconst 2, 1) := by decide +kernel
theorem dX11_field_93 : decode cX11_field 93 = .ok (.iload_n 1, 1) := by decide +kernel
theorem dX11_field_94 : decode cX11_field 94 = .ok (.iload 4, 2) := by decide +kernel
theorem dX11_field_96 : decode cX11_field 96 = .ok (.invokevirtual 57, 3) := by decide +kernel
theorem dX11_field_99 : decode cX11_field 99 = .ok (.aload_n 0, 1) := by decide +kernel
theorem dX11_field_100 : decode cX11_field 100 = .ok (.getfield 19, 3) := by decide +kernel
theorem dX11_field_103 : decode cX11_field 103 = .ok (.getfield 47, 3) := by decide +kernel
theorem dX11_field_106 : decode cX11_field 106 = .ok (.bipush 6, 2) := by decide +kernel
theorem dX11_field_108 : decode cX11_field 108 = .ok (.iload_n 1, 1) := by decide +kernel
theorem dX11_field_109 : decode cX11_field 109 = .ok (.iload 5, 2) := by decide +kernel
theorem dX11_field_111 : decode cX11_field 111 = .ok (.invokevirtual 57, 3) := by decide +kernel
theorem dX11_field_114 : decode cX11_field 114 = .ok (.aload_n 0, 1) := by decide +kernel
theorem dX11_field_115 : decode cX11_field 115 = .ok (.getfield 19, 3) := by decide +kernel
theorem dX11_field_118 : decode cX11_field 118 = .ok (.getfield 47, 3) := by decide +kernel
theorem dX11_field_121 : decode cX11_field 121 = .ok (.bipush 7, 2) := by decide +kernel
theorem dX11_field_123 : decode cX11_field 123 = .ok (.iload_n 1, 1) := by decide +kernel
theorem dX11_field_124 : decode cX11_field 124 = .ok (.iload 6, 2) := by decide +kernel
theorem dX11_field_126 : decode cX11_field 126 = .ok (.invokevirtual 57, 3) := by decide +kernel
theorem dX11_field_129 : decode cX11_field 129 = .ok (.iconst 1, 1) := by decide +kernel
theorem dX11_field_130 : decode cX11_field 130 = .ok (.ireturn, 1) := by decide +kernel
noncomputable def E_X11_field : mE := (mX11_field, [(44, [(0, (.iload_n 1, 1, false, false, 1, 0, 0, 0, 0, 0, [])), (1, (.invokestatic 40, 4, false, false, 20, 1, 0, 0, 0, 0, [])), (4, (.iload_n 2, 5, false, false, 2, 0, 0, 0, 0, 0, [])), (5, (.iconst 0, 6, false, false, 0, 0, 0, 0, 0, 0, [])), (6, (.bipush 9, 8, false, false, 0, 0, 0, 0, 9, 0, [])), (8, (.invokestatic 43, 11, false, false, 21, 3, 0, 0, 0, 0, [])), (11, (.iload_n 3, 12, false, false, 3, 0, 0, 0, 0, 0, [])), (12, (.iconst 0, 13, false, false, 0, 0, 0, 0, 0, 0, [])), (13, (.bipush 9, 15, false, false, 0, 0, 0, 0, 9, 0, [])), (15, (.invokestatic 43, 18, false, false, 21, 3, 0, 0, 0, 0, [])), (18, (.iload 4, 20, false, false, 4, 0, 0, 0, 0, 0, [])), (20, (.iconst 0, 21, false, false, 0, 0, 0, 0, 0, 0, [])), (21, (.bipush 20, 23, false, false, 0, 0, 0, 0, 20, 0, [])), (23, (.invokestatic 43, 26, false, false, 21, 3, 0, 0, 0, 0, [])), (26, (.iload 5, 28, false, false, 5, 0, 0, 0, 0, 0, [])), (28, (.iconst 0, 29, false, false, 0, 0, 0, 0, 0, 0, [])), (29, (.bipush 99, 31, false, false, 0, 0, 0, 0, 99, 0, [])), (31, (.invokestatic 43, 34, false, false, 21, 3, 0, 0, 0, 0, [])), (34, (.iload 6, 36, false, false, 6, 0, 0, 0, 0, 0, [])), (36, (.iconst 0, 37, false, false, 0, 0, 0, 0, 0, 0, [])), (37, (.sipush 300, 40, false, false, 0, 0, 0, 0, 300, 0, [])), (40, (.invokestatic 43, 43, false, false, 21, 3, 0, 0, 0, 0, [])), (43, (.aload_n 0, 44, false, false, 0, 0, 0, 0, 0, 0, [])), (44, (.getfield 19, 47, false, false, 14, 1, 1, 0, 0, 0, []))]),
  (92, [(47, (.getfield 47, 50, false, false, 3, 1, 1, 0, 0, 0, [])), (50, (.iload_n 1, 51, false, false, 1, 0, 0, 0, 0, 0, [])), (51, (.invokevirtual 51, 54, false, false, 24, 1, 1, 5, 0, 0, [])), (54, (.ifCond .eq 5, 57, false, false, 59, 0, 0, 0, 0, 0, [])), (57, (.iconst 0, 58, false, false, 0, 0, 0, 0, 0, 0, [])), (58, (.ireturn, 59, false, false, 0, 0, 1, 0, 0, 0, [])), (59, (.aload_n 0, 60, false, false, 0, 0, 0, 0, 0, 0, [])), (60, (.getfield 19, 63, false, false, 14, 1, 1, 0, 0, 0, [])), (63, (.getfield 47, 66, false, false, 3, 1, 1, 0, 0, 0, [])), (66, (.iconst 0, 67, false, false, 0, 0, 0, 0, 0, 0, [])), (67, (.iload_n 1, 68, false, false, 1, 0, 0, 0, 0, 0, [])), (68, (.iload_n 2, 69, false, false, 2, 0, 0, 0, 0, 0, [])), (69, (.invokevirtual 57, 72, false, false, 25, 3, 0, 5, 0, 0, [])), (72, (.aload_n 0, 73, false, false, 0, 0, 0, 0, 0, 0, [])), (73, (.getfield 19, 76, false, false, 14, 1, 1, 0, 0, 0, [])), (76, (.getfield 47, 79, false, false, 3, 1, 1, 0, 0, 0, [])), (79, (.iconst 1, 80, false, false, 0, 0, 0, 0, 1, 0, [])), (80, (.iload_n 1, 81, false, false, 1, 0, 0, 0, 0, 0, [])), (81, (.iload_n 3, 82, false, false, 3, 0, 0, 0, 0, 0, [])), (82, (.invokevirtual 57, 85, false, false, 25, 3, 0, 5, 0, 0, [])), (85, (.aload_n 0, 86, false, false, 0, 0, 0, 0, 0, 0, [])), (86, (.getfield 19, 89, false, false, 14, 1, 1, 0, 0, 0, [])), (89, (.getfield 47, 92, false, false, 3, 1, 1, 0, 0, 0, [])), (92, (.iconst 2, 93, false, false, 0, 0, 0, 0, 2, 0, []))]),
  (130, [(93, (.iload_n 1, 94, false, false, 1, 0, 0, 0, 0, 0, [])), (94, (.iload 4, 96, false, false, 4, 0, 0, 0, 0, 0, [])), (96, (.invokevirtual 57, 99, false, false, 25, 3, 0, 5, 0, 0, [])), (99, (.aload_n 0, 100, false, false, 0, 0, 0, 0, 0, 0, [])), (100, (.getfield 19, 103, false, false, 14, 1, 1, 0, 0, 0, [])), (103, (.getfield 47, 106, false, false, 3, 1, 1, 0, 0, 0, [])), (106, (.bipush 6, 108, false, false, 0, 0, 0, 0, 6, 0, [])), (108, (.iload_n 1, 109, false, false, 1, 0, 0, 0, 0, 0, [])), (109, (.iload 5, 111, false, false, 5, 0, 0, 0, 0, 0, [])), (111, (.invokevirtual 57, 114, false, false, 25, 3, 0, 5, 0, 0, [])), (114, (.aload_n 0, 115, false, false, 0, 0, 0, 0, 0, 0, [])), (115, (.getfield 19, 118, false, false, 14, 1, 1, 0, 0, 0, [])), (118, (.getfield 47, 121, false, false, 3, 1, 1, 0, 0, 0, [])), (121, (.bipush 7, 123, false, false, 0, 0, 0, 0, 7, 0, [])), (123, (.iload_n 1, 124, false, false, 1, 0, 0, 0, 0, 0, [])), (124, (.iload 6, 126, false, false, 6, 0, 0, 0, 0, 0, [])), (126, (.invokevirtual 57, 129, false, false, 25, 3, 0, 5, 0, 0, [])), (129, (.iconst 1, 130, false, false, 0, 0, 0, 0, 1, 0, [])), (130, (.ireturn, 131, false, false, 0, 0, 1, 0, 0, 0, []))])], 0, [])
set_option maxRecDepth 100000 in
theorem v_X11_field : VE MYT dflT E_X11_field := ⟨⟨⟨⟨⟨dX11_field_0, rfl⟩, rfl⟩, ⟨⟨dX11_field_1, rfl⟩, Or.inl ⟨rfl, _, my_20, sX11_40⟩⟩, ⟨⟨dX11_field_4, rfl⟩, rfl⟩, ⟨⟨dX11_field_5, rfl⟩, rfl⟩, ⟨⟨dX11_field_6, rfl⟩, rfl⟩, ⟨⟨dX11_field_8, rfl⟩, Or.inl ⟨rfl, _, my_21, sX11_43⟩⟩, ⟨⟨dX11_field_11, rfl⟩, rfl⟩, ⟨⟨dX11_field_12, rfl⟩, rfl⟩, ⟨⟨dX11_field_13, rfl⟩, rfl⟩, ⟨⟨dX11_field_15, rfl⟩, Or.inl ⟨rfl, _, my_21, sX11_43⟩⟩, ⟨⟨dX11_field_18, rfl⟩, rfl⟩, ⟨⟨dX11_field_20, rfl⟩, rfl⟩, ⟨⟨dX11_field_21, rfl⟩, rfl⟩, ⟨⟨dX11_field_23, rfl⟩, Or.inl ⟨rfl, _, my_21, sX11_43⟩⟩, ⟨⟨dX11_field_26, rfl⟩, rfl⟩, ⟨⟨dX11_field_28, rfl⟩, rfl⟩, ⟨⟨dX11_field_29, rfl⟩, rfl⟩, ⟨⟨dX11_field_31, rfl⟩, Or.inl ⟨rfl, _, my_21, sX11_43⟩⟩, ⟨⟨dX11_field_34, rfl⟩, rfl⟩, ⟨⟨dX11_field_36, rfl⟩, rfl⟩, ⟨⟨dX11_field_37, rfl⟩, rfl⟩, ⟨⟨dX11_field_40, rfl⟩, Or.inl ⟨rfl, _, my_21, sX11_43⟩⟩, ⟨⟨dX11_field_43, rfl⟩, rfl⟩, ⟨⟨dX11_field_44, rfl⟩, Or.inl ⟨by decide, _, _, fX11_19⟩⟩, trivial⟩,
  ⟨⟨⟨dX11_field_47, rfl⟩, Or.inl ⟨by decide, _, _, fX11_47⟩⟩, ⟨⟨dX11_field_50, rfl⟩, rfl⟩, ⟨⟨dX11_field_51, rfl⟩, Or.inr ⟨by decide, ⟨_, my_24, sX11_51⟩, fun q => absurd q (by decide)⟩⟩, ⟨⟨dX11_field_54, rfl⟩, rfl⟩, ⟨⟨dX11_field_57, rfl⟩, rfl⟩, ⟨⟨dX11_field_58, rfl⟩, Or.inr (Or.inl ⟨rfl, rfl⟩)⟩, ⟨⟨dX11_field_59, rfl⟩, rfl⟩, ⟨⟨dX11_field_60, rfl⟩, Or.inl ⟨by decide, _, _, fX11_19⟩⟩, ⟨⟨dX11_field_63, rfl⟩, Or.inl ⟨by decide, _, _, fX11_47⟩⟩, ⟨⟨dX11_field_66, rfl⟩, rfl⟩, ⟨⟨dX11_field_67, rfl⟩, rfl⟩, ⟨⟨dX11_field_68, rfl⟩, rfl⟩, ⟨⟨dX11_field_69, rfl⟩, Or.inr ⟨by decide, ⟨_, my_25, sX11_57⟩, fun q => absurd q (by decide)⟩⟩, ⟨⟨dX11_field_72, rfl⟩, rfl⟩, ⟨⟨dX11_field_73, rfl⟩, Or.inl ⟨by decide, _, _, fX11_19⟩⟩, ⟨⟨dX11_field_76, rfl⟩, Or.inl ⟨by decide, _, _, fX11_47⟩⟩, ⟨⟨dX11_field_79, rfl⟩, rfl⟩, ⟨⟨dX11_field_80, rfl⟩, rfl⟩, ⟨⟨dX11_field_81, rfl⟩, rfl⟩, ⟨⟨dX11_field_82, rfl⟩, Or.inr ⟨by decide, ⟨_, my_25, sX11_57⟩, fun q => absurd q (by decide)⟩⟩, ⟨⟨dX11_field_85, rfl⟩, rfl⟩, ⟨⟨dX11_field_86, rfl⟩, Or.inl ⟨by decide, _, _, fX11_19⟩⟩, ⟨⟨dX11_field_89, rfl⟩, Or.inl ⟨by decide, _, _, fX11_47⟩⟩, ⟨⟨dX11_field_92, rfl⟩, rfl⟩, trivial⟩,
  ⟨⟨⟨dX11_field_93, rfl⟩, rfl⟩, ⟨⟨dX11_field_94, rfl⟩, rfl⟩, ⟨⟨dX11_field_96, rfl⟩, Or.inr ⟨by decide, ⟨_, my_25, sX11_57⟩, fun q => absurd q (by decide)⟩⟩, ⟨⟨dX11_field_99, rfl⟩, rfl⟩, ⟨⟨dX11_field_100, rfl⟩, Or.inl ⟨by decide, _, _, fX11_19⟩⟩, ⟨⟨dX11_field_103, rfl⟩, Or.inl ⟨by decide, _, _, fX11_47⟩⟩, ⟨⟨dX11_field_106, rfl⟩, rfl⟩, ⟨⟨dX11_field_108, rfl⟩, rfl⟩, ⟨⟨dX11_field_109, rfl⟩, rfl⟩, ⟨⟨dX11_field_111, rfl⟩, Or.inr ⟨by decide, ⟨_, my_25, sX11_57⟩, fun q => absurd q (by decide)⟩⟩, ⟨⟨dX11_field_114, rfl⟩, rfl⟩, ⟨⟨dX11_field_115, rfl⟩, Or.inl ⟨by decide, _, _, fX11_19⟩⟩, ⟨⟨dX11_field_118, rfl⟩, Or.inl ⟨by decide, _, _, fX11_47⟩⟩, ⟨⟨dX11_field_121, rfl⟩, rfl⟩, ⟨⟨dX11_field_123, rfl⟩, rfl⟩, ⟨⟨dX11_field_124, rfl⟩, rfl⟩, ⟨⟨dX11_field_126, rfl⟩, Or.inr ⟨by decide, ⟨_, my_25, sX11_57⟩, fun q => absurd q (by decide)⟩⟩, ⟨⟨dX11_field_129, rfl⟩, rfl⟩, ⟨⟨dX11_field_130, rfl⟩, Or.inr (Or.inl ⟨rfl, rfl⟩)⟩, trivial⟩, trivial⟩, by decide, Or.inl ⟨rfl, by decide, rfl⟩⟩
set_option maxRecDepth 100000 in
theorem g_X11_field_0 (S : sT) (call : cT) (n : Nat) (a0 : Nat) (x1 : Int32) (x2 : Int32) (x3 : Int32) (x4 : Int32) (x5 : Int32) (x6 : Int32) (h : pH) : bd S call dflT E_X11_field (n + 1) 0 [some (.ref a0), some (.int x1), some (.int x2), some (.int x3), some (.int x4), some (.int x5), some (.int x6)] [] h = (cU (call 20 [.int x1] h) (fun h1 => cU (call 21 [.int x2, .int 0, .int 9] h1) (fun h2 => cU (call 21 [.int x3, .int 0, .int 9] h2) (fun h3 => cU (call 21 [.int x4, .int 0, .int 20] h3) (fun h4 => cU (call 21 [.int x5, .int 0, .int 99] h4) (fun h5 => cU (call 21 [.int x6, .int 0, .int 300] h5) (fun h6 => gV h6 (.ref a0) 14 1 (fun w7 => gV h6 w7 3 1 (fun w8 => rC h6 w8 5 (cI (call 24 [w8, .int x1] h6) (fun y10 h9 => (if y10 = 0 then gV h9 (.ref a0) 14 1 (fun w11 => gV h9 w11 3 1 (fun w12 => rC h9 w12 5 (cU (call 25 [w12, .int 0, .int x1, .int x2] h9) (fun h13 => gV h13 (.ref a0) 14 1 (fun w14 => gV h13 w14 3 1 (fun w15 => rC h13 w15 5 (cU (call 25 [w15, .int 1, .int x1, .int x3] h13) (fun h16 => gV h16 (.ref a0) 14 1 (fun w17 => gV h16 w17 3 1 (fun w18 => rC h16 w18 5 (cU (call 25 [w18, .int 2, .int x1, .int x4] h16) (fun h19 => gV h19 (.ref a0) 14 1 (fun w20 => gV h19 w20 3 1 (fun w21 => rC h19 w21 5 (cU (call 25 [w21, .int 6, .int x1, .int x5] h19) (fun h22 => gV h22 (.ref a0) 14 1 (fun w23 => gV h22 w23 3 1 (fun w24 => rC h22 w24 5 (cU (call 25 [w24, .int 7, .int x1, .int x6] h22) (fun h25 => zR 1 (some (.inl (some (.int 1)), h25)))))))))))))))))))))) else zR 0 (some (.inl (some (.int 0)), h9)))))))))))))) := rfl
theorem dX11_rain_0 : decode cX11_rain 0 = .ok (.iload_n 1, 1) := by decide +kernel
theorem dX11_rain_1 : decode cX11_rain 1 = .ok (.iconst 0, 1) := by decide +kernel
theorem dX11_rain_2 : decode cX11_rain 2 = .ok (.bipush 100, 2) := by decide +kernel
theorem dX11_rain_4 : decode cX11_rain 4 = .ok (.invokestatic 43, 3) := by decide +kernel
theorem dX11_rain_7 : decode cX11_rain 7 = .ok (.iload_n 3, 1) := by decide +kernel
theorem dX11_rain_8 : decode cX11_rain 8 = .ok (.ifCond .eq 10, 3) := by decide +kernel
theorem dX11_rain_11 : decode cX11_rain 11 = .ok (.iload_n 2, 1) := by decide +kernel
theorem dX11_rain_12 : decode cX11_rain 12 = .ok (.bipush (-5), 2) := by decide +kernel
theorem dX11_rain_14 : decode cX11_rain 14 = .ok (.iconst 5, 1) := by decide +kernel
theorem dX11_rain_15 : decode cX11_rain 15 = .ok (.invokestatic 43, 3) := by decide +kernel
theorem dX11_rain_18 : decode cX11_rain 18 = .ok (.aload_n 0, 1) := by decide +kernel
theorem dX11_rain_19 : decode cX11_rain 19 = .ok (.getfield 19, 3) := by decide +kernel
theorem dX11_rain_22 : decode cX11_rain 22 = .ok (.getfield 60, 3) := by decide +kernel
theorem dX11_rain_25 : decode cX11_rain 25 = .ok (.iload_n 1, 1) := by decide +kernel
theorem dX11_rain_26 : decode cX11_rain 26 = .ok (.iload_n 3, 1) := by decide +kernel
theorem dX11_rain_27 : decode cX11_rain 27 = .ok (.ifCond .eq 7, 3) := by decide +kernel
theorem dX11_rain_30 : decode cX11_rain 30 = .ok (.iload_n 2, 1) := by decide +kernel
theorem dX11_rain_31 : decode cX11_rain 31 = .ok (.goto 5, 3) := by decide +kernel
theorem dX11_rain_34 : decode cX11_rain 34 = .ok (.bipush 99, 2) := by decide +kernel
theorem dX11_rain_36 : decode cX11_rain 36 = .ok (.invokevirtual 66, 3) := by decide +kernel
theorem dX11_rain_39 : decode cX11_rain 39 = .ok (.return_, 1) := by decide +kernel
noncomputable def E_X11_rain : mE := (mX11_rain, [(39, [(0, (.iload_n 1, 1, false, false, 1, 0, 0, 0, 0, 0, [])), (1, (.iconst 0, 2, false, false, 0, 0, 0, 0, 0, 0, [])), (2, (.bipush 100, 4, false, false, 0, 0, 0, 0, 100, 0, [])), (4, (.invokestatic 43, 7, false, false, 21, 3, 0, 0, 0, 0, [])), (7, (.iload_n 3, 8, false, false, 3, 0, 0, 0, 0, 0, [])), (8, (.ifCond .eq 10, 11, false, false, 18, 0, 0, 0, 0, 0, [])), (11, (.iload_n 2, 12, false, false, 2, 0, 0, 0, 0, 0, [])), (12, (.bipush (-5), 14, false, false, 0, 0, 0, 0, -5, 0, [])), (14, (.iconst 5, 15, false, false, 0, 0, 0, 0, 5, 0, [])), (15, (.invokestatic 43, 18, false, false, 21, 3, 0, 0, 0, 0, [])), (18, (.aload_n 0, 19, false, false, 0, 0, 0, 0, 0, 0, [])), (19, (.getfield 19, 22, false, false, 14, 1, 1, 0, 0, 0, [])), (22, (.getfield 60, 25, false, false, 3, 3, 1, 0, 0, 0, [])), (25, (.iload_n 1, 26, false, false, 1, 0, 0, 0, 0, 0, [])), (26, (.iload_n 3, 27, false, false, 3, 0, 0, 0, 0, 0, [])), (27, (.ifCond .eq 7, 30, false, false, 34, 0, 0, 0, 0, 0, [])), (30, (.iload_n 2, 31, false, false, 2, 0, 0, 0, 0, 0, [])), (31, (.goto 5, 34, false, false, 36, 0, 0, 0, 0, 0, [])), (34, (.bipush 99, 36, false, false, 0, 0, 0, 0, 99, 0, [])), (36, (.invokevirtual 66, 39, false, false, 34, 2, 0, 7, 0, 0, [])), (39, (.return_, 40, false, false, 0, 0, 0, 0, 0, 0, []))])], 0, [])
set_option maxRecDepth 100000 in
theorem v_X11_rain : VE MYT dflT E_X11_rain := ⟨⟨⟨⟨⟨dX11_rain_0, rfl⟩, rfl⟩, ⟨⟨dX11_rain_1, rfl⟩, rfl⟩, ⟨⟨dX11_rain_2, rfl⟩, rfl⟩, ⟨⟨dX11_rain_4, rfl⟩, Or.inl ⟨rfl, _, my_21, sX11_43⟩⟩, ⟨⟨dX11_rain_7, rfl⟩, rfl⟩, ⟨⟨dX11_rain_8, rfl⟩, rfl⟩, ⟨⟨dX11_rain_11, rfl⟩, rfl⟩, ⟨⟨dX11_rain_12, rfl⟩, rfl⟩, ⟨⟨dX11_rain_14, rfl⟩, rfl⟩, ⟨⟨dX11_rain_15, rfl⟩, Or.inl ⟨rfl, _, my_21, sX11_43⟩⟩, ⟨⟨dX11_rain_18, rfl⟩, rfl⟩, ⟨⟨dX11_rain_19, rfl⟩, Or.inl ⟨by decide, _, _, fX11_19⟩⟩, ⟨⟨dX11_rain_22, rfl⟩, Or.inl ⟨by decide, _, _, fX11_60⟩⟩, ⟨⟨dX11_rain_25, rfl⟩, rfl⟩, ⟨⟨dX11_rain_26, rfl⟩, rfl⟩, ⟨⟨dX11_rain_27, rfl⟩, rfl⟩, ⟨⟨dX11_rain_30, rfl⟩, rfl⟩, ⟨⟨dX11_rain_31, rfl⟩, rfl⟩, ⟨⟨dX11_rain_34, rfl⟩, rfl⟩, ⟨⟨dX11_rain_36, rfl⟩, Or.inr ⟨by decide, ⟨_, my_34, sX11_66⟩, fun q => absurd q (by decide)⟩⟩, ⟨⟨dX11_rain_39, rfl⟩, rfl⟩, trivial⟩, trivial⟩, by decide, Or.inl ⟨rfl, by decide, rfl⟩⟩
set_option maxRecDepth 100000 in
theorem g_X11_rain_0 (S : sT) (call : cT) (n : Nat) (a0 : Nat) (x1 : Int32) (x2 : Int32) (x3 : Int32) (h : pH) : bd S call dflT E_X11_rain (n + 1) 0 [some (.ref a0), some (.int x1), some (.int x2), some (.int x3)] [] h = (cU (call 21 [.int x1, .int 0, .int 100] h) (fun h1 => (if x3 = 0 then gV h1 (.ref a0) 14 1 (fun w2 => gV h1 w2 3 3 (fun w3 => (if x3 = 0 then rC h1 w3 7 (cU (call 34 [w3, .int x1, .int 99] h1) (fun h4 => some (.inl none, h4))) else rC h1 w3 7 (cU (call 34 [w3, .int x1, .int x2] h1) (fun h5 => some (.inl none, h5)))))) else cU (call 21 [.int x2, .int (-5), .int 5] h1) (fun h6 => gV h6 (.ref a0) 14 1 (fun w7 => gV h6 w7 3 3 (fun w8 => (if x3 = 0 then rC h6 w8 7 (cU (call 34 [w8, .int x1, .int 99] h6) (fun h9 => some (.inl none, h9))) else rC h6 w8 7 (cU (call 34 [w8, .int x1, .int x2] h6) (fun h10 => some (.inl none, h10)))))))))) := rfl
theorem dX11_fell_0 : decode cX11_fell 0 = .ok (.iload_n 1, 1) := by decide +kernel
theorem dX11_fell_1 : decode cX11_fell 1 = .ok (.iconst 0, 1) := by decide +kernel
theorem dX11_fell_2 : decode cX11_fell 2 = .ok (.bipush 100, 2) := by decide +kernel
theorem dX11_fell_4 : decode cX11_fell 4 = .ok (.invokestatic 43, 3) := by decide +kernel
theorem dX11_fell_7 : decode cX11_fell 7 = .ok (.aload_n 0, 1) := by decide +kernel
theorem dX11_fell_8 : decode cX11_fell 8 = .ok (.getfield 19, 3) := by decide +kernel
theorem dX11_fell_11 : decode cX11_fell 11 = .ok (.getfield 60, 3) := by decide +kernel
theorem dX11_fell_14 : decode cX11_fell 14 = .ok (.iload_n 1, 1) := by decide +kernel
theorem dX11_fell_15 : decode cX11_fell 15 = .ok (.invokevirtual 70, 3) := by decide +kernel
theorem dX11_fell_18 : decode cX11_fell 18 = .ok (.ireturn, 1) := by decide +kernel
noncomputable def E_X11_fell : mE := (mX11_fell, [(18, [(0, (.iload_n 1, 1, false, false, 1, 0, 0, 0, 0, 0, [])), (1, (.iconst 0, 2, false, false, 0, 0, 0, 0, 0, 0, [])), (2, (.bipush 100, 4, false, false, 0, 0, 0, 0, 100, 0, [])), (4, (.invokestatic 43, 7, false, false, 21, 3, 0, 0, 0, 0, [])), (7, (.aload_n 0, 8, false, false, 0, 0, 0, 0, 0, 0, [])), (8, (.getfield 19, 11, false, false, 14, 1, 1, 0, 0, 0, [])), (11, (.getfield 60, 14, false, false, 3, 3, 1, 0, 0, 0, [])), (14, (.iload_n 1, 15, false, false, 1, 0, 0, 0, 0, 0, [])), (15, (.invokevirtual 70, 18, false, false, 39, 1, 1, 7, 0, 0, [])), (18, (.ireturn, 19, false, false, 0, 0, 0, 0, 0, 0, []))])], 0, [])
set_option maxRecDepth 100000 in
theorem v_X11_fell : VE MYT dflT E_X11_fell := ⟨⟨⟨⟨⟨dX11_fell_0, rfl⟩, rfl⟩, ⟨⟨dX11_fell_1, rfl⟩, rfl⟩, ⟨⟨dX11_fell_2, rfl⟩, rfl⟩, ⟨⟨dX11_fell_4, rfl⟩, Or.inl ⟨rfl, _, my_21, sX11_43⟩⟩, ⟨⟨dX11_fell_7, rfl⟩, rfl⟩, ⟨⟨dX11_fell_8, rfl⟩, Or.inl ⟨by decide, _, _, fX11_19⟩⟩, ⟨⟨dX11_fell_11, rfl⟩, Or.inl ⟨by decide, _, _, fX11_60⟩⟩, ⟨⟨dX11_fell_14, rfl⟩, rfl⟩, ⟨⟨dX11_fell_15, rfl⟩, Or.inr ⟨by decide, ⟨_, my_39, sX11_70⟩, fun q => absurd q (by decide)⟩⟩, ⟨⟨dX11_fell_18, rfl⟩, Or.inl ⟨rfl, rfl⟩⟩, trivial⟩, trivial⟩, by decide, Or.inl ⟨rfl, by decide, rfl⟩⟩
set_option maxRecDepth 100000 in
theorem g_X11_fell_0 (S : sT) (call : cT) (n : Nat) (a0 : Nat) (x1 : Int32) (h : pH) : bd S call dflT E_X11_fell (n + 1) 0 [some (.ref a0), some (.int x1)] [] h = (cU (call 21 [.int x1, .int 0, .int 100] h) (fun h1 => gV h1 (.ref a0) 14 1 (fun w2 => gV h1 w2 3 3 (fun w3 => rC h1 w3 7 (cI (call 39 [w3, .int x1] h1) (fun y5 h4 => some (.inl (some (.int y5)), h4))))))) := rfl
theorem dX11_price_0 : decode cX11_price 0 = .ok (.iload_n 1, 1) := by decide +kernel
theorem dX11_price_1 : decode cX11_price 1 = .ok (.iconst 1, 1) := by decide +kernel
theorem dX11_price_2 : decode cX11_price 2 = .ok (.iconst 4, 1) := by decide +kernel
theorem dX11_price_3 : decode cX11_price 3 = .ok (.invokestatic 43, 3) := by decide +kernel
theorem dX11_price_6 : decode cX11_price 6 = .ok (.iload_n 2, 1) := by decide +kernel
theorem dX11_price_7 : decode cX11_price 7 = .ok (.iconst 0, 1) := by decide +kernel
theorem dX11_price_8 : decode cX11_price 8 = .ok (.bipush 100, 2) := by decide +kernel
theorem dX11_price_10 : decode cX11_price 10 = .ok (.invokestatic 43, 3) := by decide +kernel
theorem dX11_price_13 : decode cX11_price 13 = .ok (.iload_n 3, 1) := by decide +kernel
theorem dX11_price_14 : decode cX11_price 14 = .ok (.iconst 0, 1) := by decide +kernel
theorem dX11_price_15 : decode cX11_price 15 = .ok (.bipush 100, 2) := by decide +kernel
theorem dX11_price_17 : decode cX11_price 17 = .ok (.invokestatic 43, 3) := by decide +kernel
theorem dX11_price_20 : decode cX11_price 20 = .ok (.aload_n 0, 1) := by decide +kernel
theorem dX11_price_21 : decode cX11_price 21 = .ok (.getfield 19, 3) := by decide +kernel
theorem dX11_price_24 : decode cX11_price 24 = .ok (.getfield 60, 3) := by decide +kernel
theorem dX11_price_27 : decode cX11_price 27 = .ok (.iload_n 1, 1) := by decide +kernel
theorem dX11_price_28 : decode cX11_price 28 = .ok (.iload_n 2, 1) := by decide +kernel
theorem dX11_price_29 : decode cX11_price 29 = .ok (.iload_n 3, 1) := by decide +kernel
theorem dX11_price_30 : decode cX11_price 30 = .ok (.aload_n 0, 1) := by decide +kernel
theorem dX11_price_31 : decode cX11_price 31 = .ok (.getfield 19, 3) := by decide +kernel
theorem dX11_price_34 : decode cX11_price 34 = .ok (.getfield 74, 3) := by decide +kernel
theorem dX11_price_37 : decode cX11_price 37 = .ok (.invokevirtual 77, 3) := by decide +kernel
theorem dX11_price_40 : decode cX11_price 40 = .ok (.ireturn, 1) := by decide +kernel
noncomputable def E_X11_price : mE := (mX11_price, [(40, [(0, (.iload_n 1, 1, false, false, 1, 0, 0, 0, 0, 0, [])), (1, (.iconst 1, 2, false, false, 0, 0, 0, 0, 1, 0, [])), (2, (.iconst 4, 3, false, false, 0, 0, 0, 0, 4, 0, [])), (3, (.invokestatic 43, 6, false, false, 21, 3, 0, 0, 0, 0, [])), (6, (.iload_n 2, 7, false, false, 2, 0, 0, 0, 0, 0, [])), (7, (.iconst 0, 8, false, false, 0, 0, 0, 0, 0, 0, [])), (8, (.bipush 100, 10, false, false, 0, 0, 0, 0, 100, 0, [])), (10, (.invokestatic 43, 13, false, false, 21, 3, 0, 0, 0, 0, [])), (13, (.iload_n 3, 14, false, false, 3, 0, 0, 0, 0, 0, [])), (14, (.iconst 0, 15, false, false, 0, 0, 0, 0, 0, 0, [])), (15, (.bipush 100, 17, false, false, 0, 0, 0, 0, 100, 0, [])), (17, (.invokestatic 43, 20, false, false, 21, 3, 0, 0, 0, 0, [])), (20, (.aload_n 0, 21, false, false, 0, 0, 0, 0, 0, 0, [])), (21, (.getfield 19, 24, false, false, 14, 1, 1, 0, 0, 0, [])), (24, (.getfield 60, 27, false, false, 3, 3, 1, 0, 0, 0, [])), (27, (.iload_n 1, 28, false, false, 1, 0, 0, 0, 0, 0, [])), (28, (.iload_n 2, 29, false, false, 2, 0, 0, 0, 0, 0, [])), (29, (.iload_n 3, 30, false, false, 3, 0, 0, 0, 0, 0, [])), (30, (.aload_n 0, 31, false, false, 0, 0, 0, 0, 0, 0, [])), (31, (.getfield 19, 34, false, false, 14, 1, 1, 0, 0, 0, [])), (34, (.getfield 74, 37, false, false, 3, 7, 0, 0, 0, 0, [])), (37, (.invokevirtual 77, 40, false, false, 45, 4, 1, 7, 0, 0, [])), (40, (.ireturn, 41, false, false, 0, 0, 0, 0, 0, 0, []))])], 0, [])
set_option maxRecDepth 100000 in
theorem v_X11_price : VE MYT dflT E_X11_price := ⟨⟨⟨⟨⟨dX11_price_0, rfl⟩, rfl⟩, ⟨⟨dX11_price_1, rfl⟩, rfl⟩, ⟨⟨dX11_price_2, rfl⟩, rfl⟩, ⟨⟨dX11_price_3, rfl⟩, Or.inl ⟨rfl, _, my_21, sX11_43⟩⟩, ⟨⟨dX11_price_6, rfl⟩, rfl⟩, ⟨⟨dX11_price_7, rfl⟩, rfl⟩, ⟨⟨dX11_price_8, rfl⟩, rfl⟩, ⟨⟨dX11_price_10, rfl⟩, Or.inl ⟨rfl, _, my_21, sX11_43⟩⟩, ⟨⟨dX11_price_13, rfl⟩, rfl⟩, ⟨⟨dX11_price_14, rfl⟩, rfl⟩, ⟨⟨dX11_price_15, rfl⟩, rfl⟩, ⟨⟨dX11_price_17, rfl⟩, Or.inl ⟨rfl, _, my_21, sX11_43⟩⟩, ⟨⟨dX11_price_20, rfl⟩, rfl⟩, ⟨⟨dX11_price_21, rfl⟩, Or.inl ⟨by decide, _, _, fX11_19⟩⟩, ⟨⟨dX11_price_24, rfl⟩, Or.inl ⟨by decide, _, _, fX11_60⟩⟩, ⟨⟨dX11_price_27, rfl⟩, rfl⟩, ⟨⟨dX11_price_28, rfl⟩, rfl⟩, ⟨⟨dX11_price_29, rfl⟩, rfl⟩, ⟨⟨dX11_price_30, rfl⟩, rfl⟩, ⟨⟨dX11_price_31, rfl⟩, Or.inl ⟨by decide, _, _, fX11_19⟩⟩, ⟨⟨dX11_price_34, rfl⟩, Or.inl ⟨by decide, _, _, fX11_74⟩⟩, ⟨⟨dX11_price_37, rfl⟩, Or.inr ⟨by decide, ⟨_, my_45, sX11_77⟩, fun q => absurd q (by decide)⟩⟩, ⟨⟨dX11_price_40, rfl⟩, Or.inl ⟨rfl, rfl⟩⟩, trivial⟩, trivial⟩, by decide, Or.inl ⟨rfl, by decide, rfl⟩⟩
set_option maxRecDepth 100000 in
theorem g_X11_price_0 (S : sT) (call : cT) (n : Nat) (a0 : Nat) (x1 : Int32) (x2 : Int32) (x3 : Int32) (h : pH) : bd S call dflT E_X11_price (n + 1) 0 [some (.ref a0), some (.int x1), some (.int x2), some (.int x3)] [] h = (cU (call 21 [.int x1, .int 1, .int 4] h) (fun h1 => cU (call 21 [.int x2, .int 0, .int 100] h1) (fun h2 => cU (call 21 [.int x3, .int 0, .int 100] h2) (fun h3 => gV h3 (.ref a0) 14 1 (fun w4 => gV h3 w4 3 3 (fun w5 => gV h3 (.ref a0) 14 1 (fun w6 => gI h3 w6 3 7 (fun y7 => rC h3 w5 7 (cI (call 45 [w5, .int x1, .int x2, .int x3, .int y7] h3) (fun y9 h8 => some (.inl (some (.int y9)), h8))))))))))) := rfl
theorem dX11_known_0 : decode cX11_known 0 = .ok (.iload_n 1, 1) := by decide +kernel
theorem dX11_known_1 : decode cX11_known 1 = .ok (.iconst 1, 1) := by decide +kernel
theorem dX11_known_2 : decode cX11_known 2 = .ok (.iconst 4, 1) := by decide +kernel
theorem dX11_known_3 : decode cX11_known 3 = .ok (.invokestatic 43, 3) := by decide +kernel
theorem dX11_known_6 : decode cX11_known 6 = .ok (.iload_n 2, 1) := by decide +kernel
theorem dX11_known_7 : decode cX11_known 7 = .ok (.iconst 0, 1) := by decide +kernel
theorem dX11_known_8 : decode cX11_known 8 = .ok (.bipush 100, 2) := by decide +kernel
theorem dX11_known_10 : decode cX11_known 10 = .ok (.invokestatic 43, 3) := by decide +kernel
theorem dX11_known_13 : decode cX11_known 13 = .ok (.aload_n 0, 1) := by decide +kernel
theorem dX11_known_14 : decode cX11_known 14 = .ok (.getfield 19, 3) := by decide +kernel
theorem dX11_known_17 : decode cX11_known 17 = .ok (.getfield 60, 3) := by decide +kernel
theorem dX11_known_20 : decode cX11_known 20 = .ok (.iload_n 1, 1) := by decide +kernel
theorem dX11_known_21 : decode cX11_known 21 = .ok (.iload_n 2, 1) := by decide +kernel
theorem dX11_known_22 : decode cX11_known 22 = .ok (.iload_n 3, 1) := by decide +kernel
theorem dX11_known_23 : decode cX11_known 23 = .ok (.invokevirtual 81, 3) := by decide +kernel
theorem dX11_known_26 : decode cX11_known 26 = .ok (.ireturn, 1) := by decide +kernel
noncomputable def E_X11_known : mE := (mX11_known, [(26, [(0, (.iload_n 1, 1, false, false, 1, 0, 0, 0, 0, 0, [])), (1, (.iconst 1, 2, false, false, 0, 0, 0, 0, 1, 0, [])), (2, (.iconst 4, 3, false, false, 0, 0, 0, 0, 4, 0, [])), (3, (.invokestatic 43, 6, false, false, 21, 3, 0, 0, 0, 0, [])), (6, (.iload_n 2, 7, false, false, 2, 0, 0, 0, 0, 0, [])), (7, (.iconst 0, 8, false, false, 0, 0, 0, 0, 0, 0, [])), (8, (.bipush 100, 10, false, false, 0, 0, 0, 0, 100, 0, [])), (10, (.invokestatic 43, 13, false, false, 21, 3, 0, 0, 0, 0, [])), (13, (.aload_n 0, 14, false, false, 0, 0, 0, 0, 0, 0, [])), (14, (.getfield 19, 17, false, false, 14, 1, 1, 0, 0, 0, [])), (17, (.getfield 60, 20, false, false, 3, 3, 1, 0, 0, 0, [])), (20, (.iload_n 1, 21, false, false, 1, 0, 0, 0, 0, 0, [])), (21, (.iload_n 2, 22, false, false, 2, 0, 0, 0, 0, 0, [])), (22, (.iload_n 3, 23, false, false, 3, 0, 0, 0, 0, 0, [])), (23, (.invokevirtual 81, 26, false, false, 50, 3, 1, 7, 0, 0, [])), (26, (.ireturn, 27, false, false, 0, 0, 0, 0, 0, 0, []))])], 0, [])
set_option maxRecDepth 100000 in
theorem v_X11_known : VE MYT dflT E_X11_known := ⟨⟨⟨⟨⟨dX11_known_0, rfl⟩, rfl⟩, ⟨⟨dX11_known_1, rfl⟩, rfl⟩, ⟨⟨dX11_known_2, rfl⟩, rfl⟩, ⟨⟨dX11_known_3, rfl⟩, Or.inl ⟨rfl, _, my_21, sX11_43⟩⟩, ⟨⟨dX11_known_6, rfl⟩, rfl⟩, ⟨⟨dX11_known_7, rfl⟩, rfl⟩, ⟨⟨dX11_known_8, rfl⟩, rfl⟩, ⟨⟨dX11_known_10, rfl⟩, Or.inl ⟨rfl, _, my_21, sX11_43⟩⟩, ⟨⟨dX11_known_13, rfl⟩, rfl⟩, ⟨⟨dX11_known_14, rfl⟩, Or.inl ⟨by decide, _, _, fX11_19⟩⟩, ⟨⟨dX11_known_17, rfl⟩, Or.inl ⟨by decide, _, _, fX11_60⟩⟩, ⟨⟨dX11_known_20, rfl⟩, rfl⟩, ⟨⟨dX11_known_21, rfl⟩, rfl⟩, ⟨⟨dX11_known_22, rfl⟩, rfl⟩, ⟨⟨dX11_known_23, rfl⟩, Or.inr ⟨by decide, ⟨_, my_50, sX11_81⟩, fun q => absurd q (by decide)⟩⟩, ⟨⟨dX11_known_26, rfl⟩, Or.inl ⟨rfl, rfl⟩⟩, trivial⟩, trivial⟩, by decide, Or.inl ⟨rfl, by decide, rfl⟩⟩
set_option maxRecDepth 100000 in
theorem g_X11_known_0 (S : sT) (call : cT) (n : Nat) (a0 : Nat) (x1 : Int32) (x2 : Int32) (x3 : Int32) (h : pH) : bd S call dflT E_X11_known (n + 1) 0 [some (.ref a0), some (.int x1), some (.int x2), some (.int x3)] [] h = (cU (call 21 [.int x1, .int 1, .int 4] h) (fun h1 => cU (call 21 [.int x2, .int 0, .int 100] h1) (fun h2 => gV h2 (.ref a0) 14 1 (fun w3 => gV h2 w3 3 3 (fun w4 => rC h2 w4 7 (cI (call 50 [w4, .int x1, .int x2, .int x3] h2) (fun y6 h5 => some (.inl (some (.int y6)), h5)))))))) := rfl
theorem dX11_needText_0 : decode cX11_needText 0 = .ok (.iload_n 0, 1) := by decide +kernel
theorem dX11_needText_1 : decode cX11_needText 1 = .ok (.ifCond .ne 14, 3) := by decide +kernel
theorem dX11_needText_4 : decode cX11_needText 4 = .ok (.new 323, 3) := by decide +kernel
theorem dX11_needText_7 : decode cX11_needText 7 = .ok (.dup, 1) := by decide +kernel
theorem dX11_needText_8 : decode cX11_needText 8 = .ok (.ldc_w 328, 3) := by decide +kernel
theorem dX11_needText_11 : decode cX11_needText 11 = .ok (.invokespecial 327, 3) := by decide +kernel
theorem dX11_needText_14 : decode cX11_needText 14 = .ok (.athrow, 1) := by decide +kernel
theorem dX11_needText_15 : decode cX11_needText 15 = .ok (.return_, 1) := by decide +kernel
theorem thX11_needText_4 : GT mX11_needText 4 (xnm 1) := fun G d mc ms loc st h h8 => go_throwW (ik := 323) (is := 328) (ic := 327) (i := 3) (by decide) ⟨by decide, ⟨_, rfl, rfl, rfl⟩, tw_in tk_3 (i := 165) rfl rfl, tw_in tk_1 (i := 20) rfl rfl, by decide +kernel, by decide +kernel⟩ rfl h8 dX11_needText_4 dX11_needText_7 dX11_needText_8 dX11_needText_11 dX11_needText_14
noncomputable def E_X11_needText : mE := (mX11_needText, [(15, [(0, (.iload_n 0, 1, false, false, 0, 0, 0, 0, 0, 0, [])), (1, (.ifCond .ne 14, 4, false, false, 15, 0, 0, 0, 0, 0, [])), (4, (.new 323, 7, false, false, 1, 0, 1, 0, 0, 0, [])), (15, (.return_, 16, false, false, 0, 0, 0, 0, 0, 0, []))])], 0, [])
set_option maxRecDepth 100000 in
theorem v_X11_needText : VE MYT dflT E_X11_needText := ⟨⟨⟨⟨⟨dX11_needText_0, rfl⟩, rfl⟩, ⟨⟨dX11_needText_1, rfl⟩, rfl⟩, ⟨⟨dX11_needText_4, rfl⟩, Or.inr ⟨rfl, rfl, thX11_needText_4⟩⟩, ⟨⟨dX11_needText_15, rfl⟩, rfl⟩, trivial⟩, trivial⟩, by decide, Or.inl ⟨rfl, by decide, rfl⟩⟩
set_option maxRecDepth 100000 in
theorem g_X11_needText_0 (S : sT) (call : cT) (n : Nat) (x0 : Int32) (h : pH) : bd S call dflT E_X11_needText (n + 1) 0 [some (.int x0)] [] h = ((if x0 = 0 then some (.inr (xnm 1), h) else some (.inl none, h))) := rfl
theorem dX11_capped_0 : decode cX11_capped 0 = .ok (.ldc2_w 343, 3) := by decide +kernel
theorem dX11_capped_3 : decode cX11_capped 3 = .ok (.ldc2_w 345, 3) := by decide +kernel
theorem dX11_capped_6 : decode cX11_capped 6 = .ok (.lload_n 0, 1) := by decide +kernel
theorem dX11_capped_7 : decode cX11_capped 7 = .ok (.invokestatic 347, 3) := by decide +kernel
theorem dX11_capped_10 : decode cX11_capped 10 = .ok (.invokestatic 350, 3) := by decide +kernel
theorem dX11_capped_13 : decode cX11_capped 13 = .ok (.l2i, 1) := by decide +kernel
theorem dX11_capped_14 : decode cX11_capped 14 = .ok (.ireturn, 1) := by decide +kernel
noncomputable def E_X11_capped : mE := (mX11_capped, [(14, [(0, (.ldc2_w 343, 3, false, false, 0, 0, 0, 0, 0, -2000000000, [])), (3, (.ldc2_w 345, 6, false, false, 0, 0, 0, 0, 0, 2000000000, [])), (6, (.lload_n 0, 7, false, false, 0, 0, 0, 0, 0, 0, [])), (7, (.invokestatic 347, 10, false, false, 0, 2, 2, 8, 0, 0, [])), (10, (.invokestatic 350, 13, false, false, 0, 2, 2, 7, 0, 0, [])), (13, (.l2i, 14, false, false, 0, 0, 0, 0, 0, 0, [])), (14, (.ireturn, 15, false, false, 0, 0, 0, 0, 0, 0, []))])], 0, [])
set_option maxRecDepth 100000 in
theorem v_X11_capped : VE MYT dflT E_X11_capped := ⟨⟨⟨⟨⟨dX11_capped_0, rfl⟩, kX11_343⟩, ⟨⟨dX11_capped_3, rfl⟩, kX11_345⟩, ⟨⟨dX11_capped_6, rfl⟩, rfl⟩, ⟨⟨dX11_capped_7, rfl⟩, Or.inr (Or.inr (Or.inr (Or.inr (Or.inr (Or.inr (Or.inr ⟨rfl, sX11_347⟩))))))⟩, ⟨⟨dX11_capped_10, rfl⟩, Or.inr (Or.inr (Or.inr (Or.inr (Or.inr (Or.inr (Or.inl ⟨rfl, sX11_350⟩))))))⟩, ⟨⟨dX11_capped_13, rfl⟩, trivial⟩, ⟨⟨dX11_capped_14, rfl⟩, Or.inl ⟨rfl, rfl⟩⟩, trivial⟩, trivial⟩, by decide, Or.inl ⟨rfl, by decide, rfl⟩⟩
set_option maxRecDepth 100000 in
theorem g_X11_capped_0 (S : sT) (call : cT) (n : Nat) (j0 : Int64) (h : pH) : bd S call dflT E_X11_capped (n + 1) 0 [some (.long j0), none] [] h = (some (.inl (some (.int (if (if j0 < (2000000000 : Int64) then j0 else (2000000000 : Int64)) < ((-2000000000) : Int64) then ((-2000000000) : Int64) else (if j0 < (2000000000 : Int64) then j0 else (2000000000 : Int64))).toInt32)), h)) := rfl
theorem dX11_let_0 : decode cX11_let 0 = .ok (.aload_n 0, 1) := by decide +kernel
theorem dX11_let_1 : decode cX11_let 1 = .ok (.getfield 10, 3) := by decide +kernel
theorem dX11_let_4 : decode cX11_let 4 = .ok (.invokevirtual 85, 3) := by decide +kernel
theorem dX11_let_7 : decode cX11_let 7 = .ok (.iload_n 1, 1) := by decide +kernel
theorem dX11_let_8 : decode cX11_let 8 = .ok (.invokestatic 40, 3) := by decide +kernel
theorem dX11_let_11 : decode cX11_let 11 = .ok (.iload_n 2, 1) := by decide +kernel
theorem dX11_let_12 : decode cX11_let 12 = .ok (.invokestatic 40, 3) := by decide +kernel
theorem dX11_let_15 : decode cX11_let 15 = .ok (.iload_n 3, 1) := by decide +kernel
theorem dX11_let_16 : decode cX11_let 16 = .ok (.iconst 0, 1) := by decide +kernel
theorem dX11_let_17 : decode cX11_let 17 = .ok (.bipush 99, 2) := by decide +kernel
theorem dX11_let_19 : decode cX11_let 19 = .ok (.invokestatic 43, 3) := by decide +kernel
theorem dX11_let_22 : decode cX11_let 22 = .ok (.iload 4, 2) := by decide +kernel
theorem dX11_let_24 : decode cX11_let 24 = .ok (.iconst 0, 1) := by decide +kernel
theorem dX11_let_25 : decode cX11_let 25 = .ok (.ldc 88, 2) := by decide +kernel
theorem dX11_let_27 : decode cX11_let 27 = .ok (.invokestatic 43, 3) := by decide +kernel
theorem dX11_let_30 : decode cX11_let 30 = .ok (.aload_n 0, 1) := by decide +kernel
theorem dX11_let_31 : decode cX11_let 31 = .ok (.getfield 10, 3) := by decide +kernel
theorem dX11_let_34 : decode cX11_let 34 = .ok (.iconst 1, 1) := by decide +kernel
theorem dX11_let_35 : decode cX11_let 35 = .ok (.invokevirtual 89, 3) := by decide +kernel
theorem dX11_let_38 : decode cX11_let 38 = .ok (.invokestatic 93, 3) := by decide +kernel
theorem dX11_let_41 : decode cX11_let 41 = .ok (.iload_n 3, 1) := by decide +kernel
theorem dX11_let_42 : decode cX11_let 42 = .ok (.aload_n 0, 1) := by decide +kernel
theorem dX11_let_43 : decode cX11_let 43 = .ok (.getfield 19, 3) := by decide +kernel
theorem dX11_let_46 : decode cX11_let 46 = .ok (.invokevirtual 97, 3) := by decide +kernel
theorem dX11_let_49 : decode cX11_let 49 = .ok (.if_icmp .gt 7, 3) := by decide +kernel
theorem dX11_let_52 : decode cX11_let 52 = .ok (.iconst 1, 1) := by decide +kernel
theorem dX11_let_53 : decode cX11_let 53 = .ok (.goto 4, 3) := by decide +kernel
theorem dX11_let_56 : decode cX11_let 56 = .ok (.iconst 0, 1) := by decide +kernel
theorem dX11_let_57 : decode cX11_let 57 = .ok (.istore 6, 2) := by decide +kernel
theorem dX11_let_59 : decode cX11_let 59 = .ok (.aload_n 0, 1) := by decide +kernel
theorem dX11_let_60 : decode cX11_let 60 = .ok (.getfield 19, 3) := by decide +kernel
theorem dX11_let_63 : decode cX11_let 63 = .ok (.iload_n 1, 1) := by decide +kernel
theorem dX11_let_64 : decode cX11_let 64 = .ok (.iload_n 2, 1) := by decide +kernel
theorem dX11_let_65 : decode cX11_let 65 = .ok (.invokevirtual 101, 3) := by decide +kernel
theorem dX11_let_68 : decode cX11_let 68 = .ok (.ifCond .eq 13, 3) := by decide +kernel
theorem dX11_let_71 : decode cX11_let 71 = .ok (.iload 6, 2) := by decide +kernel
theorem dX11_let_73 : decode cX11_let 73 = .ok (.ifCond .ne 10, 3) := by decide +kernel
theorem dX11_let_76 : decode cX11_let 76 = .ok (.iload 5, 2) := by decide +kernel
theorem dX11_let_78 : decode cX11_let 78 = .ok (.ifCond .ne 5, 3) := by decide +kernel
theorem dX11_let_81 : decode cX11_let 81 = .ok (.iconst (-1), 1) := by decide +kernel
theorem dX11_let_82 : decode cX11_let 82 = .ok (.ireturn, 1) := by decide +kernel
theorem dX11_let_83 : decode cX11_let 83 = .ok (.iload 6, 2) := by decide +kernel
theorem dX11_let_85 : decode cX11_let 85 = .ok (.ifCond .ne 12, 3) := by decide +kernel
theorem dX11_let_88 : decode cX11_let 88 = .ok (.aload_n 0, 1) := by decide +kernel
theorem dX11_let_89 : decode cX11_let 89 = .ok (.getfield 19, 3) := by decide +kernel
theorem dX11_let_92 : decode cX11_let 92 = .ok (.iconst 0, 1) := by decide +kernel
theorem dX11_let_93 : decode cX11_let 93 = .ok (.iconst 0, 1) := by decide +kernel
theorem dX11_let_94 : decode cX11_let 94 = .ok (.invokevirtual 105, 3) := by decide +kernel
theorem dX11_let_97 : decode cX11_let 97 = .ok (.aload_n 0, 1) := by decide +kernel
theorem dX11_let_98 : decode cX11_let 98 = .ok (.getfield 19, 3) := by decide +kernel
theorem dX11_let_101 : decode cX11_let 101 = .ok (.iload_n 1, 1) := by decide +kernel
theorem dX11_let_102 : decode cX11_let 102 = .ok (.iload_n 2, 1) := by decide +kernel
theorem dX11_let_103 : decode cX11_let 103 = .ok (.iload_n 3, 1) := by decide +kernel
theorem dX11_let_104 : decode cX11_let 104 = .ok (.iload 4, 2) := by decide +kernel
theorem dX11_let_106 : decode cX11_let 106 = .ok (.invokevirtual 108, 3) := by decide +kernel
theorem dX11_let_109 : decode cX11_let 109 = .ok (.istore 7, 2) := by decide +kernel
theorem dX11_let_111 : decode cX11_let 111 = .ok (.aload_n 0, 1) := by decide +kernel
theorem dX11_let_112 : decode cX11_let 112 = .ok (.getfield 19, 3) := by decide +kernel
theorem dX11_let_115 : decode cX11_let 115 = .ok (.getfield 111, 3) := by decide +kernel
theorem dX11_let_118 : decode cX11_let 118 = .ok (.iload 7, 2) := by decide +kernel
theorem dX11_let_120 : decode cX11_let 120 = .ok (.aload_n 0, 1) := by decide +kernel
theorem dX11_let_121 : decode cX11_let 121 = .ok (.getfield 10, 3) := by decide +kernel
theorem dX11_let_124 : decode cX11_let 124 = .ok (.invokevirtual 115, 3) := by decide +kernel
theorem dX11_let_127 : decode cX11_let 127 = .ok (.invokevirtual 119, 3) := by decide +kernel
theorem dX11_let_130 : decode cX11_let 130 = .ok (.iload 7, 2) := by decide +kernel
theorem dX11_let_132 : decode cX11_let 132 = .ok (.ireturn, 1) := by decide +kernel
noncomputable def E_X11_let : mE := (mX11_let, [(46, [(0, (.aload_n 0, 1, false, false, 0, 0, 0, 0, 0, 0, [])), (1, (.getfield 10, 4, false, false, 14, 0, 1, 0, 0, 0, [])), (4, (.invokevirtual 85, 7, false, false, 55, 0, 0, 9, 0, 0, [])), (7, (.iload_n 1, 8, false, false, 1, 0, 0, 0, 0, 0, [])), (8, (.invokestatic 40, 11, false, false, 20, 1, 0, 0, 0, 0, [])), (11, (.iload_n 2, 12, false, false, 2, 0, 0, 0, 0, 0, [])), (12, (.invokestatic 40, 15, false, false, 20, 1, 0, 0, 0, 0, [])), (15, (.iload_n 3, 16, false, false, 3, 0, 0, 0, 0, 0, [])), (16, (.iconst 0, 17, false, false, 0, 0, 0, 0, 0, 0, [])), (17, (.bipush 99, 19, false, false, 0, 0, 0, 0, 99, 0, [])), (19, (.invokestatic 43, 22, false, false, 21, 3, 0, 0, 0, 0, [])), (22, (.iload 4, 24, false, false, 4, 0, 0, 0, 0, 0, [])), (24, (.iconst 0, 25, false, false, 0, 0, 0, 0, 0, 0, [])), (25, (.ldc 88, 27, false, false, 0, 0, 0, 0, 100000, 0, [])), (27, (.invokestatic 43, 30, false, false, 21, 3, 0, 0, 0, 0, [])), (30, (.aload_n 0, 31, false, false, 0, 0, 0, 0, 0, 0, [])), (31, (.getfield 10, 34, false, false, 14, 0, 1, 0, 0, 0, [])), (34, (.iconst 1, 35, false, false, 0, 0, 0, 0, 1, 0, [])), (35, (.invokevirtual 89, 38, false, false, 84, 1, 1, 9, 0, 0, [])), (38, (.invokestatic 93, 41, false, false, 85, 1, 0, 0, 0, 0, [])), (41, (.iload_n 3, 42, false, false, 3, 0, 0, 0, 0, 0, [])), (42, (.aload_n 0, 43, false, false, 0, 0, 0, 0, 0, 0, [])), (43, (.getfield 19, 46, false, false, 14, 1, 1, 0, 0, 0, [])), (46, (.invokevirtual 97, 49, false, false, 93, 0, 1, 3, 0, 0, []))]),
  (94, [(49, (.if_icmp .gt 7, 52, false, false, 56, 0, 0, 0, 0, 0, [])), (52, (.iconst 1, 53, false, false, 0, 0, 0, 0, 1, 0, [])), (53, (.goto 4, 56, false, true, 57, 0, 0, 0, 0, 0, [])), (56, (.iconst 0, 57, true, false, 0, 0, 0, 0, 0, 0, [])), (57, (.istore 6, 59, false, false, 6, 0, 0, 0, 0, 0, [])), (59, (.aload_n 0, 60, false, false, 0, 0, 0, 0, 0, 0, [])), (60, (.getfield 19, 63, false, false, 14, 1, 1, 0, 0, 0, [])), (63, (.iload_n 1, 64, false, false, 1, 0, 0, 0, 0, 0, [])), (64, (.iload_n 2, 65, false, false, 2, 0, 0, 0, 0, 0, [])), (65, (.invokevirtual 101, 68, false, false, 96, 2, 1, 3, 0, 0, [])), (68, (.ifCond .eq 13, 71, false, false, 81, 0, 0, 0, 0, 0, [])), (71, (.iload 6, 73, false, false, 6, 0, 0, 0, 0, 0, [])), (73, (.ifCond .ne 10, 76, false, false, 83, 0, 0, 0, 0, 0, [])), (76, (.iload 5, 78, false, false, 5, 0, 0, 0, 0, 0, [])), (78, (.ifCond .ne 5, 81, false, false, 83, 0, 0, 0, 0, 0, [])), (81, (.iconst (-1), 82, false, false, 0, 0, 0, 0, -1, 0, [])), (82, (.ireturn, 83, false, false, 0, 0, 0, 0, 0, 0, [])), (83, (.iload 6, 85, false, false, 6, 0, 0, 0, 0, 0, [])), (85, (.ifCond .ne 12, 88, false, true, 97, 0, 0, 0, 0, 0, [])), (88, (.aload_n 0, 89, false, false, 0, 0, 0, 0, 0, 0, [])), (89, (.getfield 19, 92, false, false, 14, 1, 1, 0, 0, 0, [])), (92, (.iconst 0, 93, false, false, 0, 0, 0, 0, 0, 0, [])), (93, (.iconst 0, 94, false, false, 0, 0, 0, 0, 0, 0, [])), (94, (.invokevirtual 105, 97, true, false, 98, 2, 0, 3, 0, 0, []))]),
  (132, [(97, (.aload_n 0, 98, false, false, 0, 0, 0, 0, 0, 0, [])), (98, (.getfield 19, 101, false, false, 14, 1, 1, 0, 0, 0, [])), (101, (.iload_n 1, 102, false, false, 1, 0, 0, 0, 0, 0, [])), (102, (.iload_n 2, 103, false, false, 2, 0, 0, 0, 0, 0, [])), (103, (.iload_n 3, 104, false, false, 3, 0, 0, 0, 0, 0, [])), (104, (.iload 4, 106, false, false, 4, 0, 0, 0, 0, 0, [])), (106, (.invokevirtual 108, 109, false, false, 106, 4, 1, 3, 0, 0, [])), (109, (.istore 7, 111, false, false, 7, 0, 0, 0, 0, 0, [])), (111, (.aload_n 0, 112, false, false, 0, 0, 0, 0, 0, 0, [])), (112, (.getfield 19, 115, false, false, 14, 1, 1, 0, 0, 0, [])), (115, (.getfield 111, 118, false, false, 3, 2, 1, 0, 0, 0, [])), (118, (.iload 7, 120, false, false, 7, 0, 0, 0, 0, 0, [])), (120, (.aload_n 0, 121, false, false, 0, 0, 0, 0, 0, 0, [])), (121, (.getfield 10, 124, false, false, 14, 0, 1, 0, 0, 0, [])), (124, (.invokevirtual 115, 127, false, false, 108, 0, 3, 9, 0, 0, [])), (127, (.invokevirtual 119, 130, false, false, 109, 2, 0, 4, 0, 0, [])), (130, (.iload 7, 132, false, false, 7, 0, 0, 0, 0, 0, [])), (132, (.ireturn, 133, false, false, 0, 0, 0, 0, 0, 0, []))])], 0, [])
set_option maxRecDepth 100000 in
theorem v_X11_let : VE MYT dflT E_X11_let := ⟨⟨⟨⟨⟨dX11_let_0, rfl⟩, rfl⟩, ⟨⟨dX11_let_1, rfl⟩, Or.inl ⟨by decide, _, _, fX11_10⟩⟩, ⟨⟨dX11_let_4, rfl⟩, Or.inr ⟨by decide, ⟨_, my_55, sX11_85⟩, fun q => absurd q (by decide)⟩⟩, ⟨⟨dX11_let_7, rfl⟩, rfl⟩, ⟨⟨dX11_let_8, rfl⟩, Or.inl ⟨rfl, _, my_20, sX11_40⟩⟩, ⟨⟨dX11_let_11, rfl⟩, rfl⟩, ⟨⟨dX11_let_12, rfl⟩, Or.inl ⟨rfl, _, my_20, sX11_40⟩⟩, ⟨⟨dX11_let_15, rfl⟩, rfl⟩, ⟨⟨dX11_let_16, rfl⟩, rfl⟩, ⟨⟨dX11_let_17, rfl⟩, rfl⟩, ⟨⟨dX11_let_19, rfl⟩, Or.inl ⟨rfl, _, my_21, sX11_43⟩⟩, ⟨⟨dX11_let_22, rfl⟩, rfl⟩, ⟨⟨dX11_let_24, rfl⟩, rfl⟩, ⟨⟨dX11_let_25, rfl⟩, Or.inl ⟨rfl, kX11_88⟩⟩, ⟨⟨dX11_let_27, rfl⟩, Or.inl ⟨rfl, _, my_21, sX11_43⟩⟩, ⟨⟨dX11_let_30, rfl⟩, rfl⟩, ⟨⟨dX11_let_31, rfl⟩, Or.inl ⟨by decide, _, _, fX11_10⟩⟩, ⟨⟨dX11_let_34, rfl⟩, rfl⟩, ⟨⟨dX11_let_35, rfl⟩, Or.inr ⟨by decide, ⟨_, my_84, sX11_89⟩, fun q => absurd q (by decide)⟩⟩, ⟨⟨dX11_let_38, rfl⟩, Or.inl ⟨rfl, _, my_85, sX11_93⟩⟩, ⟨⟨dX11_let_41, rfl⟩, rfl⟩, ⟨⟨dX11_let_42, rfl⟩, rfl⟩, ⟨⟨dX11_let_43, rfl⟩, Or.inl ⟨by decide, _, _, fX11_19⟩⟩, ⟨⟨dX11_let_46, rfl⟩, Or.inr ⟨by decide, ⟨_, my_93, sX11_97⟩, fun q => absurd q (by decide)⟩⟩, trivial⟩,
  ⟨⟨⟨dX11_let_49, rfl⟩, rfl⟩, ⟨⟨dX11_let_52, rfl⟩, rfl⟩, ⟨⟨dX11_let_53, rfl⟩, rfl⟩, ⟨⟨dX11_let_56, rfl⟩, rfl⟩, ⟨⟨dX11_let_57, rfl⟩, rfl⟩, ⟨⟨dX11_let_59, rfl⟩, rfl⟩, ⟨⟨dX11_let_60, rfl⟩, Or.inl ⟨by decide, _, _, fX11_19⟩⟩, ⟨⟨dX11_let_63, rfl⟩, rfl⟩, ⟨⟨dX11_let_64, rfl⟩, rfl⟩, ⟨⟨dX11_let_65, rfl⟩, Or.inr ⟨by decide, ⟨_, my_96, sX11_101⟩, fun q => absurd q (by decide)⟩⟩, ⟨⟨dX11_let_68, rfl⟩, rfl⟩, ⟨⟨dX11_let_71, rfl⟩, rfl⟩, ⟨⟨dX11_let_73, rfl⟩, rfl⟩, ⟨⟨dX11_let_76, rfl⟩, rfl⟩, ⟨⟨dX11_let_78, rfl⟩, rfl⟩, ⟨⟨dX11_let_81, rfl⟩, rfl⟩, ⟨⟨dX11_let_82, rfl⟩, Or.inl ⟨rfl, rfl⟩⟩, ⟨⟨dX11_let_83, rfl⟩, rfl⟩, ⟨⟨dX11_let_85, rfl⟩, rfl⟩, ⟨⟨dX11_let_88, rfl⟩, rfl⟩, ⟨⟨dX11_let_89, rfl⟩, Or.inl ⟨by decide, _, _, fX11_19⟩⟩, ⟨⟨dX11_let_92, rfl⟩, rfl⟩, ⟨⟨dX11_let_93, rfl⟩, rfl⟩, ⟨⟨dX11_let_94, rfl⟩, Or.inr ⟨by decide, ⟨_, my_98, sX11_105⟩, fun q => absurd q (by decide)⟩⟩, trivial⟩,
  ⟨⟨⟨dX11_let_97, rfl⟩, rfl⟩, ⟨⟨dX11_let_98, rfl⟩, Or.inl ⟨by decide, _, _, fX11_19⟩⟩, ⟨⟨dX11_let_101, rfl⟩, rfl⟩, ⟨⟨dX11_let_102, rfl⟩, rfl⟩, ⟨⟨dX11_let_103, rfl⟩, rfl⟩, ⟨⟨dX11_let_104, rfl⟩, rfl⟩, ⟨⟨dX11_let_106, rfl⟩, Or.inr ⟨by decide, ⟨_, my_106, sX11_108⟩, fun q => absurd q (by decide)⟩⟩, ⟨⟨dX11_let_109, rfl⟩, rfl⟩, ⟨⟨dX11_let_111, rfl⟩, rfl⟩, ⟨⟨dX11_let_112, rfl⟩, Or.inl ⟨by decide, _, _, fX11_19⟩⟩, ⟨⟨dX11_let_115, rfl⟩, Or.inl ⟨by decide, _, _, fX11_111⟩⟩, ⟨⟨dX11_let_118, rfl⟩, rfl⟩, ⟨⟨dX11_let_120, rfl⟩, rfl⟩, ⟨⟨dX11_let_121, rfl⟩, Or.inl ⟨by decide, _, _, fX11_10⟩⟩, ⟨⟨dX11_let_124, rfl⟩, Or.inr ⟨by decide, ⟨_, my_108, sX11_115⟩, fun q => absurd q (by decide)⟩⟩, ⟨⟨dX11_let_127, rfl⟩, Or.inr ⟨by decide, ⟨_, my_109, sX11_119⟩, fun q => absurd q (by decide)⟩⟩, ⟨⟨dX11_let_130, rfl⟩, rfl⟩, ⟨⟨dX11_let_132, rfl⟩, Or.inl ⟨rfl, rfl⟩⟩, trivial⟩, trivial⟩, by decide, Or.inl ⟨rfl, by decide, rfl⟩⟩
set_option maxRecDepth 100000 in
theorem g_X11_let_0 (S : sT) (call : cT) (n : Nat) (a0 : Nat) (x1 : Int32) (x2 : Int32) (x3 : Int32) (x4 : Int32) (x5 : Int32) (h : pH) : bd S call dflT E_X11_let (n + 1) 0 [some (.ref a0), some (.int x1), some (.int x2), some (.int x3), some (.int x4), some (.int x5), none, none] [] h = (gV h (.ref a0) 14 0 (fun w1 => rC h w1 9 (cU (call 55 [w1] h) (fun h2 => cU (call 20 [.int x1] h2) (fun h3 => cU (call 20 [.int x2] h3) (fun h4 => cU (call 21 [.int x3, .int 0, .int 99] h4) (fun h5 => cU (call 21 [.int x4, .int 0, .int 100000] h5) (fun h6 => gV h6 (.ref a0) 14 0 (fun w7 => rC h6 w7 9 (cI (call 84 [w7, .int 1] h6) (fun y9 h8 => cU (call 85 [.int y9] h8) (fun h10 => gV h10 (.ref a0) 14 1 (fun w11 => rC h10 w11 3 (cI (call 93 [w11] h10) (fun y13 h12 => (if y13 < x3 then bd S call dflT E_X11_let n 57 [some (.ref a0), some (.int x1), some (.int x2), some (.int x3), some (.int x4), some (.int x5), none, none] [.int 0] h12 else bd S call dflT E_X11_let n 57 [some (.ref a0), some (.int x1), some (.int x2), some (.int x3), some (.int x4), some (.int x5), none, none] [.int 1] h12)))))))))))))))) := rfl
set_option maxRecDepth 100000 in
theorem g_X11_let_57 (S : sT) (call : cT) (n : Nat) (a0 : Nat) (x1 : Int32) (x2 : Int32) (x3 : Int32) (x4 : Int32) (x5 : Int32) (o6 : Option Value) (o7 : Option Value) (y0 : Int32) (h : pH) : bd S call dflT E_X11_let (n + 1) 57 [some (.ref a0), some (.int x1), some (.int x2), some (.int x3), some (.int x4), some (.int x5), o6, o7] [.int y0] h = (gV h (.ref a0) 14 1 (fun w1 => rC h w1 3 (cI (call 96 [w1, .int x1, .int x2] h) (fun y3 h2 => (if y3 = 0 then some (.inl (some (.int (-1))), h2) else (if y0 = 0 then (if x5 = 0 then some (.inl (some (.int (-1))), h2) else (if y0 = 0 then gV h2 (.ref a0) 14 1 (fun w6 => rC h2 w6 3 (cU (call 98 [w6, .int 0, .int 0] h2) (fun h7 => bd S call dflT E_X11_let n 97 [some (.ref a0), some (.int x1), some (.int x2), some (.int x3), some (.int x4), some (.int x5), some (.int y0), o7] [] h7))) else bd S call dflT E_X11_let n 97 [some (.ref a0), some (.int x1), some (.int x2), some (.int x3), some (.int x4), some (.int x5), some (.int y0), o7] [] h2)) else (if y0 = 0 then gV h2 (.ref a0) 14 1 (fun w4 => rC h2 w4 3 (cU (call 98 [w4, .int 0, .int 0] h2) (fun h5 => bd S call dflT E_X11_let n 97 [some (.ref a0), some (.int x1), some (.int x2), some (.int x3), some (.int x4), some (.int x5), some (.int y0), o7] [] h5))) else bd S call dflT E_X11_let n 97 [some (.ref a0), some (.int x1), some (.int x2), some (.int x3), some (.int x4), some (.int x5), some (.int y0), o7] [] h2))))))) := rfl
set_option maxRecDepth 100000 in
theorem g_X11_let_97 (S : sT) (call : cT) (n : Nat) (a0 : Nat) (x1 : Int32) (x2 : Int32) (x3 : Int32) (x4 : Int32) (x5 : Int32) (x6 : Int32) (o7 : Option Value) (h : pH) : bd S call dflT E_X11_let (n + 1) 97 [some (.ref a0), some (.int x1), some (.int x2), some (.int x3), some (.int x4), some (.int x5), some (.int x6), o7] [] h = (gV h (.ref a0) 14 1 (fun w1 => rC h w1 3 (cI (call 106 [w1, .int x1, .int x2, .int x3, .int x4] h) (fun y3 h2 => gV h2 (.ref a0) 14 1 (fun w4 => gV h2 w4 3 2 (fun w5 => gV h2 (.ref a0) 14 0 (fun w6 => rC h2 w6 9 (cA (call 108 [w6] h2) (fun w8 h7 => rC h7 w5 4 (cU (call 109 [w5, .int y3, w8] h7) (fun h9 => some (.inl (some (.int y3)), h9)))))))))))) := rfl
theorem dX11_keep_0 : decode cX11_keep 0 = .ok (.iload_n 1, 1) := by decide +kernel
theorem dX11_keep_1 : decode cX11_keep 1 = .ok (.invokestatic 40, 3) := by decide +kernel
theorem dX11_keep_4 : decode cX11_keep 4 = .ok (.iload_n 2, 1) := by decide +kernel
theorem dX11_keep_5 : decode cX11_keep 5 = .ok (.invokestatic 40, 3) := by decide +kernel
theorem dX11_keep_8 : decode cX11_keep 8 = .ok (.iload_n 3, 1) := by decide +kernel
theorem dX11_keep_9 : decode cX11_keep 9 = .ok (.iconst 2, 1) := by decide +kernel
theorem dX11_keep_10 : decode cX11_keep 10 = .ok (.iconst 5, 1) := by decide +kernel
theorem dX11_keep_11 : decode cX11_keep 11 = .ok (.invokestatic 43, 3) := by decide +kernel
theorem dX11_keep_14 : decode cX11_keep 14 = .ok (.iload_n 3, 1) := by decide +kernel
theorem dX11_keep_15 : decode cX11_keep 15 = .ok (.iconst 4, 1) := by decide +kernel
theorem dX11_keep_16 : decode cX11_keep 16 = .ok (.if_icmp .ne 20, 3) := by decide +kernel
theorem dX11_keep_19 : decode cX11_keep 19 = .ok (.iload 4, 2) := by decide +kernel
theorem dX11_keep_21 : decode cX11_keep 21 = .ok (.iconst 0, 1) := by decide +kernel
theorem dX11_keep_22 : decode cX11_keep 22 = .ok (.sipush 2000, 3) := by decide +kernel
theorem dX11_keep_25 : decode cX11_keep 25 = .ok (.invokestatic 43, 3) := by decide +kernel
theorem dX11_keep_28 : decode cX11_keep 28 = .ok (.iload 5, 2) := by decide +kernel
theorem dX11_keep_30 : decode cX11_keep 30 = .ok (.iconst 0, 1) := by decide +kernel
theorem dX11_keep_31 : decode cX11_keep 31 = .ok (.bipush 100, 2) := by decide +kernel
theorem dX11_keep_33 : decode cX11_keep 33 = .ok (.invokestatic 43, 3) := by decide +kernel
theorem dX11_keep_36 : decode cX11_keep 36 = .ok (.iload_n 3, 1) := by decide +kernel
theorem dX11_keep_37 : decode cX11_keep 37 = .ok (.iconst 5, 1) := by decide +kernel
theorem dX11_keep_38 : decode cX11_keep 38 = .ok (.if_icmp .ne 12, 3) := by decide +kernel
theorem dX11_keep_41 : decode cX11_keep 41 = .ok (.iload 4, 2) := by decide +kernel
theorem dX11_keep_43 : decode cX11_keep 43 = .ok (.iconst 0, 1) := by decide +kernel
theorem dX11_keep_44 : decode cX11_keep 44 = .ok (.sipush 1000, 3) := by decide +kernel
theorem dX11_keep_47 : decode cX11_keep 47 = .ok (.invokestatic 43, 3) := by decide +kernel
theorem dX11_keep_50 : decode cX11_keep 50 = .ok (.aload_n 0, 1) := by decide +kernel
theorem dX11_keep_51 : decode cX11_keep 51 = .ok (.getfield 19, 3) := by decide +kernel
theorem dX11_keep_54 : decode cX11_keep 54 = .ok (.iload_n 1, 1) := by decide +kernel
theorem dX11_keep_55 : decode cX11_keep 55 = .ok (.iload_n 2, 1) := by decide +kernel
theorem dX11_keep_56 : decode cX11_keep 56 = .ok (.invokevirtual 101, 3) := by decide +kernel
theorem dX11_keep_59 : decode cX11_keep 59 = .ok (.ifCond .ne 5, 3) := by decide +kernel
theorem dX11_keep_62 : decode cX11_keep 62 = .ok (.iconst (-1), 1) := by decide +kernel
theorem dX11_keep_63 : decode cX11_keep 63 = .ok (.ireturn, 1) := by decide +kernel
theorem dX11_keep_64 : decode cX11_keep 64 = .ok (.aload_n 0, 1) := by decide +kernel
theorem dX11_keep_65 : decode cX11_keep 65 = .ok (.getfield 19, 3) := by decide +kernel
theorem dX11_keep_68 : decode cX11_keep 68 = .ok (.iload_n 1, 1) := by decide +kernel
theorem dX11_keep_69 : decode cX11_keep 69 = .ok (.iload_n 2, 1) := by decide +kernel
theorem dX11_keep_70 : decode cX11_keep 70 = .ok (.iload_n 3, 1) := by decide +kernel
theorem dX11_keep_71 : decode cX11_keep 71 = .ok (.iload 4, 2) := by decide +kernel
theorem dX11_keep_73 : decode cX11_keep 73 = .ok (.iload 5, 2) := by decide +kernel
theorem dX11_keep_75 : decode cX11_keep 75 = .ok (.invokevirtual 125, 3) := by decide +kernel
theorem dX11_keep_78 : decode cX11_keep 78 = .ok (.ireturn, 1) := by decide +kernel
noncomputable def E_X11_keep : mE := (mX11_keep, [(43, [(0, (.iload_n 1, 1, false, false, 1, 0, 0, 0, 0, 0, [])), (1, (.invokestatic 40, 4, false, false, 20, 1, 0, 0, 0, 0, [])), (4, (.iload_n 2, 5, false, false, 2, 0, 0, 0, 0, 0, [])), (5, (.invokestatic 40, 8, false, false, 20, 1, 0, 0, 0, 0, [])), (8, (.iload_n 3, 9, false, false, 3, 0, 0, 0, 0, 0, [])), (9, (.iconst 2, 10, false, false, 0, 0, 0, 0, 2, 0, [])), (10, (.iconst 5, 11, false, false, 0, 0, 0, 0, 5, 0, [])), (11, (.invokestatic 43, 14, false, false, 21, 3, 0, 0, 0, 0, [])), (14, (.iload_n 3, 15, false, false, 3, 0, 0, 0, 0, 0, [])), (15, (.iconst 4, 16, false, false, 0, 0, 0, 0, 4, 0, [])), (16, (.if_icmp .ne 20, 19, false, false, 36, 0, 0, 0, 0, 0, [])), (19, (.iload 4, 21, false, false, 4, 0, 0, 0, 0, 0, [])), (21, (.iconst 0, 22, false, false, 0, 0, 0, 0, 0, 0, [])), (22, (.sipush 2000, 25, false, false, 0, 0, 0, 0, 2000, 0, [])), (25, (.invokestatic 43, 28, false, false, 21, 3, 0, 0, 0, 0, [])), (28, (.iload 5, 30, false, false, 5, 0, 0, 0, 0, 0, [])), (30, (.iconst 0, 31, false, false, 0, 0, 0, 0, 0, 0, [])), (31, (.bipush 100, 33, false, false, 0, 0, 0, 0, 100, 0, [])), (33, (.invokestatic 43, 36, false, false, 21, 3, 0, 0, 0, 0, [])), (36, (.iload_n 3, 37, false, false, 3, 0, 0, 0, 0, 0, [])), (37, (.iconst 5, 38, false, false, 0, 0, 0, 0, 5, 0, [])), (38, (.if_icmp .ne 12, 41, false, true, 50, 0, 0, 0, 0, 0, [])), (41, (.iload 4, 43, false, false, 4, 0, 0, 0, 0, 0, [])), (43, (.iconst 0, 44, false, false, 0, 0, 0, 0, 0, 0, []))]),
  (78, [(44, (.sipush 1000, 47, false, false, 0, 0, 0, 0, 1000, 0, [])), (47, (.invokestatic 43, 50, true, false, 21, 3, 0, 0, 0, 0, [])), (50, (.aload_n 0, 51, false, false, 0, 0, 0, 0, 0, 0, [])), (51, (.getfield 19, 54, false, false, 14, 1, 1, 0, 0, 0, [])), (54, (.iload_n 1, 55, false, false, 1, 0, 0, 0, 0, 0, [])), (55, (.iload_n 2, 56, false, false, 2, 0, 0, 0, 0, 0, [])), (56, (.invokevirtual 101, 59, false, false, 96, 2, 1, 3, 0, 0, [])), (59, (.ifCond .ne 5, 62, false, false, 64, 0, 0, 0, 0, 0, [])), (62, (.iconst (-1), 63, false, false, 0, 0, 0, 0, -1, 0, [])), (63, (.ireturn, 64, false, false, 0, 0, 0, 0, 0, 0, [])), (64, (.aload_n 0, 65, false, false, 0, 0, 0, 0, 0, 0, [])), (65, (.getfield 19, 68, false, false, 14, 1, 1, 0, 0, 0, [])), (68, (.iload_n 1, 69, false, false, 1, 0, 0, 0, 0, 0, [])), (69, (.iload_n 2, 70, false, false, 2, 0, 0, 0, 0, 0, [])), (70, (.iload_n 3, 71, false, false, 3, 0, 0, 0, 0, 0, [])), (71, (.iload 4, 73, false, false, 4, 0, 0, 0, 0, 0, [])), (73, (.iload 5, 75, false, false, 5, 0, 0, 0, 0, 0, [])), (75, (.invokevirtual 125, 78, false, false, 156, 5, 1, 3, 0, 0, [])), (78, (.ireturn, 79, false, false, 0, 0, 0, 0, 0, 0, []))])], 0, [])
set_option maxRecDepth 100000 in
theorem v_X11_keep : VE MYT dflT E_X11_keep := ⟨⟨⟨⟨⟨dX11_keep_0, rfl⟩, rfl⟩, ⟨⟨dX11_keep_1, rfl⟩, Or.inl ⟨rfl, _, my_20, sX11_40⟩⟩, ⟨⟨dX11_keep_4, rfl⟩, rfl⟩, ⟨⟨dX11_keep_5, rfl⟩, Or.inl ⟨rfl, _, my_20, sX11_40⟩⟩, ⟨⟨dX11_keep_8, rfl⟩, rfl⟩, ⟨⟨dX11_keep_9, rfl⟩, rfl⟩, ⟨⟨dX11_keep_10, rfl⟩, rfl⟩, ⟨⟨dX11_keep_11, rfl⟩, Or.inl ⟨rfl, _, my_21, sX11_43⟩⟩, ⟨⟨dX11_keep_14, rfl⟩, rfl⟩, ⟨⟨dX11_keep_15, rfl⟩, rfl⟩, ⟨⟨dX11_keep_16, rfl⟩, rfl⟩, ⟨⟨dX11_keep_19, rfl⟩, rfl⟩, ⟨⟨dX11_keep_21, rfl⟩, rfl⟩, ⟨⟨dX11_keep_22, rfl⟩, rfl⟩, ⟨⟨dX11_keep_25, rfl⟩, Or.inl ⟨rfl, _, my_21, sX11_43⟩⟩, ⟨⟨dX11_keep_28, rfl⟩, rfl⟩, ⟨⟨dX11_keep_30, rfl⟩, rfl⟩, ⟨⟨dX11_keep_31, rfl⟩, rfl⟩, ⟨⟨dX11_keep_33, rfl⟩, Or.inl ⟨rfl, _, my_21, sX11_43⟩⟩, ⟨⟨dX11_keep_36, rfl⟩, rfl⟩, ⟨⟨dX11_keep_37, rfl⟩, rfl⟩, ⟨⟨dX11_keep_38, rfl⟩, rfl⟩, ⟨⟨dX11_keep_41, rfl⟩, rfl⟩, ⟨⟨dX11_keep_43, rfl⟩, rfl⟩, trivial⟩,
  ⟨⟨⟨dX11_keep_44, rfl⟩, rfl⟩, ⟨⟨dX11_keep_47, rfl⟩, Or.inl ⟨rfl, _, my_21, sX11_43⟩⟩, ⟨⟨dX11_keep_50, rfl⟩, rfl⟩, ⟨⟨dX11_keep_51, rfl⟩, Or.inl ⟨by decide, _, _, fX11_19⟩⟩, ⟨⟨dX11_keep_54, rfl⟩, rfl⟩, ⟨⟨dX11_keep_55, rfl⟩, rfl⟩, ⟨⟨dX11_keep_56, rfl⟩, Or.inr ⟨by decide, ⟨_, my_96, sX11_101⟩, fun q => absurd q (by decide)⟩⟩, ⟨⟨dX11_keep_59, rfl⟩, rfl⟩, ⟨⟨dX11_keep_62, rfl⟩, rfl⟩, ⟨⟨dX11_keep_63, rfl⟩, Or.inl ⟨rfl, rfl⟩⟩, ⟨⟨dX11_keep_64, rfl⟩, rfl⟩, ⟨⟨dX11_keep_65, rfl⟩, Or.inl ⟨by decide, _, _, fX11_19⟩⟩, ⟨⟨dX11_keep_68, rfl⟩, rfl⟩, ⟨⟨dX11_keep_69, rfl⟩, rfl⟩, ⟨⟨dX11_keep_70, rfl⟩, rfl⟩, ⟨⟨dX11_keep_71, rfl⟩, rfl⟩, ⟨⟨dX11_keep_73, rfl⟩, rfl⟩, ⟨⟨dX11_keep_75, rfl⟩, Or.inr ⟨by decide, ⟨_, my_156, sX11_125⟩, fun q => absurd q (by decide)⟩⟩, ⟨⟨dX11_keep_78, rfl⟩, Or.inl ⟨rfl, rfl⟩⟩, trivial⟩, trivial⟩, by decide, Or.inl ⟨rfl, by decide, rfl⟩⟩
set_option maxRecDepth 100000 in
theorem g_X11_keep_0 (S : sT) (call : cT) (n : Nat) (a0 : Nat) (x1 : Int32) (x2 : Int32) (x3 : Int32) (x4 : Int32) (x5 : Int32) (h : pH) : bd S call dflT E_X11_keep (n + 1) 0 [some (.ref a0), some (.int x1), some (.int x2), some (.int x3), some (.int x4), some (.int x5)] [] h = (cU (call 20 [.int x1] h) (fun h1 => cU (call 20 [.int x2] h1) (fun h2 => cU (call 21 [.int x3, .int 2, .int 5] h2) (fun h3 => (if x3 = 4 then cU (call 21 [.int x4, .int 0, .int 2000] h3) (fun h5 => cU (call 21 [.int x5, .int 0, .int 100] h5) (fun h6 => (if x3 = 5 then cU (call 21 [.int x4, .int 0, .int 1000] h6) (fun h7 => bd S call dflT E_X11_keep n 50 [some (.ref a0), some (.int x1), some (.int x2), some (.int x3), some (.int x4), some (.int x5)] [] h7) else bd S call dflT E_X11_keep n 50 [some (.ref a0), some (.int x1), some (.int x2), some (.int x3), some (.int x4), some (.int x5)] [] h6))) else (if x3 = 5 then cU (call 21 [.int x4, .int 0, .int 1000] h3) (fun h4 => bd S call dflT E_X11_keep n 50 [some (.ref a0), some (.int x1), some (.int x2), some (.int x3), some (.int x4), some (.int x5)] [] h4) else bd S call dflT E_X11_keep n 50 [some (.ref a0), some (.int x1), some (.int x2), some (.int x3), some (.int x4), some (.int x5)] [] h3)))))) := rfl
set_option maxRecDepth 100000 in
theorem g_X11_keep_50 (S : sT) (call : cT) (n : Nat) (a0 : Nat) (x1 : Int32) (x2 : Int32) (x3 : Int32) (x4 : Int32) (x5 : Int32) (h : pH) : bd S call dflT E_X11_keep (n + 1) 50 [some (.ref a0), some (.int x1), some (.int x2), some (.int x3), some (.int x4), some (.int x5)] [] h = (gV h (.ref a0) 14 1 (fun w1 => rC h w1 3 (cI (call 96 [w1, .int x1, .int x2] h) (fun y3 h2 => (if y3 = 0 then some (.inl (some (.int (-1))), h2) else gV h2 (.ref a0) 14 1 (fun w4 => rC h2 w4 3 (cI (call 156 [w4, .int x1, .int x2, .int x3, .int x4, .int x5] h2) (fun y6 h5 => some (.inl (some (.int y6)), h5))))))))) := rfl
theorem dX11_needKind_0 : decode cX11_needKind 0 = .ok (.iload_n 0, 1) := by decide +kernel
theorem dX11_needKind_1 : decode cX11_needKind 1 = .ok (.ifCond .ne 14, 3) := by decide +kernel
theorem dX11_needKind_4 : decode cX11_needKind 4 = .ok (.new 330, 3) := by decide +kernel
theorem dX11_needKind_7 : decode cX11_needKind 7 = .ok (.dup, 1) := by decide +kernel
theorem dX11_needKind_8 : decode cX11_needKind 8 = .ok (.ldc_w 332, 3) := by decide +kernel
theorem dX11_needKind_11 : decode cX11_needKind 11 = .ok (.invokespecial 334, 3) := by decide +kernel
theorem dX11_needKind_14 : decode cX11_needKind 14 = .ok (.athrow, 1) := by decide +kernel
theorem dX11_needKind_15 : decode cX11_needKind 15 = .ok (.return_, 1) := by decide +kernel
theorem thX11_needKind_4 : GT mX11_needKind 4 (xnm 2) := fun G d mc ms loc st h h8 => go_throwW (ik := 330) (is := 332) (ic := 334) (i := 4) (by decide) ⟨by decide, ⟨_, rfl, rfl, rfl⟩, tw_in tk_5 (i := 33) rfl rfl, tw_in tk_1 (i := 26) rfl rfl, by decide +kernel, by decide +kernel⟩ rfl h8 dX11_needKind_4 dX11_needKind_7 dX11_needKind_8 dX11_needKind_11 dX11_needKind_14
noncomputable def E_X11_needKind : mE := (mX11_needKind, [(15, [(0, (.iload_n 0, 1, false, false, 0, 0, 0, 0, 0, 0, [])), (1, (.ifCond .ne 14, 4, false, false, 15, 0, 0, 0, 0, 0, [])), (4, (.new 330, 7, false, false, 2, 0, 1, 0, 0, 0, [])), (15, (.return_, 16, false, false, 0, 0, 0, 0, 0, 0, []))])], 0, [])
set_option maxRecDepth 100000 in
theorem v_X11_needKind : VE MYT dflT E_X11_needKind := ⟨⟨⟨⟨⟨dX11_needKind_0, rfl⟩, rfl⟩, ⟨⟨dX11_needKind_1, rfl⟩, rfl⟩, ⟨⟨dX11_needKind_4, rfl⟩, Or.inr ⟨rfl, rfl, thX11_needKind_4⟩⟩, ⟨⟨dX11_needKind_15, rfl⟩, rfl⟩, trivial⟩, trivial⟩, by decide, Or.inl ⟨rfl, by decide, rfl⟩⟩
set_option maxRecDepth 100000 in
theorem g_X11_needKind_0 (S : sT) (call : cT) (n : Nat) (x0 : Int32) (h : pH) : bd S call dflT E_X11_needKind (n + 1) 0 [some (.int x0)] [] h = ((if x0 = 0 then some (.inr (xnm 2), h) else some (.inl none, h))) := rfl
theorem dX11_sow_0 : decode cX11_sow 0 = .ok (.iload_n 1, 1) := by decide +kernel
theorem dX11_sow_1 : decode cX11_sow 1 = .ok (.invokestatic 40, 3) := by decide +kernel
theorem dX11_sow_4 : decode cX11_sow 4 = .ok (.iload_n 2, 1) := by decide +kernel
theorem dX11_sow_5 : decode cX11_sow 5 = .ok (.iconst 0, 1) := by decide +kernel
theorem dX11_sow_6 : decode cX11_sow 6 = .ok (.iconst 5, 1) := by decide +kernel
theorem dX11_sow_7 : decode cX11_sow 7 = .ok (.invokestatic 43, 3) := by decide +kernel
theorem dX11_sow_10 : decode cX11_sow 10 = .ok (.aload_n 0, 1) := by decide +kernel
theorem dX11_sow_11 : decode cX11_sow 11 = .ok (.getfield 19, 3) := by decide +kernel
theorem dX11_sow_14 : decode cX11_sow 14 = .ok (.iload_n 1, 1) := by decide +kernel
theorem dX11_sow_15 : decode cX11_sow 15 = .ok (.invokevirtual 129, 3) := by decide +kernel
theorem dX11_sow_18 : decode cX11_sow 18 = .ok (.invokestatic 132, 3) := by decide +kernel
theorem dX11_sow_21 : decode cX11_sow 21 = .ok (.invokestatic 135, 3) := by decide +kernel
theorem dX11_sow_24 : decode cX11_sow 24 = .ok (.aload_n 0, 1) := by decide +kernel
theorem dX11_sow_25 : decode cX11_sow 25 = .ok (.getfield 19, 3) := by decide +kernel
theorem dX11_sow_28 : decode cX11_sow 28 = .ok (.getfield 47, 3) := by decide +kernel
theorem dX11_sow_31 : decode cX11_sow 31 = .ok (.iconst 3, 1) := by decide +kernel
theorem dX11_sow_32 : decode cX11_sow 32 = .ok (.iload_n 1, 1) := by decide +kernel
theorem dX11_sow_33 : decode cX11_sow 33 = .ok (.invokevirtual 138, 3) := by decide +kernel
theorem dX11_sow_36 : decode cX11_sow 36 = .ok (.iload_n 2, 1) := by decide +kernel
theorem dX11_sow_37 : decode cX11_sow 37 = .ok (.if_icmp .eq 7, 3) := by decide +kernel
theorem dX11_sow_40 : decode cX11_sow 40 = .ok (.iconst 1, 1) := by decide +kernel
theorem dX11_sow_41 : decode cX11_sow 41 = .ok (.goto 4, 3) := by decide +kernel
theorem dX11_sow_44 : decode cX11_sow 44 = .ok (.iconst 0, 1) := by decide +kernel
theorem dX11_sow_45 : decode cX11_sow 45 = .ok (.istore_n 3, 1) := by decide +kernel
theorem dX11_sow_46 : decode cX11_sow 46 = .ok (.aload_n 0, 1) := by decide +kernel
theorem dX11_sow_47 : decode cX11_sow 47 = .ok (.getfield 19, 3) := by decide +kernel
theorem dX11_sow_50 : decode cX11_sow 50 = .ok (.getfield 47, 3) := by decide +kernel
theorem dX11_sow_53 : decode cX11_sow 53 = .ok (.iconst 3, 1) := by decide +kernel
theorem dX11_sow_54 : decode cX11_sow 54 = .ok (.iload_n 1, 1) := by decide +kernel
theorem dX11_sow_55 : decode cX11_sow 55 = .ok (.iload_n 2, 1) := by decide +kernel
theorem dX11_sow_56 : decode cX11_sow 56 = .ok (.invokevirtual 57, 3) := by decide +kernel
theorem dX11_sow_59 : decode cX11_sow 59 = .ok (.iload_n 3, 1) := by decide +kernel
theorem dX11_sow_60 : decode cX11_sow 60 = .ok (.ireturn, 1) := by decide +kernel
noncomputable def E_X11_sow : mE := (mX11_sow, [(45, [(0, (.iload_n 1, 1, false, false, 1, 0, 0, 0, 0, 0, [])), (1, (.invokestatic 40, 4, false, false, 20, 1, 0, 0, 0, 0, [])), (4, (.iload_n 2, 5, false, false, 2, 0, 0, 0, 0, 0, [])), (5, (.iconst 0, 6, false, false, 0, 0, 0, 0, 0, 0, [])), (6, (.iconst 5, 7, false, false, 0, 0, 0, 0, 5, 0, [])), (7, (.invokestatic 43, 10, false, false, 21, 3, 0, 0, 0, 0, [])), (10, (.aload_n 0, 11, false, false, 0, 0, 0, 0, 0, 0, [])), (11, (.getfield 19, 14, false, false, 14, 1, 1, 0, 0, 0, [])), (14, (.iload_n 1, 15, false, false, 1, 0, 0, 0, 0, 0, [])), (15, (.invokevirtual 129, 18, false, false, 160, 1, 1, 3, 0, 0, [])), (18, (.invokestatic 132, 21, false, false, 161, 1, 1, 0, 0, 0, [])), (21, (.invokestatic 135, 24, false, false, 162, 1, 0, 0, 0, 0, [])), (24, (.aload_n 0, 25, false, false, 0, 0, 0, 0, 0, 0, [])), (25, (.getfield 19, 28, false, false, 14, 1, 1, 0, 0, 0, [])), (28, (.getfield 47, 31, false, false, 3, 1, 1, 0, 0, 0, [])), (31, (.iconst 3, 32, false, false, 0, 0, 0, 0, 3, 0, [])), (32, (.iload_n 1, 33, false, false, 1, 0, 0, 0, 0, 0, [])), (33, (.invokevirtual 138, 36, false, false, 23, 2, 1, 5, 0, 0, [])), (36, (.iload_n 2, 37, false, false, 2, 0, 0, 0, 0, 0, [])), (37, (.if_icmp .eq 7, 40, false, false, 44, 0, 0, 0, 0, 0, [])), (40, (.iconst 1, 41, false, false, 0, 0, 0, 0, 1, 0, [])), (41, (.goto 4, 44, false, false, 45, 0, 0, 0, 0, 0, [])), (44, (.iconst 0, 45, false, false, 0, 0, 0, 0, 0, 0, [])), (45, (.istore_n 3, 46, false, false, 3, 0, 0, 0, 0, 0, []))]),
  (60, [(46, (.aload_n 0, 47, false, false, 0, 0, 0, 0, 0, 0, [])), (47, (.getfield 19, 50, false, false, 14, 1, 1, 0, 0, 0, [])), (50, (.getfield 47, 53, false, false, 3, 1, 1, 0, 0, 0, [])), (53, (.iconst 3, 54, false, false, 0, 0, 0, 0, 3, 0, [])), (54, (.iload_n 1, 55, false, false, 1, 0, 0, 0, 0, 0, [])), (55, (.iload_n 2, 56, false, false, 2, 0, 0, 0, 0, 0, [])), (56, (.invokevirtual 57, 59, false, false, 25, 3, 0, 5, 0, 0, [])), (59, (.iload_n 3, 60, false, false, 3, 0, 0, 0, 0, 0, [])), (60, (.ireturn, 61, false, false, 0, 0, 1, 0, 0, 0, []))])], 0, [])
set_option maxRecDepth 100000 in
theorem v_X11_sow : VE MYT dflT E_X11_sow := ⟨⟨⟨⟨⟨dX11_sow_0, rfl⟩, rfl⟩, ⟨⟨dX11_sow_1, rfl⟩, Or.inl ⟨rfl, _, my_20, sX11_40⟩⟩, ⟨⟨dX11_sow_4, rfl⟩, rfl⟩, ⟨⟨dX11_sow_5, rfl⟩, rfl⟩, ⟨⟨dX11_sow_6, rfl⟩, rfl⟩, ⟨⟨dX11_sow_7, rfl⟩, Or.inl ⟨rfl, _, my_21, sX11_43⟩⟩, ⟨⟨dX11_sow_10, rfl⟩, rfl⟩, ⟨⟨dX11_sow_11, rfl⟩, Or.inl ⟨by decide, _, _, fX11_19⟩⟩, ⟨⟨dX11_sow_14, rfl⟩, rfl⟩, ⟨⟨dX11_sow_15, rfl⟩, Or.inr ⟨by decide, ⟨_, my_160, sX11_129⟩, fun q => absurd q (by decide)⟩⟩, ⟨⟨dX11_sow_18, rfl⟩, Or.inl ⟨rfl, _, my_161, sX11_132⟩⟩, ⟨⟨dX11_sow_21, rfl⟩, Or.inl ⟨rfl, _, my_162, sX11_135⟩⟩, ⟨⟨dX11_sow_24, rfl⟩, rfl⟩, ⟨⟨dX11_sow_25, rfl⟩, Or.inl ⟨by decide, _, _, fX11_19⟩⟩, ⟨⟨dX11_sow_28, rfl⟩, Or.inl ⟨by decide, _, _, fX11_47⟩⟩, ⟨⟨dX11_sow_31, rfl⟩, rfl⟩, ⟨⟨dX11_sow_32, rfl⟩, rfl⟩, ⟨⟨dX11_sow_33, rfl⟩, Or.inr ⟨by decide, ⟨_, my_23, sX11_138⟩, fun q => absurd q (by decide)⟩⟩, ⟨⟨dX11_sow_36, rfl⟩, rfl⟩, ⟨⟨dX11_sow_37, rfl⟩, rfl⟩, ⟨⟨dX11_sow_40, rfl⟩, rfl⟩, ⟨⟨dX11_sow_41, rfl⟩, rfl⟩, ⟨⟨dX11_sow_44, rfl⟩, rfl⟩, ⟨⟨dX11_sow_45, rfl⟩, rfl⟩, trivial⟩,
  ⟨⟨⟨dX11_sow_46, rfl⟩, rfl⟩, ⟨⟨dX11_sow_47, rfl⟩, Or.inl ⟨by decide, _, _, fX11_19⟩⟩, ⟨⟨dX11_sow_50, rfl⟩, Or.inl ⟨by decide, _, _, fX11_47⟩⟩, ⟨⟨dX11_sow_53, rfl⟩, rfl⟩, ⟨⟨dX11_sow_54, rfl⟩, rfl⟩, ⟨⟨dX11_sow_55, rfl⟩, rfl⟩, ⟨⟨dX11_sow_56, rfl⟩, Or.inr ⟨by decide, ⟨_, my_25, sX11_57⟩, fun q => absurd q (by decide)⟩⟩, ⟨⟨dX11_sow_59, rfl⟩, rfl⟩, ⟨⟨dX11_sow_60, rfl⟩, Or.inr (Or.inl ⟨rfl, rfl⟩)⟩, trivial⟩, trivial⟩, by decide, Or.inl ⟨rfl, by decide, rfl⟩⟩
set_option maxRecDepth 100000 in
theorem g_X11_sow_0 (S : sT) (call : cT) (n : Nat) (a0 : Nat) (x1 : Int32) (x2 : Int32) (h : pH) : bd S call dflT E_X11_sow (n + 1) 0 [some (.ref a0), some (.int x1), some (.int x2), none] [] h = (cU (call 20 [.int x1] h) (fun h1 => cU (call 21 [.int x2, .int 0, .int 5] h1) (fun h2 => gV h2 (.ref a0) 14 1 (fun w3 => rC h2 w3 3 (cI (call 160 [w3, .int x1] h2) (fun y5 h4 => cI (call 161 [.int y5] h4) (fun y7 h6 => cU (call 162 [.int y7] h6) (fun h8 => gV h8 (.ref a0) 14 1 (fun w9 => gV h8 w9 3 1 (fun w10 => rC h8 w10 5 (cI (call 23 [w10, .int 3, .int x1] h8) (fun y12 h11 => (if y12 = x2 then gV h11 (.ref a0) 14 1 (fun w13 => gV h11 w13 3 1 (fun w14 => rC h11 w14 5 (cU (call 25 [w14, .int 3, .int x1, .int x2] h11) (fun h15 => zR 0 (some (.inl (some (.int 0)), h15)))))) else gV h11 (.ref a0) 14 1 (fun w16 => gV h11 w16 3 1 (fun w17 => rC h11 w17 5 (cU (call 25 [w17, .int 3, .int x1, .int x2] h11) (fun h18 => zR 1 (some (.inl (some (.int 1)), h18))))))))))))))))))) := rfl
theorem dX11_needHolding_0 : decode cX11_needHolding 0 = .ok (.iload_n 1, 1) := by decide +kernel
theorem dX11_needHolding_1 : decode cX11_needHolding 1 = .ok (.aload_n 0, 1) := by decide +kernel
theorem dX11_needHolding_2 : decode cX11_needHolding 2 = .ok (.getfield 19, 3) := by decide +kernel
theorem dX11_needHolding_5 : decode cX11_needHolding 5 = .ok (.getfield 111, 3) := by decide +kernel
theorem dX11_needHolding_8 : decode cX11_needHolding 8 = .ok (.getfield 300, 3) := by decide +kernel
theorem dX11_needHolding_11 : decode cX11_needHolding 11 = .ok (.invokestatic 234, 3) := by decide +kernel
theorem dX11_needHolding_14 : decode cX11_needHolding 14 = .ok (.return_, 1) := by decide +kernel
noncomputable def E_X11_needHolding : mE := (mX11_needHolding, [(14, [(0, (.iload_n 1, 1, false, false, 1, 0, 0, 0, 0, 0, [])), (1, (.aload_n 0, 2, false, false, 0, 0, 0, 0, 0, 0, [])), (2, (.getfield 19, 5, false, false, 14, 1, 1, 0, 0, 0, [])), (5, (.getfield 111, 8, false, false, 3, 2, 1, 0, 0, 0, [])), (8, (.getfield 300, 11, false, false, 4, 0, 0, 0, 0, 0, [])), (11, (.invokestatic 234, 14, false, false, 19, 2, 0, 0, 0, 0, [])), (14, (.return_, 15, false, false, 0, 0, 0, 0, 0, 0, []))])], 0, [])
set_option maxRecDepth 100000 in
theorem v_X11_needHolding : VE MYT dflT E_X11_needHolding := ⟨⟨⟨⟨⟨dX11_needHolding_0, rfl⟩, rfl⟩, ⟨⟨dX11_needHolding_1, rfl⟩, rfl⟩, ⟨⟨dX11_needHolding_2, rfl⟩, Or.inl ⟨by decide, _, _, fX11_19⟩⟩, ⟨⟨dX11_needHolding_5, rfl⟩, Or.inl ⟨by decide, _, _, fX11_111⟩⟩, ⟨⟨dX11_needHolding_8, rfl⟩, Or.inl ⟨by decide, _, _, fX11_300⟩⟩, ⟨⟨dX11_needHolding_11, rfl⟩, Or.inl ⟨rfl, _, my_19, sX11_234⟩⟩, ⟨⟨dX11_needHolding_14, rfl⟩, rfl⟩, trivial⟩, trivial⟩, by decide, Or.inl ⟨rfl, by decide, rfl⟩⟩
set_option maxRecDepth 100000 in
theorem g_X11_needHolding_0 (S : sT) (call : cT) (n : Nat) (a0 : Nat) (x1 : Int32) (h : pH) : bd S call dflT E_X11_needHolding (n + 1) 0 [some (.ref a0), some (.int x1)] [] h = (gV h (.ref a0) 14 1 (fun w1 => gV h w1 3 2 (fun w2 => gI h w2 4 0 (fun y3 => cU (call 19 [.int x1, .int y3] h) (fun h4 => some (.inl none, h4)))))) := rfl
theorem dX11_notice_0 : decode cX11_notice 0 = .ok (.aload_n 0, 1) := by decide +kernel
theorem dX11_notice_1 : decode cX11_notice 1 = .ok (.iload_n 1, 1) := by decide +kernel
theorem dX11_notice_2 : decode cX11_notice 2 = .ok (.invokevirtual 142, 3) := by decide +kernel
theorem dX11_notice_5 : decode cX11_notice 5 = .ok (.aload_n 0, 1) := by decide +kernel
theorem dX11_notice_6 : decode cX11_notice 6 = .ok (.getfield 19, 3) := by decide +kernel
theorem dX11_notice_9 : decode cX11_notice 9 = .ok (.getfield 111, 3) := by decide +kernel
theorem dX11_notice_12 : decode cX11_notice 12 = .ok (.iconst 0, 1) := by decide +kernel
theorem dX11_notice_13 : decode cX11_notice 13 = .ok (.iload_n 1, 1) := by decide +kernel
theorem dX11_notice_14 : decode cX11_notice 14 = .ok (.invokevirtual 145, 3) := by decide +kernel
theorem dX11_notice_17 : decode cX11_notice 17 = .ok (.iconst 1, 1) := by decide +kernel
theorem dX11_notice_18 : decode cX11_notice 18 = .ok (.if_icmp .ne 7, 3) := by decide +kernel
theorem dX11_notice_21 : decode cX11_notice 21 = .ok (.iconst 1, 1) := by decide +kernel
theorem dX11_notice_22 : decode cX11_notice 22 = .ok (.goto 4, 3) := by decide +kernel
theorem dX11_notice_25 : decode cX11_notice 25 = .ok (.iconst 0, 1) := by decide +kernel
theorem dX11_notice_26 : decode cX11_notice 26 = .ok (.invokestatic 135, 3) := by decide +kernel
theorem dX11_notice_29 : decode cX11_notice 29 = .ok (.aload_n 0, 1) := by decide +kernel
theorem dX11_notice_30 : decode cX11_notice 30 = .ok (.getfield 19, 3) := by decide +kernel
theorem dX11_notice_33 : decode cX11_notice 33 = .ok (.getfield 111, 3) := by decide +kernel
theorem dX11_notice_36 : decode cX11_notice 36 = .ok (.bipush 10, 2) := by decide +kernel
theorem dX11_notice_38 : decode cX11_notice 38 = .ok (.iload_n 1, 1) := by decide +kernel
theorem dX11_notice_39 : decode cX11_notice 39 = .ok (.invokevirtual 145, 3) := by decide +kernel
theorem dX11_notice_42 : decode cX11_notice 42 = .ok (.ifCond .ne 7, 3) := by decide +kernel
theorem dX11_notice_45 : decode cX11_notice 45 = .ok (.iconst 1, 1) := by decide +kernel
theorem dX11_notice_46 : decode cX11_notice 46 = .ok (.goto 4, 3) := by decide +kernel
theorem dX11_notice_49 : decode cX11_notice 49 = .ok (.iconst 0, 1) := by decide +kernel
theorem dX11_notice_50 : decode cX11_notice 50 = .ok (.istore_n 2, 1) := by decide +kernel
theorem dX11_notice_51 : decode cX11_notice 51 = .ok (.aload_n 0, 1) := by decide +kernel
theorem dX11_notice_52 : decode cX11_notice 52 = .ok (.getfield 19, 3) := by decide +kernel
theorem dX11_notice_55 : decode cX11_notice 55 = .ok (.getfield 111, 3) := by decide +kernel
theorem dX11_notice_58 : decode cX11_notice 58 = .ok (.bipush 10, 2) := by decide +kernel
theorem dX11_notice_60 : decode cX11_notice 60 = .ok (.iload_n 1, 1) := by decide +kernel
theorem dX11_notice_61 : decode cX11_notice 61 = .ok (.iconst 1, 1) := by decide +kernel
theorem dX11_notice_62 : decode cX11_notice 62 = .ok (.invokevirtual 146, 3) := by decide +kernel
theorem dX11_notice_65 : decode cX11_notice 65 = .ok (.iload_n 2, 1) := by decide +kernel
theorem dX11_notice_66 : decode cX11_notice 66 = .ok (.ireturn, 1) := by decide +kernel
noncomputable def E_X11_notice : mE := (mX11_notice, [(46, [(0, (.aload_n 0, 1, false, false, 0, 0, 0, 0, 0, 0, [])), (1, (.iload_n 1, 2, false, false, 1, 0, 0, 0, 0, 0, [])), (2, (.invokevirtual 142, 5, false, false, 168, 1, 0, 14, 0, 0, [])), (5, (.aload_n 0, 6, false, false, 0, 0, 0, 0, 0, 0, [])), (6, (.getfield 19, 9, false, false, 14, 1, 1, 0, 0, 0, [])), (9, (.getfield 111, 12, false, false, 3, 2, 1, 0, 0, 0, [])), (12, (.iconst 0, 13, false, false, 0, 0, 0, 0, 0, 0, [])), (13, (.iload_n 1, 14, false, false, 1, 0, 0, 0, 0, 0, [])), (14, (.invokevirtual 145, 17, false, false, 102, 2, 1, 4, 0, 0, [])), (17, (.iconst 1, 18, false, false, 0, 0, 0, 0, 1, 0, [])), (18, (.if_icmp .ne 7, 21, false, false, 25, 0, 0, 0, 0, 0, [])), (21, (.iconst 1, 22, false, false, 0, 0, 0, 0, 1, 0, [])), (22, (.goto 4, 25, false, true, 26, 0, 0, 0, 0, 0, [])), (25, (.iconst 0, 26, true, false, 0, 0, 0, 0, 0, 0, [])), (26, (.invokestatic 135, 29, false, false, 162, 1, 0, 0, 0, 0, [])), (29, (.aload_n 0, 30, false, false, 0, 0, 0, 0, 0, 0, [])), (30, (.getfield 19, 33, false, false, 14, 1, 1, 0, 0, 0, [])), (33, (.getfield 111, 36, false, false, 3, 2, 1, 0, 0, 0, [])), (36, (.bipush 10, 38, false, false, 0, 0, 0, 0, 10, 0, [])), (38, (.iload_n 1, 39, false, false, 1, 0, 0, 0, 0, 0, [])), (39, (.invokevirtual 145, 42, false, false, 102, 2, 1, 4, 0, 0, [])), (42, (.ifCond .ne 7, 45, false, false, 49, 0, 0, 0, 0, 0, [])), (45, (.iconst 1, 46, false, false, 0, 0, 0, 0, 1, 0, [])), (46, (.goto 4, 49, false, false, 50, 0, 0, 0, 0, 0, []))]),
  (66, [(49, (.iconst 0, 50, false, false, 0, 0, 0, 0, 0, 0, [])), (50, (.istore_n 2, 51, false, false, 2, 0, 0, 0, 0, 0, [])), (51, (.aload_n 0, 52, false, false, 0, 0, 0, 0, 0, 0, [])), (52, (.getfield 19, 55, false, false, 14, 1, 1, 0, 0, 0, [])), (55, (.getfield 111, 58, false, false, 3, 2, 1, 0, 0, 0, [])), (58, (.bipush 10, 60, false, false, 0, 0, 0, 0, 10, 0, [])), (60, (.iload_n 1, 61, false, false, 1, 0, 0, 0, 0, 0, [])), (61, (.iconst 1, 62, false, false, 0, 0, 0, 0, 1, 0, [])), (62, (.invokevirtual 146, 65, false, false, 100, 3, 0, 4, 0, 0, [])), (65, (.iload_n 2, 66, false, false, 2, 0, 0, 0, 0, 0, [])), (66, (.ireturn, 67, false, false, 0, 0, 1, 0, 0, 0, []))])], 0, [])
set_option maxRecDepth 100000 in
theorem v_X11_notice : VE MYT dflT E_X11_notice := ⟨⟨⟨⟨⟨dX11_notice_0, rfl⟩, rfl⟩, ⟨⟨dX11_notice_1, rfl⟩, rfl⟩, ⟨⟨dX11_notice_2, rfl⟩, Or.inr ⟨by decide, ⟨_, my_168, sX11_142⟩, fun q => absurd q (by decide)⟩⟩, ⟨⟨dX11_notice_5, rfl⟩, rfl⟩, ⟨⟨dX11_notice_6, rfl⟩, Or.inl ⟨by decide, _, _, fX11_19⟩⟩, ⟨⟨dX11_notice_9, rfl⟩, Or.inl ⟨by decide, _, _, fX11_111⟩⟩, ⟨⟨dX11_notice_12, rfl⟩, rfl⟩, ⟨⟨dX11_notice_13, rfl⟩, rfl⟩, ⟨⟨dX11_notice_14, rfl⟩, Or.inr ⟨by decide, ⟨_, my_102, sX11_145⟩, fun q => absurd q (by decide)⟩⟩, ⟨⟨dX11_notice_17, rfl⟩, rfl⟩, ⟨⟨dX11_notice_18, rfl⟩, rfl⟩, ⟨⟨dX11_notice_21, rfl⟩, rfl⟩, ⟨⟨dX11_notice_22, rfl⟩, rfl⟩, ⟨⟨dX11_notice_25, rfl⟩, rfl⟩, ⟨⟨dX11_notice_26, rfl⟩, Or.inl ⟨rfl, _, my_162, sX11_135⟩⟩, ⟨⟨dX11_notice_29, rfl⟩, rfl⟩, ⟨⟨dX11_notice_30, rfl⟩, Or.inl ⟨by decide, _, _, fX11_19⟩⟩, ⟨⟨dX11_notice_33, rfl⟩, Or.inl ⟨by decide, _, _, fX11_111⟩⟩, ⟨⟨dX11_notice_36, rfl⟩, rfl⟩, ⟨⟨dX11_notice_38, rfl⟩, rfl⟩, ⟨⟨dX11_notice_39, rfl⟩, Or.inr ⟨by decide, ⟨_, my_102, sX11_145⟩, fun q => absurd q (by decide)⟩⟩, ⟨⟨dX11_notice_42, rfl⟩, rfl⟩, ⟨⟨dX11_notice_45, rfl⟩, rfl⟩, ⟨⟨dX11_notice_46, rfl⟩, rfl⟩, trivial⟩,
  ⟨⟨⟨dX11_notice_49, rfl⟩, rfl⟩, ⟨⟨dX11_notice_50, rfl⟩, rfl⟩, ⟨⟨dX11_notice_51, rfl⟩, rfl⟩, ⟨⟨dX11_notice_52, rfl⟩, Or.inl ⟨by decide, _, _, fX11_19⟩⟩, ⟨⟨dX11_notice_55, rfl⟩, Or.inl ⟨by decide, _, _, fX11_111⟩⟩, ⟨⟨dX11_notice_58, rfl⟩, rfl⟩, ⟨⟨dX11_notice_60, rfl⟩, rfl⟩, ⟨⟨dX11_notice_61, rfl⟩, rfl⟩, ⟨⟨dX11_notice_62, rfl⟩, Or.inr ⟨by decide, ⟨_, my_100, sX11_146⟩, fun q => absurd q (by decide)⟩⟩, ⟨⟨dX11_notice_65, rfl⟩, rfl⟩, ⟨⟨dX11_notice_66, rfl⟩, Or.inr (Or.inl ⟨rfl, rfl⟩)⟩, trivial⟩, trivial⟩, by decide, Or.inl ⟨rfl, by decide, rfl⟩⟩
set_option maxRecDepth 100000 in
theorem g_X11_notice_0 (S : sT) (call : cT) (n : Nat) (a0 : Nat) (x1 : Int32) (h : pH) : bd S call dflT E_X11_notice (n + 1) 0 [some (.ref a0), some (.int x1), none] [] h = (rC h (.ref a0) 14 (cU (call 168 [.ref a0, .int x1] h) (fun h1 => gV h1 (.ref a0) 14 1 (fun w2 => gV h1 w2 3 2 (fun w3 => rC h1 w3 4 (cI (call 102 [w3, .int 0, .int x1] h1) (fun y5 h4 => (if y5 = 1 then bd S call dflT E_X11_notice n 26 [some (.ref a0), some (.int x1), none] [.int 1] h4 else bd S call dflT E_X11_notice n 26 [some (.ref a0), some (.int x1), none] [.int 0] h4)))))))) := rfl
set_option maxRecDepth 100000 in
theorem g_X11_notice_26 (S : sT) (call : cT) (n : Nat) (a0 : Nat) (x1 : Int32) (o2 : Option Value) (y0 : Int32) (h : pH) : bd S call dflT E_X11_notice (n + 1) 26 [some (.ref a0), some (.int x1), o2] [.int y0] h = (cU (call 162 [.int y0] h) (fun h1 => gV h1 (.ref a0) 14 1 (fun w2 => gV h1 w2 3 2 (fun w3 => rC h1 w3 4 (cI (call 102 [w3, .int 10, .int x1] h1) (fun y5 h4 => (if y5 = 0 then gV h4 (.ref a0) 14 1 (fun w9 => gV h4 w9 3 2 (fun w10 => rC h4 w10 4 (cU (call 100 [w10, .int 10, .int x1, .int 1] h4) (fun h11 => zR 1 (some (.inl (some (.int 1)), h11)))))) else gV h4 (.ref a0) 14 1 (fun w6 => gV h4 w6 3 2 (fun w7 => rC h4 w7 4 (cU (call 100 [w7, .int 10, .int x1, .int 1] h4) (fun h8 => zR 0 (some (.inl (some (.int 0)), h8))))))))))))) := rfl
theorem dX11_give_0 : decode cX11_give 0 = .ok (.aload_n 0, 1) := by decide +kernel
theorem dX11_give_1 : decode cX11_give 1 = .ok (.iload_n 1, 1) := by decide +kernel
theorem dX11_give_2 : decode cX11_give 2 = .ok (.invokevirtual 142, 3) := by decide +kernel
theorem dX11_give_5 : decode cX11_give 5 = .ok (.aload_n 0, 1) := by decide +kernel
theorem dX11_give_6 : decode cX11_give 6 = .ok (.getfield 19, 3) := by decide +kernel
theorem dX11_give_9 : decode cX11_give 9 = .ok (.getfield 111, 3) := by decide +kernel
theorem dX11_give_12 : decode cX11_give 12 = .ok (.iload_n 1, 1) := by decide +kernel
theorem dX11_give_13 : decode cX11_give 13 = .ok (.invokevirtual 147, 3) := by decide +kernel
theorem dX11_give_16 : decode cX11_give 16 = .ok (.ifCond .ne 7, 3) := by decide +kernel
theorem dX11_give_19 : decode cX11_give 19 = .ok (.iconst 1, 1) := by decide +kernel
theorem dX11_give_20 : decode cX11_give 20 = .ok (.goto 4, 3) := by decide +kernel
theorem dX11_give_23 : decode cX11_give 23 = .ok (.iconst 0, 1) := by decide +kernel
theorem dX11_give_24 : decode cX11_give 24 = .ok (.invokestatic 135, 3) := by decide +kernel
theorem dX11_give_27 : decode cX11_give 27 = .ok (.aload_n 0, 1) := by decide +kernel
theorem dX11_give_28 : decode cX11_give 28 = .ok (.getfield 19, 3) := by decide +kernel
theorem dX11_give_31 : decode cX11_give 31 = .ok (.getfield 111, 3) := by decide +kernel
theorem dX11_give_34 : decode cX11_give 34 = .ok (.iconst 1, 1) := by decide +kernel
theorem dX11_give_35 : decode cX11_give 35 = .ok (.iload_n 1, 1) := by decide +kernel
theorem dX11_give_36 : decode cX11_give 36 = .ok (.invokevirtual 145, 3) := by decide +kernel
theorem dX11_give_39 : decode cX11_give 39 = .ok (.istore_n 2, 1) := by decide +kernel
theorem dX11_give_40 : decode cX11_give 40 = .ok (.aload_n 0, 1) := by decide +kernel
theorem dX11_give_41 : decode cX11_give 41 = .ok (.getfield 19, 3) := by decide +kernel
theorem dX11_give_44 : decode cX11_give 44 = .ok (.iload_n 1, 1) := by decide +kernel
theorem dX11_give_45 : decode cX11_give 45 = .ok (.invokevirtual 150, 3) := by decide +kernel
theorem dX11_give_48 : decode cX11_give 48 = .ok (.iload_n 2, 1) := by decide +kernel
theorem dX11_give_49 : decode cX11_give 49 = .ok (.ireturn, 1) := by decide +kernel
noncomputable def E_X11_give : mE := (mX11_give, [(45, [(0, (.aload_n 0, 1, false, false, 0, 0, 0, 0, 0, 0, [])), (1, (.iload_n 1, 2, false, false, 1, 0, 0, 0, 0, 0, [])), (2, (.invokevirtual 142, 5, false, false, 168, 1, 0, 14, 0, 0, [])), (5, (.aload_n 0, 6, false, false, 0, 0, 0, 0, 0, 0, [])), (6, (.getfield 19, 9, false, false, 14, 1, 1, 0, 0, 0, [])), (9, (.getfield 111, 12, false, false, 3, 2, 1, 0, 0, 0, [])), (12, (.iload_n 1, 13, false, false, 1, 0, 0, 0, 0, 0, [])), (13, (.invokevirtual 147, 16, false, false, 174, 1, 1, 4, 0, 0, [])), (16, (.ifCond .ne 7, 19, false, false, 23, 0, 0, 0, 0, 0, [])), (19, (.iconst 1, 20, false, false, 0, 0, 0, 0, 1, 0, [])), (20, (.goto 4, 23, false, false, 24, 0, 0, 0, 0, 0, [])), (23, (.iconst 0, 24, false, false, 0, 0, 0, 0, 0, 0, [])), (24, (.invokestatic 135, 27, false, false, 162, 1, 0, 0, 0, 0, [])), (27, (.aload_n 0, 28, false, false, 0, 0, 0, 0, 0, 0, [])), (28, (.getfield 19, 31, false, false, 14, 1, 1, 0, 0, 0, [])), (31, (.getfield 111, 34, false, false, 3, 2, 1, 0, 0, 0, [])), (34, (.iconst 1, 35, false, false, 0, 0, 0, 0, 1, 0, [])), (35, (.iload_n 1, 36, false, false, 1, 0, 0, 0, 0, 0, [])), (36, (.invokevirtual 145, 39, false, false, 102, 2, 1, 4, 0, 0, [])), (39, (.istore_n 2, 40, false, false, 2, 0, 0, 0, 0, 0, [])), (40, (.aload_n 0, 41, false, false, 0, 0, 0, 0, 0, 0, [])), (41, (.getfield 19, 44, false, false, 14, 1, 1, 0, 0, 0, [])), (44, (.iload_n 1, 45, false, false, 1, 0, 0, 0, 0, 0, [])), (45, (.invokevirtual 150, 48, false, false, 175, 1, 0, 3, 0, 0, []))]),
  (49, [(48, (.iload_n 2, 49, false, false, 2, 0, 0, 0, 0, 0, [])), (49, (.ireturn, 50, false, false, 0, 0, 0, 0, 0, 0, []))])], 0, [])
set_option maxRecDepth 100000 in
theorem v_X11_give : VE MYT dflT E_X11_give := ⟨⟨⟨⟨⟨dX11_give_0, rfl⟩, rfl⟩, ⟨⟨dX11_give_1, rfl⟩, rfl⟩, ⟨⟨dX11_give_2, rfl⟩, Or.inr ⟨by decide, ⟨_, my_168, sX11_142⟩, fun q => absurd q (by decide)⟩⟩, ⟨⟨dX11_give_5, rfl⟩, rfl⟩, ⟨⟨dX11_give_6, rfl⟩, Or.inl ⟨by decide, _, _, fX11_19⟩⟩, ⟨⟨dX11_give_9, rfl⟩, Or.inl ⟨by decide, _, _, fX11_111⟩⟩, ⟨⟨dX11_give_12, rfl⟩, rfl⟩, ⟨⟨dX11_give_13, rfl⟩, Or.inr ⟨by decide, ⟨_, my_174, sX11_147⟩, fun q => absurd q (by decide)⟩⟩, ⟨⟨dX11_give_16, rfl⟩, rfl⟩, ⟨⟨dX11_give_19, rfl⟩, rfl⟩, ⟨⟨dX11_give_20, rfl⟩, rfl⟩, ⟨⟨dX11_give_23, rfl⟩, rfl⟩, ⟨⟨dX11_give_24, rfl⟩, Or.inl ⟨rfl, _, my_162, sX11_135⟩⟩, ⟨⟨dX11_give_27, rfl⟩, rfl⟩, ⟨⟨dX11_give_28, rfl⟩, Or.inl ⟨by decide, _, _, fX11_19⟩⟩, ⟨⟨dX11_give_31, rfl⟩, Or.inl ⟨by decide, _, _, fX11_111⟩⟩, ⟨⟨dX11_give_34, rfl⟩, rfl⟩, ⟨⟨dX11_give_35, rfl⟩, rfl⟩, ⟨⟨dX11_give_36, rfl⟩, Or.inr ⟨by decide, ⟨_, my_102, sX11_145⟩, fun q => absurd q (by decide)⟩⟩, ⟨⟨dX11_give_39, rfl⟩, rfl⟩, ⟨⟨dX11_give_40, rfl⟩, rfl⟩, ⟨⟨dX11_give_41, rfl⟩, Or.inl ⟨by decide, _, _, fX11_19⟩⟩, ⟨⟨dX11_give_44, rfl⟩, rfl⟩, ⟨⟨dX11_give_45, rfl⟩, Or.inr ⟨by decide, ⟨_, my_175, sX11_150⟩, fun q => absurd q (by decide)⟩⟩, trivial⟩,
  ⟨⟨⟨dX11_give_48, rfl⟩, rfl⟩, ⟨⟨dX11_give_49, rfl⟩, Or.inl ⟨rfl, rfl⟩⟩, trivial⟩, trivial⟩, by decide, Or.inl ⟨rfl, by decide, rfl⟩⟩
set_option maxRecDepth 100000 in
theorem g_X11_give_0 (S : sT) (call : cT) (n : Nat) (a0 : Nat) (x1 : Int32) (h : pH) : bd S call dflT E_X11_give (n + 1) 0 [some (.ref a0), some (.int x1), none] [] h = (rC h (.ref a0) 14 (cU (call 168 [.ref a0, .int x1] h) (fun h1 => gV h1 (.ref a0) 14 1 (fun w2 => gV h1 w2 3 2 (fun w3 => rC h1 w3 4 (cI (call 174 [w3, .int x1] h1) (fun y5 h4 => (if y5 = 0 then cU (call 162 [.int 1] h4) (fun h13 => gV h13 (.ref a0) 14 1 (fun w14 => gV h13 w14 3 2 (fun w15 => rC h13 w15 4 (cI (call 102 [w15, .int 1, .int x1] h13) (fun y17 h16 => gV h16 (.ref a0) 14 1 (fun w18 => rC h16 w18 3 (cU (call 175 [w18, .int x1] h16) (fun h19 => some (.inl (some (.int y17)), h19))))))))) else cU (call 162 [.int 0] h4) (fun h6 => gV h6 (.ref a0) 14 1 (fun w7 => gV h6 w7 3 2 (fun w8 => rC h6 w8 4 (cI (call 102 [w8, .int 1, .int x1] h6) (fun y10 h9 => gV h9 (.ref a0) 14 1 (fun w11 => rC h9 w11 3 (cU (call 175 [w11, .int x1] h9) (fun h12 => some (.inl (some (.int y10)), h12))))))))))))))))) := rfl
theorem dX11_seasons_0 : decode cX11_seasons 0 = .ok (.iload_n 1, 1) := by decide +kernel
theorem dX11_seasons_1 : decode cX11_seasons 1 = .ok (.iconst 0, 1) := by decide +kernel
theorem dX11_seasons_2 : decode cX11_seasons 2 = .ok (.bipush 40, 2) := by decide +kernel
theorem dX11_seasons_4 : decode cX11_seasons 4 = .ok (.invokestatic 43, 3) := by decide +kernel
theorem dX11_seasons_7 : decode cX11_seasons 7 = .ok (.iconst 0, 1) := by decide +kernel
theorem dX11_seasons_8 : decode cX11_seasons 8 = .ok (.istore_n 2, 1) := by decide +kernel
theorem dX11_seasons_9 : decode cX11_seasons 9 = .ok (.iload_n 2, 1) := by decide +kernel
theorem dX11_seasons_10 : decode cX11_seasons 10 = .ok (.iload_n 1, 1) := by decide +kernel
theorem dX11_seasons_11 : decode cX11_seasons 11 = .ok (.if_icmp .ge 29, 3) := by decide +kernel
theorem dX11_seasons_14 : decode cX11_seasons 14 = .ok (.aload_n 0, 1) := by decide +kernel
theorem dX11_seasons_15 : decode cX11_seasons 15 = .ok (.getfield 19, 3) := by decide +kernel
theorem dX11_seasons_18 : decode cX11_seasons 18 = .ok (.getfield 74, 3) := by decide +kernel
theorem dX11_seasons_21 : decode cX11_seasons 21 = .ok (.sipush 400, 3) := by decide +kernel
theorem dX11_seasons_24 : decode cX11_seasons 24 = .ok (.if_icmp .ge 16, 3) := by decide +kernel
theorem dX11_seasons_27 : decode cX11_seasons 27 = .ok (.aload_n 0, 1) := by decide +kernel
theorem dX11_seasons_28 : decode cX11_seasons 28 = .ok (.getfield 28, 3) := by decide +kernel
theorem dX11_seasons_31 : decode cX11_seasons 31 = .ok (.invokevirtual 153, 3) := by decide +kernel
theorem dX11_seasons_34 : decode cX11_seasons 34 = .ok (.iinc 2 1, 3) := by decide +kernel
theorem dX11_seasons_37 : decode cX11_seasons 37 = .ok (.goto (-28), 3) := by decide +kernel
theorem dX11_seasons_40 : decode cX11_seasons 40 = .ok (.aload_n 0, 1) := by decide +kernel
theorem dX11_seasons_41 : decode cX11_seasons 41 = .ok (.getfield 19, 3) := by decide +kernel
theorem dX11_seasons_44 : decode cX11_seasons 44 = .ok (.getfield 74, 3) := by decide +kernel
theorem dX11_seasons_47 : decode cX11_seasons 47 = .ok (.ireturn, 1) := by decide +kernel
noncomputable def E_X11_seasons : mE := (mX11_seasons, [(47, [(0, (.iload_n 1, 1, false, false, 1, 0, 0, 0, 0, 0, [])), (1, (.iconst 0, 2, false, false, 0, 0, 0, 0, 0, 0, [])), (2, (.bipush 40, 4, false, false, 0, 0, 0, 0, 40, 0, [])), (4, (.invokestatic 43, 7, false, false, 21, 3, 0, 0, 0, 0, [])), (7, (.iconst 0, 8, false, false, 0, 0, 0, 0, 0, 0, [])), (8, (.istore_n 2, 9, true, false, 2, 0, 0, 0, 0, 0, [])), (9, (.iload_n 2, 10, false, false, 2, 0, 0, 0, 0, 0, [])), (10, (.iload_n 1, 11, false, false, 1, 0, 0, 0, 0, 0, [])), (11, (.if_icmp .ge 29, 14, false, false, 40, 0, 0, 0, 0, 0, [])), (14, (.aload_n 0, 15, false, false, 0, 0, 0, 0, 0, 0, [])), (15, (.getfield 19, 18, false, false, 14, 1, 1, 0, 0, 0, [])), (18, (.getfield 74, 21, false, false, 3, 7, 0, 0, 0, 0, [])), (21, (.sipush 400, 24, false, false, 0, 0, 0, 0, 400, 0, [])), (24, (.if_icmp .ge 16, 27, false, false, 40, 0, 0, 0, 0, 0, [])), (27, (.aload_n 0, 28, false, false, 0, 0, 0, 0, 0, 0, [])), (28, (.getfield 28, 31, false, false, 14, 2, 1, 0, 0, 0, [])), (31, (.invokevirtual 153, 34, false, false, 228, 0, 0, 13, 0, 0, [])), (34, (.iinc 2 1, 37, false, false, 2, 0, 0, 0, 1, 0, [])), (37, (.goto (-28), 40, false, true, 9, 0, 0, 0, 0, 0, [])), (40, (.aload_n 0, 41, false, false, 0, 0, 0, 0, 0, 0, [])), (41, (.getfield 19, 44, false, false, 14, 1, 1, 0, 0, 0, [])), (44, (.getfield 74, 47, false, false, 3, 7, 0, 0, 0, 0, [])), (47, (.ireturn, 48, false, false, 0, 0, 0, 0, 0, 0, []))])], 0, [])
set_option maxRecDepth 100000 in
theorem v_X11_seasons : VE MYT dflT E_X11_seasons := ⟨⟨⟨⟨⟨dX11_seasons_0, rfl⟩, rfl⟩, ⟨⟨dX11_seasons_1, rfl⟩, rfl⟩, ⟨⟨dX11_seasons_2, rfl⟩, rfl⟩, ⟨⟨dX11_seasons_4, rfl⟩, Or.inl ⟨rfl, _, my_21, sX11_43⟩⟩, ⟨⟨dX11_seasons_7, rfl⟩, rfl⟩, ⟨⟨dX11_seasons_8, rfl⟩, rfl⟩, ⟨⟨dX11_seasons_9, rfl⟩, rfl⟩, ⟨⟨dX11_seasons_10, rfl⟩, rfl⟩, ⟨⟨dX11_seasons_11, rfl⟩, rfl⟩, ⟨⟨dX11_seasons_14, rfl⟩, rfl⟩, ⟨⟨dX11_seasons_15, rfl⟩, Or.inl ⟨by decide, _, _, fX11_19⟩⟩, ⟨⟨dX11_seasons_18, rfl⟩, Or.inl ⟨by decide, _, _, fX11_74⟩⟩, ⟨⟨dX11_seasons_21, rfl⟩, rfl⟩, ⟨⟨dX11_seasons_24, rfl⟩, rfl⟩, ⟨⟨dX11_seasons_27, rfl⟩, rfl⟩, ⟨⟨dX11_seasons_28, rfl⟩, Or.inl ⟨by decide, _, _, fX11_28⟩⟩, ⟨⟨dX11_seasons_31, rfl⟩, Or.inr ⟨by decide, ⟨_, my_228, sX11_153⟩, fun q => absurd q (by decide)⟩⟩, ⟨⟨dX11_seasons_34, rfl⟩, ⟨rfl, rfl⟩⟩, ⟨⟨dX11_seasons_37, rfl⟩, rfl⟩, ⟨⟨dX11_seasons_40, rfl⟩, rfl⟩, ⟨⟨dX11_seasons_41, rfl⟩, Or.inl ⟨by decide, _, _, fX11_19⟩⟩, ⟨⟨dX11_seasons_44, rfl⟩, Or.inl ⟨by decide, _, _, fX11_74⟩⟩, ⟨⟨dX11_seasons_47, rfl⟩, Or.inl ⟨rfl, rfl⟩⟩, trivial⟩, trivial⟩, by decide, Or.inl ⟨rfl, by decide, rfl⟩⟩
set_option maxRecDepth 100000 in
theorem g_X11_seasons_0 (S : sT) (call : cT) (n : Nat) (a0 : Nat) (x1 : Int32) (h : pH) : bd S call dflT E_X11_seasons (n + 1) 0 [some (.ref a0), some (.int x1), none] [] h = (cU (call 21 [.int x1, .int 0, .int 40] h) (fun h1 => bd S call dflT E_X11_seasons n 9 [some (.ref a0), some (.int x1), some (.int 0)] [] h1)) := rfl
set_option maxRecDepth 100000 in
theorem g_X11_seasons_9 (S : sT) (call : cT) (n : Nat) (a0 : Nat) (x1 : Int32) (x2 : Int32) (h : pH) : bd S call dflT E_X11_seasons (n + 1) 9 [some (.ref a0), some (.int x1), some (.int x2)] [] h = ((if x1 ≤ x2 then gV h (.ref a0) 14 1 (fun w1 => gI h w1 3 7 (fun y2 => some (.inl (some (.int y2)), h))) else gV h (.ref a0) 14 1 (fun w3 => gI h w3 3 7 (fun y4 => (if 400 ≤ y4 then gV h (.ref a0) 14 1 (fun w5 => gI h w5 3 7 (fun y6 => some (.inl (some (.int y6)), h))) else gV h (.ref a0) 14 2 (fun w7 => rC h w7 13 (cU (call 228 [w7] h) (fun h8 => bd S call dflT E_X11_seasons n 9 [some (.ref a0), some (.int x1), some (.int (x2 + 1))] [] h8)))))))) := rfl
theorem dX11_needKnown_0 : decode cX11_needKnown 0 = .ok (.iload_n 0, 1) := by decide +kernel
theorem dX11_needKnown_1 : decode cX11_needKnown 1 = .ok (.ifCond .ne 14, 3) := by decide +kernel
theorem dX11_needKnown_4 : decode cX11_needKnown 4 = .ok (.new 335, 3) := by decide +kernel
theorem dX11_needKnown_7 : decode cX11_needKnown 7 = .ok (.dup, 1) := by decide +kernel
theorem dX11_needKnown_8 : decode cX11_needKnown 8 = .ok (.ldc_w 318, 3) := by decide +kernel
theorem dX11_needKnown_11 : decode cX11_needKnown 11 = .ok (.invokespecial 337, 3) := by decide +kernel
theorem dX11_needKnown_14 : decode cX11_needKnown 14 = .ok (.athrow, 1) := by decide +kernel
theorem dX11_needKnown_15 : decode cX11_needKnown 15 = .ok (.return_, 1) := by decide +kernel
theorem thX11_needKnown_4 : GT mX11_needKnown 4 (xnm 3) := fun G d mc ms loc st h h8 => go_throwX (ik := 335) (is := 318) (ic := 337) (ix := 13) (i := 0) (rx := prog_29_method_4_code) (by decide) ⟨by decide, ⟨_, rfl, rfl, rfl⟩, tw_in tk_6 (i := 65) rfl rfl, tw_in tk_1 (i := 27) rfl rfl, by decide +kernel, by decide +kernel, by decide +kernel, by decide +kernel, by decide +kernel, by decide +kernel⟩ rfl h8 dX11_needKnown_4 dX11_needKnown_7 dX11_needKnown_8 dX11_needKnown_11 dX11_needKnown_14
noncomputable def E_X11_needKnown : mE := (mX11_needKnown, [(15, [(0, (.iload_n 0, 1, false, false, 0, 0, 0, 0, 0, 0, [])), (1, (.ifCond .ne 14, 4, false, false, 15, 0, 0, 0, 0, 0, [])), (4, (.new 335, 7, false, false, 3, 0, 1, 0, 0, 0, [])), (15, (.return_, 16, false, false, 0, 0, 0, 0, 0, 0, []))])], 0, [])
set_option maxRecDepth 100000 in
theorem v_X11_needKnown : VE MYT dflT E_X11_needKnown := ⟨⟨⟨⟨⟨dX11_needKnown_0, rfl⟩, rfl⟩, ⟨⟨dX11_needKnown_1, rfl⟩, rfl⟩, ⟨⟨dX11_needKnown_4, rfl⟩, Or.inr ⟨rfl, rfl, thX11_needKnown_4⟩⟩, ⟨⟨dX11_needKnown_15, rfl⟩, rfl⟩, trivial⟩, trivial⟩, by decide, Or.inl ⟨rfl, by decide, rfl⟩⟩
set_option maxRecDepth 100000 in
theorem g_X11_needKnown_0 (S : sT) (call : cT) (n : Nat) (x0 : Int32) (h : pH) : bd S call dflT E_X11_needKnown (n + 1) 0 [some (.int x0)] [] h = ((if x0 = 0 then some (.inr (xnm 3), h) else some (.inl none, h))) := rfl
theorem dX11_look_0 : decode cX11_look 0 = .ok (.iload_n 1, 1) := by decide +kernel
theorem dX11_look_1 : decode cX11_look 1 = .ok (.invokestatic 40, 3) := by decide +kernel
theorem dX11_look_4 : decode cX11_look 4 = .ok (.iload_n 2, 1) := by decide +kernel
theorem dX11_look_5 : decode cX11_look 5 = .ok (.ifCond .lt 13, 3) := by decide +kernel
theorem dX11_look_8 : decode cX11_look 8 = .ok (.iload_n 2, 1) := by decide +kernel
theorem dX11_look_9 : decode cX11_look 9 = .ok (.bipush 12, 2) := by decide +kernel
theorem dX11_look_11 : decode cX11_look 11 = .ok (.if_icmp .gt 7, 3) := by decide +kernel
theorem dX11_look_14 : decode cX11_look 14 = .ok (.iconst 1, 1) := by decide +kernel
theorem dX11_look_15 : decode cX11_look 15 = .ok (.goto 4, 3) := by decide +kernel
theorem dX11_look_18 : decode cX11_look 18 = .ok (.iconst 0, 1) := by decide +kernel
theorem dX11_look_19 : decode cX11_look 19 = .ok (.invokestatic 156, 3) := by decide +kernel
theorem dX11_look_22 : decode cX11_look 22 = .ok (.iload_n 2, 1) := by decide +kernel
theorem dX11_look_23 : decode cX11_look 23 = .ok (.bipush 12, 2) := by decide +kernel
theorem dX11_look_25 : decode cX11_look 25 = .ok (.if_icmp .ne 17, 3) := by decide +kernel
theorem dX11_look_28 : decode cX11_look 28 = .ok (.aload_n 0, 1) := by decide +kernel
theorem dX11_look_29 : decode cX11_look 29 = .ok (.getfield 19, 3) := by decide +kernel
theorem dX11_look_32 : decode cX11_look 32 = .ok (.getfield 47, 3) := by decide +kernel
theorem dX11_look_35 : decode cX11_look 35 = .ok (.iload_n 1, 1) := by decide +kernel
theorem dX11_look_36 : decode cX11_look 36 = .ok (.invokevirtual 159, 3) := by decide +kernel
theorem dX11_look_39 : decode cX11_look 39 = .ok (.goto 15, 3) := by decide +kernel
theorem dX11_look_42 : decode cX11_look 42 = .ok (.aload_n 0, 1) := by decide +kernel
theorem dX11_look_43 : decode cX11_look 43 = .ok (.getfield 19, 3) := by decide +kernel
theorem dX11_look_46 : decode cX11_look 46 = .ok (.getfield 47, 3) := by decide +kernel
theorem dX11_look_49 : decode cX11_look 49 = .ok (.iload_n 2, 1) := by decide +kernel
theorem dX11_look_50 : decode cX11_look 50 = .ok (.iload_n 1, 1) := by decide +kernel
theorem dX11_look_51 : decode cX11_look 51 = .ok (.invokevirtual 138, 3) := by decide +kernel
theorem dX11_look_54 : decode cX11_look 54 = .ok (.ireturn, 1) := by decide +kernel
noncomputable def E_X11_look : mE := (mX11_look, [(49, [(0, (.iload_n 1, 1, false, false, 1, 0, 0, 0, 0, 0, [])), (1, (.invokestatic 40, 4, false, false, 20, 1, 0, 0, 0, 0, [])), (4, (.iload_n 2, 5, false, false, 2, 0, 0, 0, 0, 0, [])), (5, (.ifCond .lt 13, 8, false, false, 18, 0, 0, 0, 0, 0, [])), (8, (.iload_n 2, 9, false, false, 2, 0, 0, 0, 0, 0, [])), (9, (.bipush 12, 11, false, false, 0, 0, 0, 0, 12, 0, [])), (11, (.if_icmp .gt 7, 14, false, false, 18, 0, 0, 0, 0, 0, [])), (14, (.iconst 1, 15, false, false, 0, 0, 0, 0, 1, 0, [])), (15, (.goto 4, 18, false, true, 19, 0, 0, 0, 0, 0, [])), (18, (.iconst 0, 19, true, false, 0, 0, 0, 0, 0, 0, [])), (19, (.invokestatic 156, 22, false, false, 257, 1, 0, 0, 0, 0, [])), (22, (.iload_n 2, 23, false, false, 2, 0, 0, 0, 0, 0, [])), (23, (.bipush 12, 25, false, false, 0, 0, 0, 0, 12, 0, [])), (25, (.if_icmp .ne 17, 28, false, false, 42, 0, 0, 0, 0, 0, [])), (28, (.aload_n 0, 29, false, false, 0, 0, 0, 0, 0, 0, [])), (29, (.getfield 19, 32, false, false, 14, 1, 1, 0, 0, 0, [])), (32, (.getfield 47, 35, false, false, 3, 1, 1, 0, 0, 0, [])), (35, (.iload_n 1, 36, false, false, 1, 0, 0, 0, 0, 0, [])), (36, (.invokevirtual 159, 39, false, false, 259, 1, 1, 5, 0, 0, [])), (39, (.goto 15, 42, false, false, 54, 0, 0, 0, 0, 0, [])), (42, (.aload_n 0, 43, false, false, 0, 0, 0, 0, 0, 0, [])), (43, (.getfield 19, 46, false, false, 14, 1, 1, 0, 0, 0, [])), (46, (.getfield 47, 49, false, false, 3, 1, 1, 0, 0, 0, [])), (49, (.iload_n 2, 50, false, false, 2, 0, 0, 0, 0, 0, []))]),
  (54, [(50, (.iload_n 1, 51, false, false, 1, 0, 0, 0, 0, 0, [])), (51, (.invokevirtual 138, 54, false, false, 23, 2, 1, 5, 0, 0, [])), (54, (.ireturn, 55, false, false, 0, 0, 0, 0, 0, 0, []))])], 0, [])
set_option maxRecDepth 100000 in
theorem v_X11_look : VE MYT dflT E_X11_look := ⟨⟨⟨⟨⟨dX11_look_0, rfl⟩, rfl⟩, ⟨⟨dX11_look_1, rfl⟩, Or.inl ⟨rfl, _, my_20, sX11_40⟩⟩, ⟨⟨dX11_look_4, rfl⟩, rfl⟩, ⟨⟨dX11_look_5, rfl⟩, rfl⟩, ⟨⟨dX11_look_8, rfl⟩, rfl⟩, ⟨⟨dX11_look_9, rfl⟩, rfl⟩, ⟨⟨dX11_look_11, rfl⟩, rfl⟩, ⟨⟨dX11_look_14, rfl⟩, rfl⟩, ⟨⟨dX11_look_15, rfl⟩, rfl⟩, ⟨⟨dX11_look_18, rfl⟩, rfl⟩, ⟨⟨dX11_look_19, rfl⟩, Or.inl ⟨rfl, _, my_257, sX11_156⟩⟩, ⟨⟨dX11_look_22, rfl⟩, rfl⟩, ⟨⟨dX11_look_23, rfl⟩, rfl⟩, ⟨⟨dX11_look_25, rfl⟩, rfl⟩, ⟨⟨dX11_look_28, rfl⟩, rfl⟩, ⟨⟨dX11_look_29, rfl⟩, Or.inl ⟨by decide, _, _, fX11_19⟩⟩, ⟨⟨dX11_look_32, rfl⟩, Or.inl ⟨by decide, _, _, fX11_47⟩⟩, ⟨⟨dX11_look_35, rfl⟩, rfl⟩, ⟨⟨dX11_look_36, rfl⟩, Or.inr ⟨by decide, ⟨_, my_259, sX11_159⟩, fun q => absurd q (by decide)⟩⟩, ⟨⟨dX11_look_39, rfl⟩, rfl⟩, ⟨⟨dX11_look_42, rfl⟩, rfl⟩, ⟨⟨dX11_look_43, rfl⟩, Or.inl ⟨by decide, _, _, fX11_19⟩⟩, ⟨⟨dX11_look_46, rfl⟩, Or.inl ⟨by decide, _, _, fX11_47⟩⟩, ⟨⟨dX11_look_49, rfl⟩, rfl⟩, trivial⟩,
  ⟨⟨⟨dX11_look_50, rfl⟩, rfl⟩, ⟨⟨dX11_look_51, rfl⟩, Or.inr ⟨by decide, ⟨_, my_23, sX11_138⟩, fun q => absurd q (by decide)⟩⟩, ⟨⟨dX11_look_54, rfl⟩, Or.inl ⟨rfl, rfl⟩⟩, trivial⟩, trivial⟩, by decide, Or.inl ⟨rfl, by decide, rfl⟩⟩
set_option maxRecDepth 100000 in
theorem g_X11_look_0 (S : sT) (call : cT) (n : Nat) (a0 : Nat) (x1 : Int32) (x2 : Int32) (h : pH) : bd S call dflT E_X11_look (n + 1) 0 [some (.ref a0), some (.int x1), some (.int x2)] [] h = (cU (call 20 [.int x1] h) (fun h1 => (if x2 < 0 then bd S call dflT E_X11_look n 19 [some (.ref a0), some (.int x1), some (.int x2)] [.int 0] h1 else (if 12 < x2 then bd S call dflT E_X11_look n 19 [some (.ref a0), some (.int x1), some (.int x2)] [.int 0] h1 else bd S call dflT E_X11_look n 19 [some (.ref a0), some (.int x1), some (.int x2)] [.int 1] h1)))) := rfl
set_option maxRecDepth 100000 in
theorem g_X11_look_19 (S : sT) (call : cT) (n : Nat) (a0 : Nat) (x1 : Int32) (x2 : Int32) (y0 : Int32) (h : pH) : bd S call dflT E_X11_look (n + 1) 19 [some (.ref a0), some (.int x1), some (.int x2)] [.int y0] h = (cU (call 257 [.int y0] h) (fun h1 => (if x2 = 12 then gV h1 (.ref a0) 14 1 (fun w6 => gV h1 w6 3 1 (fun w7 => rC h1 w7 5 (cI (call 259 [w7, .int x1] h1) (fun y9 h8 => some (.inl (some (.int y9)), h8))))) else gV h1 (.ref a0) 14 1 (fun w2 => gV h1 w2 3 1 (fun w3 => rC h1 w3 5 (cI (call 23 [w3, .int x2, .int x1] h1) (fun y5 h4 => some (.inl (some (.int y5)), h4)))))))) := rfl
theorem dX11_led_0 : decode cX11_led 0 = .ok (.aload_n 0, 1) := by decide +kernel
theorem dX11_led_1 : decode cX11_led 1 = .ok (.iload_n 1, 1) := by decide +kernel
theorem dX11_led_2 : decode cX11_led 2 = .ok (.invokevirtual 142, 3) := by decide +kernel
theorem dX11_led_5 : decode cX11_led 5 = .ok (.iload_n 2, 1) := by decide +kernel
theorem dX11_led_6 : decode cX11_led 6 = .ok (.ifCond .lt 13, 3) := by decide +kernel
theorem dX11_led_9 : decode cX11_led 9 = .ok (.iload_n 2, 1) := by decide +kernel
theorem dX11_led_10 : decode cX11_led 10 = .ok (.bipush 10, 2) := by decide +kernel
theorem dX11_led_12 : decode cX11_led 12 = .ok (.if_icmp .gt 7, 3) := by decide +kernel
theorem dX11_led_15 : decode cX11_led 15 = .ok (.iconst 1, 1) := by decide +kernel
theorem dX11_led_16 : decode cX11_led 16 = .ok (.goto 4, 3) := by decide +kernel
theorem dX11_led_19 : decode cX11_led 19 = .ok (.iconst 0, 1) := by decide +kernel
theorem dX11_led_20 : decode cX11_led 20 = .ok (.invokestatic 156, 3) := by decide +kernel
theorem dX11_led_23 : decode cX11_led 23 = .ok (.aload_n 0, 1) := by decide +kernel
theorem dX11_led_24 : decode cX11_led 24 = .ok (.getfield 19, 3) := by decide +kernel
theorem dX11_led_27 : decode cX11_led 27 = .ok (.getfield 111, 3) := by decide +kernel
theorem dX11_led_30 : decode cX11_led 30 = .ok (.iload_n 2, 1) := by decide +kernel
theorem dX11_led_31 : decode cX11_led 31 = .ok (.iload_n 1, 1) := by decide +kernel
theorem dX11_led_32 : decode cX11_led 32 = .ok (.invokevirtual 145, 3) := by decide +kernel
theorem dX11_led_35 : decode cX11_led 35 = .ok (.ireturn, 1) := by decide +kernel
noncomputable def E_X11_led : mE := (mX11_led, [(35, [(0, (.aload_n 0, 1, false, false, 0, 0, 0, 0, 0, 0, [])), (1, (.iload_n 1, 2, false, false, 1, 0, 0, 0, 0, 0, [])), (2, (.invokevirtual 142, 5, false, false, 168, 1, 0, 14, 0, 0, [])), (5, (.iload_n 2, 6, false, false, 2, 0, 0, 0, 0, 0, [])), (6, (.ifCond .lt 13, 9, false, false, 19, 0, 0, 0, 0, 0, [])), (9, (.iload_n 2, 10, false, false, 2, 0, 0, 0, 0, 0, [])), (10, (.bipush 10, 12, false, false, 0, 0, 0, 0, 10, 0, [])), (12, (.if_icmp .gt 7, 15, false, false, 19, 0, 0, 0, 0, 0, [])), (15, (.iconst 1, 16, false, false, 0, 0, 0, 0, 1, 0, [])), (16, (.goto 4, 19, false, false, 20, 0, 0, 0, 0, 0, [])), (19, (.iconst 0, 20, false, false, 0, 0, 0, 0, 0, 0, [])), (20, (.invokestatic 156, 23, false, false, 257, 1, 0, 0, 0, 0, [])), (23, (.aload_n 0, 24, false, false, 0, 0, 0, 0, 0, 0, [])), (24, (.getfield 19, 27, false, false, 14, 1, 1, 0, 0, 0, [])), (27, (.getfield 111, 30, false, false, 3, 2, 1, 0, 0, 0, [])), (30, (.iload_n 2, 31, false, false, 2, 0, 0, 0, 0, 0, [])), (31, (.iload_n 1, 32, false, false, 1, 0, 0, 0, 0, 0, [])), (32, (.invokevirtual 145, 35, false, false, 102, 2, 1, 4, 0, 0, [])), (35, (.ireturn, 36, false, false, 0, 0, 0, 0, 0, 0, []))])], 0, [])
set_option maxRecDepth 100000 in
theorem v_X11_led : VE MYT dflT E_X11_led := ⟨⟨⟨⟨⟨dX11_led_0, rfl⟩, rfl⟩, ⟨⟨dX11_led_1, rfl⟩, rfl⟩, ⟨⟨dX11_led_2, rfl⟩, Or.inr ⟨by decide, ⟨_, my_168, sX11_142⟩, fun q => absurd q (by decide)⟩⟩, ⟨⟨dX11_led_5, rfl⟩, rfl⟩, ⟨⟨dX11_led_6, rfl⟩, rfl⟩, ⟨⟨dX11_led_9, rfl⟩, rfl⟩, ⟨⟨dX11_led_10, rfl⟩, rfl⟩, ⟨⟨dX11_led_12, rfl⟩, rfl⟩, ⟨⟨dX11_led_15, rfl⟩, rfl⟩, ⟨⟨dX11_led_16, rfl⟩, rfl⟩, ⟨⟨dX11_led_19, rfl⟩, rfl⟩, ⟨⟨dX11_led_20, rfl⟩, Or.inl ⟨rfl, _, my_257, sX11_156⟩⟩, ⟨⟨dX11_led_23, rfl⟩, rfl⟩, ⟨⟨dX11_led_24, rfl⟩, Or.inl ⟨by decide, _, _, fX11_19⟩⟩, ⟨⟨dX11_led_27, rfl⟩, Or.inl ⟨by decide, _, _, fX11_111⟩⟩, ⟨⟨dX11_led_30, rfl⟩, rfl⟩, ⟨⟨dX11_led_31, rfl⟩, rfl⟩, ⟨⟨dX11_led_32, rfl⟩, Or.inr ⟨by decide, ⟨_, my_102, sX11_145⟩, fun q => absurd q (by decide)⟩⟩, ⟨⟨dX11_led_35, rfl⟩, Or.inl ⟨rfl, rfl⟩⟩, trivial⟩, trivial⟩, by decide, Or.inl ⟨rfl, by decide, rfl⟩⟩
set_option maxRecDepth 100000 in
theorem g_X11_led_0 (S : sT) (call : cT) (n : Nat) (a0 : Nat) (x1 : Int32) (x2 : Int32) (h : pH) : bd S call dflT E_X11_led (n + 1) 0 [some (.ref a0), some (.int x1), some (.int x2)] [] h = (rC h (.ref a0) 14 (cU (call 168 [.ref a0, .int x1] h) (fun h1 => (if x2 < 0 then cU (call 257 [.int 0] h1) (fun h2 => gV h2 (.ref a0) 14 1 (fun w3 => gV h2 w3 3 2 (fun w4 => rC h2 w4 4 (cI (call 102 [w4, .int x2, .int x1] h2) (fun y6 h5 => some (.inl (some (.int y6)), h5)))))) else (if 10 < x2 then cU (call 257 [.int 0] h1) (fun h7 => gV h7 (.ref a0) 14 1 (fun w8 => gV h7 w8 3 2 (fun w9 => rC h7 w9 4 (cI (call 102 [w9, .int x2, .int x1] h7) (fun y11 h10 => some (.inl (some (.int y11)), h10)))))) else cU (call 257 [.int 1] h1) (fun h12 => gV h12 (.ref a0) 14 1 (fun w13 => gV h12 w13 3 2 (fun w14 => rC h12 w14 4 (cI (call 102 [w14, .int x2, .int x1] h12) (fun y16 h15 => some (.inl (some (.int y16)), h15))))))))))) := rfl
theorem dX11_owed_0 : decode cX11_owed 0 = .ok (.aload_n 0, 1) := by decide +kernel
theorem dX11_owed_1 : decode cX11_owed 1 = .ok (.iload_n 1, 1) := by decide +kernel
theorem dX11_owed_2 : decode cX11_owed 2 = .ok (.invokevirtual 142, 3) := by decide +kernel
theorem dX11_owed_5 : decode cX11_owed 5 = .ok (.aload_n 0, 1) := by decide +kernel
theorem dX11_owed_6 : decode cX11_owed 6 = .ok (.getfield 19, 3) := by decide +kernel
theorem dX11_owed_9 : decode cX11_owed 9 = .ok (.getfield 111, 3) := by decide +kernel
theorem dX11_owed_12 : decode cX11_owed 12 = .ok (.iload_n 1, 1) := by decide +kernel
theorem dX11_owed_13 : decode cX11_owed 13 = .ok (.invokevirtual 147, 3) := by decide +kernel
theorem dX11_owed_16 : decode cX11_owed 16 = .ok (.invokestatic 135, 3) := by decide +kernel
theorem dX11_owed_19 : decode cX11_owed 19 = .ok (.aload_n 0, 1) := by decide +kernel
theorem dX11_owed_20 : decode cX11_owed 20 = .ok (.getfield 19, 3) := by decide +kernel
theorem dX11_owed_23 : decode cX11_owed 23 = .ok (.iload_n 1, 1) := by decide +kernel
theorem dX11_owed_24 : decode cX11_owed 24 = .ok (.invokevirtual 162, 3) := by decide +kernel
theorem dX11_owed_27 : decode cX11_owed 27 = .ok (.ireturn, 1) := by decide +kernel
noncomputable def E_X11_owed : mE := (mX11_owed, [(27, [(0, (.aload_n 0, 1, false, false, 0, 0, 0, 0, 0, 0, [])), (1, (.iload_n 1, 2, false, false, 1, 0, 0, 0, 0, 0, [])), (2, (.invokevirtual 142, 5, false, false, 168, 1, 0, 14, 0, 0, [])), (5, (.aload_n 0, 6, false, false, 0, 0, 0, 0, 0, 0, [])), (6, (.getfield 19, 9, false, false, 14, 1, 1, 0, 0, 0, [])), (9, (.getfield 111, 12, false, false, 3, 2, 1, 0, 0, 0, [])), (12, (.iload_n 1, 13, false, false, 1, 0, 0, 0, 0, 0, [])), (13, (.invokevirtual 147, 16, false, false, 174, 1, 1, 4, 0, 0, [])), (16, (.invokestatic 135, 19, false, false, 162, 1, 0, 0, 0, 0, [])), (19, (.aload_n 0, 20, false, false, 0, 0, 0, 0, 0, 0, [])), (20, (.getfield 19, 23, false, false, 14, 1, 1, 0, 0, 0, [])), (23, (.iload_n 1, 24, false, false, 1, 0, 0, 0, 0, 0, [])), (24, (.invokevirtual 162, 27, false, false, 225, 1, 1, 3, 0, 0, [])), (27, (.ireturn, 28, false, false, 0, 0, 0, 0, 0, 0, []))])], 0, [])
set_option maxRecDepth 100000 in
theorem v_X11_owed : VE MYT dflT E_X11_owed := ⟨⟨⟨⟨⟨dX11_owed_0, rfl⟩, rfl⟩, ⟨⟨dX11_owed_1, rfl⟩, rfl⟩, ⟨⟨dX11_owed_2, rfl⟩, Or.inr ⟨by decide, ⟨_, my_168, sX11_142⟩, fun q => absurd q (by decide)⟩⟩, ⟨⟨dX11_owed_5, rfl⟩, rfl⟩, ⟨⟨dX11_owed_6, rfl⟩, Or.inl ⟨by decide, _, _, fX11_19⟩⟩, ⟨⟨dX11_owed_9, rfl⟩, Or.inl ⟨by decide, _, _, fX11_111⟩⟩, ⟨⟨dX11_owed_12, rfl⟩, rfl⟩, ⟨⟨dX11_owed_13, rfl⟩, Or.inr ⟨by decide, ⟨_, my_174, sX11_147⟩, fun q => absurd q (by decide)⟩⟩, ⟨⟨dX11_owed_16, rfl⟩, Or.inl ⟨rfl, _, my_162, sX11_135⟩⟩, ⟨⟨dX11_owed_19, rfl⟩, rfl⟩, ⟨⟨dX11_owed_20, rfl⟩, Or.inl ⟨by decide, _, _, fX11_19⟩⟩, ⟨⟨dX11_owed_23, rfl⟩, rfl⟩, ⟨⟨dX11_owed_24, rfl⟩, Or.inr ⟨by decide, ⟨_, my_225, sX11_162⟩, fun q => absurd q (by decide)⟩⟩, ⟨⟨dX11_owed_27, rfl⟩, Or.inl ⟨rfl, rfl⟩⟩, trivial⟩, trivial⟩, by decide, Or.inl ⟨rfl, by decide, rfl⟩⟩
set_option maxRecDepth 100000 in
theorem g_X11_owed_0 (S : sT) (call : cT) (n : Nat) (a0 : Nat) (x1 : Int32) (h : pH) : bd S call dflT E_X11_owed (n + 1) 0 [some (.ref a0), some (.int x1)] [] h = (rC h (.ref a0) 14 (cU (call 168 [.ref a0, .int x1] h) (fun h1 => gV h1 (.ref a0) 14 1 (fun w2 => gV h1 w2 3 2 (fun w3 => rC h1 w3 4 (cI (call 174 [w3, .int x1] h1) (fun y5 h4 => cU (call 162 [.int y5] h4) (fun h6 => gV h6 (.ref a0) 14 1 (fun w7 => rC h6 w7 3 (cI (call 225 [w7, .int x1] h6) (fun y9 h8 => some (.inl (some (.int y9)), h8)))))))))))) := rfl
theorem dX11_rent_0 : decode cX11_rent 0 = .ok (.aload_n 0, 1) := by decide +kernel
theorem dX11_rent_1 : decode cX11_rent 1 = .ok (.iload_n 1, 1) := by decide +kernel
theorem dX11_rent_2 : decode cX11_rent 2 = .ok (.invokevirtual 142, 3) := by decide +kernel
theorem dX11_rent_5 : decode cX11_rent 5 = .ok (.aload_n 0, 1) := by decide +kernel
theorem dX11_rent_6 : decode cX11_rent 6 = .ok (.getfield 19, 3) := by decide +kernel
theorem dX11_rent_9 : decode cX11_rent 9 = .ok (.getfield 111, 3) := by decide +kernel
theorem dX11_rent_12 : decode cX11_rent 12 = .ok (.iload_n 1, 1) := by decide +kernel
theorem dX11_rent_13 : decode cX11_rent 13 = .ok (.invokevirtual 147, 3) := by decide +kernel
theorem dX11_rent_16 : decode cX11_rent 16 = .ok (.invokestatic 135, 3) := by decide +kernel
theorem dX11_rent_19 : decode cX11_rent 19 = .ok (.aload_n 0, 1) := by decide +kernel
theorem dX11_rent_20 : decode cX11_rent 20 = .ok (.getfield 19, 3) := by decide +kernel
theorem dX11_rent_23 : decode cX11_rent 23 = .ok (.iload_n 1, 1) := by decide +kernel
theorem dX11_rent_24 : decode cX11_rent 24 = .ok (.invokevirtual 165, 3) := by decide +kernel
theorem dX11_rent_27 : decode cX11_rent 27 = .ok (.ireturn, 1) := by decide +kernel
noncomputable def E_X11_rent : mE := (mX11_rent, [(27, [(0, (.aload_n 0, 1, false, false, 0, 0, 0, 0, 0, 0, [])), (1, (.iload_n 1, 2, false, false, 1, 0, 0, 0, 0, 0, [])), (2, (.invokevirtual 142, 5, false, false, 168, 1, 0, 14, 0, 0, [])), (5, (.aload_n 0, 6, false, false, 0, 0, 0, 0, 0, 0, [])), (6, (.getfield 19, 9, false, false, 14, 1, 1, 0, 0, 0, [])), (9, (.getfield 111, 12, false, false, 3, 2, 1, 0, 0, 0, [])), (12, (.iload_n 1, 13, false, false, 1, 0, 0, 0, 0, 0, [])), (13, (.invokevirtual 147, 16, false, false, 174, 1, 1, 4, 0, 0, [])), (16, (.invokestatic 135, 19, false, false, 162, 1, 0, 0, 0, 0, [])), (19, (.aload_n 0, 20, false, false, 0, 0, 0, 0, 0, 0, [])), (20, (.getfield 19, 23, false, false, 14, 1, 1, 0, 0, 0, [])), (23, (.iload_n 1, 24, false, false, 1, 0, 0, 0, 0, 0, [])), (24, (.invokevirtual 165, 27, false, false, 201, 1, 1, 3, 0, 0, [])), (27, (.ireturn, 28, false, false, 0, 0, 0, 0, 0, 0, []))])], 0, [])
set_option maxRecDepth 100000 in
theorem v_X11_rent : VE MYT dflT E_X11_rent := ⟨⟨⟨⟨⟨dX11_rent_0, rfl⟩, rfl⟩, ⟨⟨dX11_rent_1, rfl⟩, rfl⟩, ⟨⟨dX11_rent_2, rfl⟩, Or.inr ⟨by decide, ⟨_, my_168, sX11_142⟩, fun q => absurd q (by decide)⟩⟩, ⟨⟨dX11_rent_5, rfl⟩, rfl⟩, ⟨⟨dX11_rent_6, rfl⟩, Or.inl ⟨by decide, _, _, fX11_19⟩⟩, ⟨⟨dX11_rent_9, rfl⟩, Or.inl ⟨by decide, _, _, fX11_111⟩⟩, ⟨⟨dX11_rent_12, rfl⟩, rfl⟩, ⟨⟨dX11_rent_13, rfl⟩, Or.inr ⟨by decide, ⟨_, my_174, sX11_147⟩, fun q => absurd q (by decide)⟩⟩, ⟨⟨dX11_rent_16, rfl⟩, Or.inl ⟨rfl, _, my_162, sX11_135⟩⟩, ⟨⟨dX11_rent_19, rfl⟩, rfl⟩, ⟨⟨dX11_rent_20, rfl⟩, Or.inl ⟨by decide, _, _, fX11_19⟩⟩, ⟨⟨dX11_rent_23, rfl⟩, rfl⟩, ⟨⟨dX11_rent_24, rfl⟩, Or.inr ⟨by decide, ⟨_, my_201, sX11_165⟩, fun q => absurd q (by decide)⟩⟩, ⟨⟨dX11_rent_27, rfl⟩, Or.inl ⟨rfl, rfl⟩⟩, trivial⟩, trivial⟩, by decide, Or.inl ⟨rfl, by decide, rfl⟩⟩
set_option maxRecDepth 100000 in
theorem g_X11_rent_0 (S : sT) (call : cT) (n : Nat) (a0 : Nat) (x1 : Int32) (h : pH) : bd S call dflT E_X11_rent (n + 1) 0 [some (.ref a0), some (.int x1)] [] h = (rC h (.ref a0) 14 (cU (call 168 [.ref a0, .int x1] h) (fun h1 => gV h1 (.ref a0) 14 1 (fun w2 => gV h1 w2 3 2 (fun w3 => rC h1 w3 4 (cI (call 174 [w3, .int x1] h1) (fun y5 h4 => cU (call 162 [.int y5] h4) (fun h6 => gV h6 (.ref a0) 14 1 (fun w7 => rC h6 w7 3 (cI (call 201 [w7, .int x1] h6) (fun y9 h8 => some (.inl (some (.int y9)), h8)))))))))))) := rfl
theorem dX11_arrears_0 : decode cX11_arrears 0 = .ok (.aload_n 0, 1) := by decide +kernel
theorem dX11_arrears_1 : decode cX11_arrears 1 = .ok (.getfield 19, 3) := by decide +kernel
theorem dX11_arrears_4 : decode cX11_arrears 4 = .ok (.getfield 111, 3) := by decide +kernel
theorem dX11_arrears_7 : decode cX11_arrears 7 = .ok (.iload_n 1, 1) := by decide +kernel
theorem dX11_arrears_8 : decode cX11_arrears 8 = .ok (.invokevirtual 168, 3) := by decide +kernel
theorem dX11_arrears_11 : decode cX11_arrears 11 = .ok (.ireturn, 1) := by decide +kernel
noncomputable def E_X11_arrears : mE := (mX11_arrears, [(11, [(0, (.aload_n 0, 1, false, false, 0, 0, 0, 0, 0, 0, [])), (1, (.getfield 19, 4, false, false, 14, 1, 1, 0, 0, 0, [])), (4, (.getfield 111, 7, false, false, 3, 2, 1, 0, 0, 0, [])), (7, (.iload_n 1, 8, false, false, 1, 0, 0, 0, 0, 0, [])), (8, (.invokevirtual 168, 11, false, false, 274, 1, 1, 4, 0, 0, [])), (11, (.ireturn, 12, false, false, 0, 0, 0, 0, 0, 0, []))])], 0, [])
set_option maxRecDepth 100000 in
theorem v_X11_arrears : VE MYT dflT E_X11_arrears := ⟨⟨⟨⟨⟨dX11_arrears_0, rfl⟩, rfl⟩, ⟨⟨dX11_arrears_1, rfl⟩, Or.inl ⟨by decide, _, _, fX11_19⟩⟩, ⟨⟨dX11_arrears_4, rfl⟩, Or.inl ⟨by decide, _, _, fX11_111⟩⟩, ⟨⟨dX11_arrears_7, rfl⟩, rfl⟩, ⟨⟨dX11_arrears_8, rfl⟩, Or.inr ⟨by decide, ⟨_, my_274, sX11_168⟩, fun q => absurd q (by decide)⟩⟩, ⟨⟨dX11_arrears_11, rfl⟩, Or.inl ⟨rfl, rfl⟩⟩, trivial⟩, trivial⟩, by decide, Or.inl ⟨rfl, by decide, rfl⟩⟩
set_option maxRecDepth 100000 in
theorem g_X11_arrears_0 (S : sT) (call : cT) (n : Nat) (a0 : Nat) (x1 : Int32) (h : pH) : bd S call dflT E_X11_arrears (n + 1) 0 [some (.ref a0), some (.int x1)] [] h = (gV h (.ref a0) 14 1 (fun w1 => gV h w1 3 2 (fun w2 => rC h w2 4 (cI (call 274 [w2, .int x1] h) (fun y4 h3 => some (.inl (some (.int y4)), h3)))))) := rfl
theorem dX11_needRoom_0 : decode cX11_needRoom 0 = .ok (.iload_n 0, 1) := by decide +kernel
theorem dX11_needRoom_1 : decode cX11_needRoom 1 = .ok (.ifCond .ne 14, 3) := by decide +kernel
theorem dX11_needRoom_4 : decode cX11_needRoom 4 = .ok (.new 338, 3) := by decide +kernel
theorem dX11_needRoom_7 : decode cX11_needRoom 7 = .ok (.dup, 1) := by decide +kernel
theorem dX11_needRoom_8 : decode cX11_needRoom 8 = .ok (.ldc_w 340, 3) := by decide +kernel
theorem dX11_needRoom_11 : decode cX11_needRoom 11 = .ok (.invokespecial 342, 3) := by decide +kernel
theorem dX11_needRoom_14 : decode cX11_needRoom 14 = .ok (.athrow, 1) := by decide +kernel
theorem dX11_needRoom_15 : decode cX11_needRoom 15 = .ok (.return_, 1) := by decide +kernel
theorem thX11_needRoom_4 : GT mX11_needRoom 4 (xnm 4) := fun G d mc ms loc st h h8 => go_throwW (ik := 338) (is := 340) (ic := 342) (i := 5) (by decide) ⟨by decide, ⟨_, rfl, rfl, rfl⟩, tw_in tk_6 (i := 122) rfl rfl, tw_in tk_1 (i := 28) rfl rfl, by decide +kernel, by decide +kernel⟩ rfl h8 dX11_needRoom_4 dX11_needRoom_7 dX11_needRoom_8 dX11_needRoom_11 dX11_needRoom_14
noncomputable def E_X11_needRoom : mE := (mX11_needRoom, [(15, [(0, (.iload_n 0, 1, false, false, 0, 0, 0, 0, 0, 0, [])), (1, (.ifCond .ne 14, 4, false, false, 15, 0, 0, 0, 0, 0, [])), (4, (.new 338, 7, false, false, 4, 0, 1, 0, 0, 0, [])), (15, (.return_, 16, false, false, 0, 0, 0, 0, 0, 0, []))])], 0, [])
set_option maxRecDepth 100000 in
theorem v_X11_needRoom : VE MYT dflT E_X11_needRoom := ⟨⟨⟨⟨⟨dX11_needRoom_0, rfl⟩, rfl⟩, ⟨⟨dX11_needRoom_1, rfl⟩, rfl⟩, ⟨⟨dX11_needRoom_4, rfl⟩, Or.inr ⟨rfl, rfl, thX11_needRoom_4⟩⟩, ⟨⟨dX11_needRoom_15, rfl⟩, rfl⟩, trivial⟩, trivial⟩, by decide, Or.inl ⟨rfl, by decide, rfl⟩⟩
set_option maxRecDepth 100000 in
theorem g_X11_needRoom_0 (S : sT) (call : cT) (n : Nat) (x0 : Int32) (h : pH) : bd S call dflT E_X11_needRoom (n + 1) 0 [some (.int x0)] [] h = ((if x0 = 0 then some (.inr (xnm 4), h) else some (.inl none, h))) := rfl
theorem dX11_words_0 : decode cX11_words 0 = .ok (.aload_n 0, 1) := by decide +kernel
theorem dX11_words_1 : decode cX11_words 1 = .ok (.getfield 10, 3) := by decide +kernel
theorem dX11_words_4 : decode cX11_words 4 = .ok (.invokevirtual 85, 3) := by decide +kernel
theorem dX11_words_7 : decode cX11_words 7 = .ok (.iload_n 1, 1) := by decide +kernel
theorem dX11_words_8 : decode cX11_words 8 = .ok (.aload_n 0, 1) := by decide +kernel
theorem dX11_words_9 : decode cX11_words 9 = .ok (.getfield 19, 3) := by decide +kernel
theorem dX11_words_12 : decode cX11_words 12 = .ok (.getfield 74, 3) := by decide +kernel
theorem dX11_words_15 : decode cX11_words 15 = .ok (.sipush 400, 3) := by decide +kernel
theorem dX11_words_18 : decode cX11_words 18 = .ok (.invokestatic 43, 3) := by decide +kernel
theorem dX11_words_21 : decode cX11_words 21 = .ok (.aload_n 0, 1) := by decide +kernel
theorem dX11_words_22 : decode cX11_words 22 = .ok (.getfield 10, 3) := by decide +kernel
theorem dX11_words_25 : decode cX11_words 25 = .ok (.iconst 0, 1) := by decide +kernel
theorem dX11_words_26 : decode cX11_words 26 = .ok (.invokevirtual 89, 3) := by decide +kernel
theorem dX11_words_29 : decode cX11_words 29 = .ok (.invokestatic 93, 3) := by decide +kernel
theorem dX11_words_32 : decode cX11_words 32 = .ok (.aload_n 0, 1) := by decide +kernel
theorem dX11_words_33 : decode cX11_words 33 = .ok (.getfield 19, 3) := by decide +kernel
theorem dX11_words_36 : decode cX11_words 36 = .ok (.getfield 171, 3) := by decide +kernel
theorem dX11_words_39 : decode cX11_words 39 = .ok (.getfield 175, 3) := by decide +kernel
theorem dX11_words_42 : decode cX11_words 42 = .ok (.bipush 12, 2) := by decide +kernel
theorem dX11_words_44 : decode cX11_words 44 = .ok (.if_icmp .ge 7, 3) := by decide +kernel
theorem dX11_words_47 : decode cX11_words 47 = .ok (.iconst 1, 1) := by decide +kernel
theorem dX11_words_48 : decode cX11_words 48 = .ok (.goto 4, 3) := by decide +kernel
theorem dX11_words_51 : decode cX11_words 51 = .ok (.iconst 0, 1) := by decide +kernel
theorem dX11_words_52 : decode cX11_words 52 = .ok (.invokestatic 180, 3) := by decide +kernel
theorem dX11_words_55 : decode cX11_words 55 = .ok (.aload_n 0, 1) := by decide +kernel
theorem dX11_words_56 : decode cX11_words 56 = .ok (.getfield 10, 3) := by decide +kernel
theorem dX11_words_59 : decode cX11_words 59 = .ok (.invokevirtual 115, 3) := by decide +kernel
theorem dX11_words_62 : decode cX11_words 62 = .ok (.astore_n 2, 1) := by decide +kernel
theorem dX11_words_63 : decode cX11_words 63 = .ok (.aload_n 0, 1) := by decide +kernel
theorem dX11_words_64 : decode cX11_words 64 = .ok (.getfield 19, 3) := by decide +kernel
theorem dX11_words_67 : decode cX11_words 67 = .ok (.getfield 171, 3) := by decide +kernel
theorem dX11_words_70 : decode cX11_words 70 = .ok (.aload_n 2, 1) := by decide +kernel
theorem dX11_words_71 : decode cX11_words 71 = .ok (.iload_n 1, 1) := by decide +kernel
theorem dX11_words_72 : decode cX11_words 72 = .ok (.invokevirtual 183, 3) := by decide +kernel
theorem dX11_words_75 : decode cX11_words 75 = .ok (.aload_n 2, 1) := by decide +kernel
theorem dX11_words_76 : decode cX11_words 76 = .ok (.getfield 187, 3) := by decide +kernel
theorem dX11_words_79 : decode cX11_words 79 = .ok (.ireturn, 1) := by decide +kernel
noncomputable def E_X11_words : mE := (mX11_words, [(52, [(0, (.aload_n 0, 1, false, false, 0, 0, 0, 0, 0, 0, [])), (1, (.getfield 10, 4, false, false, 14, 0, 1, 0, 0, 0, [])), (4, (.invokevirtual 85, 7, false, false, 55, 0, 0, 9, 0, 0, [])), (7, (.iload_n 1, 8, false, false, 1, 0, 0, 0, 0, 0, [])), (8, (.aload_n 0, 9, false, false, 0, 0, 0, 0, 0, 0, [])), (9, (.getfield 19, 12, false, false, 14, 1, 1, 0, 0, 0, [])), (12, (.getfield 74, 15, false, false, 3, 7, 0, 0, 0, 0, [])), (15, (.sipush 400, 18, false, false, 0, 0, 0, 0, 400, 0, [])), (18, (.invokestatic 43, 21, false, false, 21, 3, 0, 0, 0, 0, [])), (21, (.aload_n 0, 22, false, false, 0, 0, 0, 0, 0, 0, [])), (22, (.getfield 10, 25, false, false, 14, 0, 1, 0, 0, 0, [])), (25, (.iconst 0, 26, false, false, 0, 0, 0, 0, 0, 0, [])), (26, (.invokevirtual 89, 29, false, false, 84, 1, 1, 9, 0, 0, [])), (29, (.invokestatic 93, 32, false, false, 85, 1, 0, 0, 0, 0, [])), (32, (.aload_n 0, 33, false, false, 0, 0, 0, 0, 0, 0, [])), (33, (.getfield 19, 36, false, false, 14, 1, 1, 0, 0, 0, [])), (36, (.getfield 171, 39, false, false, 3, 0, 1, 0, 0, 0, [])), (39, (.getfield 175, 42, false, false, 12, 0, 0, 0, 0, 0, [])), (42, (.bipush 12, 44, false, false, 0, 0, 0, 0, 12, 0, [])), (44, (.if_icmp .ge 7, 47, false, false, 51, 0, 0, 0, 0, 0, [])), (47, (.iconst 1, 48, false, false, 0, 0, 0, 0, 1, 0, [])), (48, (.goto 4, 51, false, false, 52, 0, 0, 0, 0, 0, [])), (51, (.iconst 0, 52, false, false, 0, 0, 0, 0, 0, 0, [])), (52, (.invokestatic 180, 55, false, false, 277, 1, 0, 0, 0, 0, []))]),
  (79, [(55, (.aload_n 0, 56, false, false, 0, 0, 0, 0, 0, 0, [])), (56, (.getfield 10, 59, false, false, 14, 0, 1, 0, 0, 0, [])), (59, (.invokevirtual 115, 62, false, false, 108, 0, 3, 9, 0, 0, [])), (62, (.astore_n 2, 63, false, false, 2, 0, 0, 0, 0, 0, [])), (63, (.aload_n 0, 64, false, false, 0, 0, 0, 0, 0, 0, [])), (64, (.getfield 19, 67, false, false, 14, 1, 1, 0, 0, 0, [])), (67, (.getfield 171, 70, false, false, 3, 0, 1, 0, 0, 0, [])), (70, (.aload_n 2, 71, false, false, 2, 0, 0, 0, 0, 0, [])), (71, (.iload_n 1, 72, false, false, 1, 0, 0, 0, 0, 0, [])), (72, (.invokevirtual 183, 75, false, false, 278, 2, 0, 12, 0, 0, [])), (75, (.aload_n 2, 76, false, false, 2, 0, 0, 0, 0, 0, [])), (76, (.getfield 187, 79, false, false, 11, 0, 0, 0, 0, 0, [])), (79, (.ireturn, 80, false, false, 0, 0, 0, 0, 0, 0, []))])], 0, [])
set_option maxRecDepth 100000 in
theorem v_X11_words : VE MYT dflT E_X11_words := ⟨⟨⟨⟨⟨dX11_words_0, rfl⟩, rfl⟩, ⟨⟨dX11_words_1, rfl⟩, Or.inl ⟨by decide, _, _, fX11_10⟩⟩, ⟨⟨dX11_words_4, rfl⟩, Or.inr ⟨by decide, ⟨_, my_55, sX11_85⟩, fun q => absurd q (by decide)⟩⟩, ⟨⟨dX11_words_7, rfl⟩, rfl⟩, ⟨⟨dX11_words_8, rfl⟩, rfl⟩, ⟨⟨dX11_words_9, rfl⟩, Or.inl ⟨by decide, _, _, fX11_19⟩⟩, ⟨⟨dX11_words_12, rfl⟩, Or.inl ⟨by decide, _, _, fX11_74⟩⟩, ⟨⟨dX11_words_15, rfl⟩, rfl⟩, ⟨⟨dX11_words_18, rfl⟩, Or.inl ⟨rfl, _, my_21, sX11_43⟩⟩, ⟨⟨dX11_words_21, rfl⟩, rfl⟩, ⟨⟨dX11_words_22, rfl⟩, Or.inl ⟨by decide, _, _, fX11_10⟩⟩, ⟨⟨dX11_words_25, rfl⟩, rfl⟩, ⟨⟨dX11_words_26, rfl⟩, Or.inr ⟨by decide, ⟨_, my_84, sX11_89⟩, fun q => absurd q (by decide)⟩⟩, ⟨⟨dX11_words_29, rfl⟩, Or.inl ⟨rfl, _, my_85, sX11_93⟩⟩, ⟨⟨dX11_words_32, rfl⟩, rfl⟩, ⟨⟨dX11_words_33, rfl⟩, Or.inl ⟨by decide, _, _, fX11_19⟩⟩, ⟨⟨dX11_words_36, rfl⟩, Or.inl ⟨by decide, _, _, fX11_171⟩⟩, ⟨⟨dX11_words_39, rfl⟩, Or.inl ⟨by decide, _, _, fX11_175⟩⟩, ⟨⟨dX11_words_42, rfl⟩, rfl⟩, ⟨⟨dX11_words_44, rfl⟩, rfl⟩, ⟨⟨dX11_words_47, rfl⟩, rfl⟩, ⟨⟨dX11_words_48, rfl⟩, rfl⟩, ⟨⟨dX11_words_51, rfl⟩, rfl⟩, ⟨⟨dX11_words_52, rfl⟩, Or.inl ⟨rfl, _, my_277, sX11_180⟩⟩, trivial⟩,
  ⟨⟨⟨dX11_words_55, rfl⟩, rfl⟩, ⟨⟨dX11_words_56, rfl⟩, Or.inl ⟨by decide, _, _, fX11_10⟩⟩, ⟨⟨dX11_words_59, rfl⟩, Or.inr ⟨by decide, ⟨_, my_108, sX11_115⟩, fun q => absurd q (by decide)⟩⟩, ⟨⟨dX11_words_62, rfl⟩, rfl⟩, ⟨⟨dX11_words_63, rfl⟩, rfl⟩, ⟨⟨dX11_words_64, rfl⟩, Or.inl ⟨by decide, _, _, fX11_19⟩⟩, ⟨⟨dX11_words_67, rfl⟩, Or.inl ⟨by decide, _, _, fX11_171⟩⟩, ⟨⟨dX11_words_70, rfl⟩, rfl⟩, ⟨⟨dX11_words_71, rfl⟩, rfl⟩, ⟨⟨dX11_words_72, rfl⟩, Or.inr ⟨by decide, ⟨_, my_278, sX11_183⟩, fun q => absurd q (by decide)⟩⟩, ⟨⟨dX11_words_75, rfl⟩, rfl⟩, ⟨⟨dX11_words_76, rfl⟩, Or.inl ⟨by decide, _, _, fX11_187⟩⟩, ⟨⟨dX11_words_79, rfl⟩, Or.inl ⟨rfl, rfl⟩⟩, trivial⟩, trivial⟩, by decide, Or.inl ⟨rfl, by decide, rfl⟩⟩
set_option maxRecDepth 100000 in
theorem g_X11_words_0 (S : sT) (call : cT) (n : Nat) (a0 : Nat) (x1 : Int32) (h : pH) : bd S call dflT E_X11_words (n + 1) 0 [some (.ref a0), some (.int x1), none] [] h = (gV h (.ref a0) 14 0 (fun w1 => rC h w1 9 (cU (call 55 [w1] h) (fun h2 => gV h2 (.ref a0) 14 1 (fun w3 => gI h2 w3 3 7 (fun y4 => cU (call 21 [.int x1, .int y4, .int 400] h2) (fun h5 => gV h5 (.ref a0) 14 0 (fun w6 => rC h5 w6 9 (cI (call 84 [w6, .int 0] h5) (fun y8 h7 => cU (call 85 [.int y8] h7) (fun h9 => gV h9 (.ref a0) 14 1 (fun w10 => gV h9 w10 3 0 (fun w11 => gI h9 w11 12 0 (fun y12 => (if 12 ≤ y12 then cU (call 277 [.int 0] h9) (fun h13 => gV h13 (.ref a0) 14 0 (fun w14 => rC h13 w14 9 (cA (call 108 [w14] h13) (fun w16 h15 => iA w16 (gV h15 (.ref a0) 14 1 (fun w17 => gV h15 w17 3 0 (fun w18 => iA w16 (rC h15 w18 12 (cU (call 278 [w18, w16, .int x1] h15) (fun h19 => iA w16 (gI h19 w16 11 0 (fun y20 => some (.inl (some (.int y20)), h19))))))))))))) else cU (call 277 [.int 1] h9) (fun h21 => gV h21 (.ref a0) 14 0 (fun w22 => rC h21 w22 9 (cA (call 108 [w22] h21) (fun w24 h23 => iA w24 (gV h23 (.ref a0) 14 1 (fun w25 => gV h23 w25 3 0 (fun w26 => iA w24 (rC h23 w26 12 (cU (call 278 [w26, w24, .int x1] h23) (fun h27 => iA w24 (gI h27 w24 11 0 (fun y28 => some (.inl (some (.int y28)), h27)))))))))))))))))))))))))))) := rfl
theorem dX11_fault_0 : decode cX11_fault 0 = .ok (.aload_n 0, 1) := by decide +kernel
theorem dX11_fault_1 : decode cX11_fault 1 = .ok (.getfield 10, 3) := by decide +kernel
theorem dX11_fault_4 : decode cX11_fault 4 = .ok (.getfield 192, 3) := by decide +kernel
theorem dX11_fault_7 : decode cX11_fault 7 = .ok (.ireturn, 1) := by decide +kernel
noncomputable def E_X11_fault : mE := (mX11_fault, [(7, [(0, (.aload_n 0, 1, false, false, 0, 0, 0, 0, 0, 0, [])), (1, (.getfield 10, 4, false, false, 14, 0, 1, 0, 0, 0, [])), (4, (.getfield 192, 7, false, false, 9, 2, 0, 0, 0, 0, [])), (7, (.ireturn, 8, false, false, 0, 0, 0, 0, 0, 0, []))])], 0, [])
set_option maxRecDepth 100000 in
theorem v_X11_fault : VE MYT dflT E_X11_fault := ⟨⟨⟨⟨⟨dX11_fault_0, rfl⟩, rfl⟩, ⟨⟨dX11_fault_1, rfl⟩, Or.inl ⟨by decide, _, _, fX11_10⟩⟩, ⟨⟨dX11_fault_4, rfl⟩, Or.inl ⟨by decide, _, _, fX11_192⟩⟩, ⟨⟨dX11_fault_7, rfl⟩, Or.inl ⟨rfl, rfl⟩⟩, trivial⟩, trivial⟩, by decide, Or.inl ⟨rfl, by decide, rfl⟩⟩
set_option maxRecDepth 100000 in
theorem g_X11_fault_0 (S : sT) (call : cT) (n : Nat) (a0 : Nat) (h : pH) : bd S call dflT E_X11_fault (n + 1) 0 [some (.ref a0)] [] h = (gV h (.ref a0) 14 0 (fun w1 => gI h w1 9 2 (fun y2 => some (.inl (some (.int y2)), h)))) := rfl
theorem dX11_may_0 : decode cX11_may 0 = .ok (.iload_n 2, 1) := by decide +kernel
theorem dX11_may_1 : decode cX11_may 1 = .ok (.invokestatic 40, 3) := by decide +kernel
theorem dX11_may_4 : decode cX11_may 4 = .ok (.iload_n 1, 1) := by decide +kernel
theorem dX11_may_5 : decode cX11_may 5 = .ok (.ifCond .lt 13, 3) := by decide +kernel
theorem dX11_may_8 : decode cX11_may 8 = .ok (.iload_n 1, 1) := by decide +kernel
theorem dX11_may_9 : decode cX11_may 9 = .ok (.bipush 9, 2) := by decide +kernel
theorem dX11_may_11 : decode cX11_may 11 = .ok (.if_icmp .gt 7, 3) := by decide +kernel
theorem dX11_may_14 : decode cX11_may 14 = .ok (.iconst 1, 1) := by decide +kernel
theorem dX11_may_15 : decode cX11_may 15 = .ok (.goto 4, 3) := by decide +kernel
theorem dX11_may_18 : decode cX11_may 18 = .ok (.iconst 0, 1) := by decide +kernel
theorem dX11_may_19 : decode cX11_may 19 = .ok (.invokestatic 156, 3) := by decide +kernel
theorem dX11_may_22 : decode cX11_may 22 = .ok (.iload_n 1, 1) := by decide +kernel
theorem dX11_may_23 : decode cX11_may 23 = .ok (.tableswitch 97 0 4 #[33, 41, 61, 69, 89], 33) := by decide +kernel
theorem dX11_may_56 : decode cX11_may 56 = .ok (.aload_n 0, 1) := by decide +kernel
theorem dX11_may_57 : decode cX11_may 57 = .ok (.getfield 19, 3) := by decide +kernel
theorem dX11_may_60 : decode cX11_may 60 = .ok (.invokevirtual 97, 3) := by decide +kernel
theorem dX11_may_63 : decode cX11_may 63 = .ok (.ireturn, 1) := by decide +kernel
theorem dX11_may_64 : decode cX11_may 64 = .ok (.aload_n 0, 1) := by decide +kernel
theorem dX11_may_65 : decode cX11_may 65 = .ok (.getfield 19, 3) := by decide +kernel
theorem dX11_may_68 : decode cX11_may 68 = .ok (.bipush 18, 2) := by decide +kernel
theorem dX11_may_70 : decode cX11_may 70 = .ok (.iload_n 2, 1) := by decide +kernel
theorem dX11_may_71 : decode cX11_may 71 = .ok (.invokevirtual 195, 3) := by decide +kernel
theorem dX11_may_74 : decode cX11_may 74 = .ok (.iconst (-1), 1) := by decide +kernel
theorem dX11_may_75 : decode cX11_may 75 = .ok (.if_icmp .eq 7, 3) := by decide +kernel
theorem dX11_may_78 : decode cX11_may 78 = .ok (.iconst 1, 1) := by decide +kernel
theorem dX11_may_79 : decode cX11_may 79 = .ok (.goto 4, 3) := by decide +kernel
theorem dX11_may_82 : decode cX11_may 82 = .ok (.iconst 0, 1) := by decide +kernel
theorem dX11_may_83 : decode cX11_may 83 = .ok (.ireturn, 1) := by decide +kernel
theorem dX11_may_84 : decode cX11_may 84 = .ok (.aload_n 0, 1) := by decide +kernel
theorem dX11_may_85 : decode cX11_may 85 = .ok (.getfield 19, 3) := by decide +kernel
theorem dX11_may_88 : decode cX11_may 88 = .ok (.invokevirtual 198, 3) := by decide +kernel
theorem dX11_may_91 : decode cX11_may 91 = .ok (.ireturn, 1) := by decide +kernel
theorem dX11_may_92 : decode cX11_may 92 = .ok (.aload_n 0, 1) := by decide +kernel
theorem dX11_may_93 : decode cX11_may 93 = .ok (.getfield 19, 3) := by decide +kernel
theorem dX11_may_96 : decode cX11_may 96 = .ok (.bipush 20, 2) := by decide +kernel
theorem dX11_may_98 : decode cX11_may 98 = .ok (.iload_n 2, 1) := by decide +kernel
theorem dX11_may_99 : decode cX11_may 99 = .ok (.invokevirtual 195, 3) := by decide +kernel
theorem dX11_may_102 : decode cX11_may 102 = .ok (.iconst (-1), 1) := by decide +kernel
theorem dX11_may_103 : decode cX11_may 103 = .ok (.if_icmp .eq 7, 3) := by decide +kernel
theorem dX11_may_106 : decode cX11_may 106 = .ok (.iconst 1, 1) := by decide +kernel
theorem dX11_may_107 : decode cX11_may 107 = .ok (.goto 4, 3) := by decide +kernel
theorem dX11_may_110 : decode cX11_may 110 = .ok (.iconst 0, 1) := by decide +kernel
theorem dX11_may_111 : decode cX11_may 111 = .ok (.ireturn, 1) := by decide +kernel
theorem dX11_may_112 : decode cX11_may 112 = .ok (.aload_n 0, 1) := by decide +kernel
theorem dX11_may_113 : decode cX11_may 113 = .ok (.getfield 19, 3) := by decide +kernel
theorem dX11_may_116 : decode cX11_may 116 = .ok (.invokevirtual 201, 3) := by decide +kernel
theorem dX11_may_119 : decode cX11_may 119 = .ok (.ireturn, 1) := by decide +kernel
theorem dX11_may_120 : decode cX11_may 120 = .ok (.aload_n 0, 1) := by decide +kernel
theorem dX11_may_121 : decode cX11_may 121 = .ok (.getfield 19, 3) := by decide +kernel
theorem dX11_may_124 : decode cX11_may 124 = .ok (.bipush 12, 2) := by decide +kernel
theorem dX11_may_126 : decode cX11_may 126 = .ok (.iload_n 1, 1) := by decide +kernel
theorem dX11_may_127 : decode cX11_may 127 = .ok (.iadd, 1) := by decide +kernel
theorem dX11_may_128 : decode cX11_may 128 = .ok (.iconst 5, 1) := by decide +kernel
theorem dX11_may_129 : decode cX11_may 129 = .ok (.isub, 1) := by decide +kernel
theorem dX11_may_130 : decode cX11_may 130 = .ok (.invokevirtual 204, 3) := by decide +kernel
theorem dX11_may_133 : decode cX11_may 133 = .ok (.ireturn, 1) := by decide +kernel
noncomputable def E_X11_may : mE := (mX11_may, [(75, [(0, (.iload_n 2, 1, false, false, 2, 0, 0, 0, 0, 0, [])), (1, (.invokestatic 40, 4, false, false, 20, 1, 0, 0, 0, 0, [])), (4, (.iload_n 1, 5, false, false, 1, 0, 0, 0, 0, 0, [])), (5, (.ifCond .lt 13, 8, false, false, 18, 0, 0, 0, 0, 0, [])), (8, (.iload_n 1, 9, false, false, 1, 0, 0, 0, 0, 0, [])), (9, (.bipush 9, 11, false, false, 0, 0, 0, 0, 9, 0, [])), (11, (.if_icmp .gt 7, 14, false, false, 18, 0, 0, 0, 0, 0, [])), (14, (.iconst 1, 15, false, false, 0, 0, 0, 0, 1, 0, [])), (15, (.goto 4, 18, false, false, 19, 0, 0, 0, 0, 0, [])), (18, (.iconst 0, 19, false, false, 0, 0, 0, 0, 0, 0, [])), (19, (.invokestatic 156, 22, false, false, 257, 1, 0, 0, 0, 0, [])), (22, (.iload_n 1, 23, false, false, 1, 0, 0, 0, 0, 0, [])), (23, (.tableswitch 97 0 4 #[33, 41, 61, 69, 89], 0, false, false, 120, 0, 0, 0, 0, 0, [(0, 56), (1, 64), (2, 84), (3, 92), (4, 112)])), (56, (.aload_n 0, 57, false, false, 0, 0, 0, 0, 0, 0, [])), (57, (.getfield 19, 60, false, false, 14, 1, 1, 0, 0, 0, [])), (60, (.invokevirtual 97, 63, false, false, 93, 0, 1, 3, 0, 0, [])), (63, (.ireturn, 64, false, false, 0, 0, 0, 0, 0, 0, [])), (64, (.aload_n 0, 65, false, false, 0, 0, 0, 0, 0, 0, [])), (65, (.getfield 19, 68, false, false, 14, 1, 1, 0, 0, 0, [])), (68, (.bipush 18, 70, false, false, 0, 0, 0, 0, 18, 0, [])), (70, (.iload_n 2, 71, false, false, 2, 0, 0, 0, 0, 0, [])), (71, (.invokevirtual 195, 74, false, false, 286, 2, 1, 3, 0, 0, [])), (74, (.iconst (-1), 75, false, false, 0, 0, 0, 0, -1, 0, [])), (75, (.if_icmp .eq 7, 78, false, false, 82, 0, 0, 0, 0, 0, []))]),
  (120, [(78, (.iconst 1, 79, false, false, 0, 0, 0, 0, 1, 0, [])), (79, (.goto 4, 82, false, false, 83, 0, 0, 0, 0, 0, [])), (82, (.iconst 0, 83, false, false, 0, 0, 0, 0, 0, 0, [])), (83, (.ireturn, 84, false, false, 0, 0, 0, 0, 0, 0, [])), (84, (.aload_n 0, 85, false, false, 0, 0, 0, 0, 0, 0, [])), (85, (.getfield 19, 88, false, false, 14, 1, 1, 0, 0, 0, [])), (88, (.invokevirtual 198, 91, false, false, 287, 0, 1, 3, 0, 0, [])), (91, (.ireturn, 92, false, false, 0, 0, 0, 0, 0, 0, [])), (92, (.aload_n 0, 93, false, false, 0, 0, 0, 0, 0, 0, [])), (93, (.getfield 19, 96, false, false, 14, 1, 1, 0, 0, 0, [])), (96, (.bipush 20, 98, false, false, 0, 0, 0, 0, 20, 0, [])), (98, (.iload_n 2, 99, false, false, 2, 0, 0, 0, 0, 0, [])), (99, (.invokevirtual 195, 102, false, false, 286, 2, 1, 3, 0, 0, [])), (102, (.iconst (-1), 103, false, false, 0, 0, 0, 0, -1, 0, [])), (103, (.if_icmp .eq 7, 106, false, false, 110, 0, 0, 0, 0, 0, [])), (106, (.iconst 1, 107, false, false, 0, 0, 0, 0, 1, 0, [])), (107, (.goto 4, 110, false, false, 111, 0, 0, 0, 0, 0, [])), (110, (.iconst 0, 111, false, false, 0, 0, 0, 0, 0, 0, [])), (111, (.ireturn, 112, false, false, 0, 0, 0, 0, 0, 0, [])), (112, (.aload_n 0, 113, false, false, 0, 0, 0, 0, 0, 0, [])), (113, (.getfield 19, 116, false, false, 14, 1, 1, 0, 0, 0, [])), (116, (.invokevirtual 201, 119, false, false, 220, 0, 1, 3, 0, 0, [])), (119, (.ireturn, 120, false, false, 0, 0, 0, 0, 0, 0, [])), (120, (.aload_n 0, 121, false, false, 0, 0, 0, 0, 0, 0, []))]),
  (133, [(121, (.getfield 19, 124, false, false, 14, 1, 1, 0, 0, 0, [])), (124, (.bipush 12, 126, false, false, 0, 0, 0, 0, 12, 0, [])), (126, (.iload_n 1, 127, false, false, 1, 0, 0, 0, 0, 0, [])), (127, (.iadd, 128, false, false, 0, 0, 0, 0, 0, 0, [])), (128, (.iconst 5, 129, false, false, 0, 0, 0, 0, 5, 0, [])), (129, (.isub, 130, false, false, 0, 0, 0, 0, 0, 0, [])), (130, (.invokevirtual 204, 133, false, false, 288, 1, 1, 3, 0, 0, [])), (133, (.ireturn, 134, false, false, 0, 0, 0, 0, 0, 0, []))])], 0, [])
set_option maxRecDepth 100000 in
theorem v_X11_may : VE MYT dflT E_X11_may := ⟨⟨⟨⟨⟨dX11_may_0, rfl⟩, rfl⟩, ⟨⟨dX11_may_1, rfl⟩, Or.inl ⟨rfl, _, my_20, sX11_40⟩⟩, ⟨⟨dX11_may_4, rfl⟩, rfl⟩, ⟨⟨dX11_may_5, rfl⟩, rfl⟩, ⟨⟨dX11_may_8, rfl⟩, rfl⟩, ⟨⟨dX11_may_9, rfl⟩, rfl⟩, ⟨⟨dX11_may_11, rfl⟩, rfl⟩, ⟨⟨dX11_may_14, rfl⟩, rfl⟩, ⟨⟨dX11_may_15, rfl⟩, rfl⟩, ⟨⟨dX11_may_18, rfl⟩, rfl⟩, ⟨⟨dX11_may_19, rfl⟩, Or.inl ⟨rfl, _, my_257, sX11_156⟩⟩, ⟨⟨dX11_may_22, rfl⟩, rfl⟩, ⟨⟨_, dX11_may_23⟩, ⟨rfl, rfl, rfl, rfl, rfl, rfl, rfl, rfl, rfl, rfl, rfl, rfl, trivial⟩⟩, ⟨⟨dX11_may_56, rfl⟩, rfl⟩, ⟨⟨dX11_may_57, rfl⟩, Or.inl ⟨by decide, _, _, fX11_19⟩⟩, ⟨⟨dX11_may_60, rfl⟩, Or.inr ⟨by decide, ⟨_, my_93, sX11_97⟩, fun q => absurd q (by decide)⟩⟩, ⟨⟨dX11_may_63, rfl⟩, Or.inl ⟨rfl, rfl⟩⟩, ⟨⟨dX11_may_64, rfl⟩, rfl⟩, ⟨⟨dX11_may_65, rfl⟩, Or.inl ⟨by decide, _, _, fX11_19⟩⟩, ⟨⟨dX11_may_68, rfl⟩, rfl⟩, ⟨⟨dX11_may_70, rfl⟩, rfl⟩, ⟨⟨dX11_may_71, rfl⟩, Or.inr ⟨by decide, ⟨_, my_286, sX11_195⟩, fun q => absurd q (by decide)⟩⟩, ⟨⟨dX11_may_74, rfl⟩, rfl⟩, ⟨⟨dX11_may_75, rfl⟩, rfl⟩, trivial⟩,
  ⟨⟨⟨dX11_may_78, rfl⟩, rfl⟩, ⟨⟨dX11_may_79, rfl⟩, rfl⟩, ⟨⟨dX11_may_82, rfl⟩, rfl⟩, ⟨⟨dX11_may_83, rfl⟩, Or.inl ⟨rfl, rfl⟩⟩, ⟨⟨dX11_may_84, rfl⟩, rfl⟩, ⟨⟨dX11_may_85, rfl⟩, Or.inl ⟨by decide, _, _, fX11_19⟩⟩, ⟨⟨dX11_may_88, rfl⟩, Or.inr ⟨by decide, ⟨_, my_287, sX11_198⟩, fun q => absurd q (by decide)⟩⟩, ⟨⟨dX11_may_91, rfl⟩, Or.inl ⟨rfl, rfl⟩⟩, ⟨⟨dX11_may_92, rfl⟩, rfl⟩, ⟨⟨dX11_may_93, rfl⟩, Or.inl ⟨by decide, _, _, fX11_19⟩⟩, ⟨⟨dX11_may_96, rfl⟩, rfl⟩, ⟨⟨dX11_may_98, rfl⟩, rfl⟩, ⟨⟨dX11_may_99, rfl⟩, Or.inr ⟨by decide, ⟨_, my_286, sX11_195⟩, fun q => absurd q (by decide)⟩⟩, ⟨⟨dX11_may_102, rfl⟩, rfl⟩, ⟨⟨dX11_may_103, rfl⟩, rfl⟩, ⟨⟨dX11_may_106, rfl⟩, rfl⟩, ⟨⟨dX11_may_107, rfl⟩, rfl⟩, ⟨⟨dX11_may_110, rfl⟩, rfl⟩, ⟨⟨dX11_may_111, rfl⟩, Or.inl ⟨rfl, rfl⟩⟩, ⟨⟨dX11_may_112, rfl⟩, rfl⟩, ⟨⟨dX11_may_113, rfl⟩, Or.inl ⟨by decide, _, _, fX11_19⟩⟩, ⟨⟨dX11_may_116, rfl⟩, Or.inr ⟨by decide, ⟨_, my_220, sX11_201⟩, fun q => absurd q (by decide)⟩⟩, ⟨⟨dX11_may_119, rfl⟩, Or.inl ⟨rfl, rfl⟩⟩, ⟨⟨dX11_may_120, rfl⟩, rfl⟩, trivial⟩,
  ⟨⟨⟨dX11_may_121, rfl⟩, Or.inl ⟨by decide, _, _, fX11_19⟩⟩, ⟨⟨dX11_may_124, rfl⟩, rfl⟩, ⟨⟨dX11_may_126, rfl⟩, rfl⟩, ⟨⟨dX11_may_127, rfl⟩, trivial⟩, ⟨⟨dX11_may_128, rfl⟩, rfl⟩, ⟨⟨dX11_may_129, rfl⟩, trivial⟩, ⟨⟨dX11_may_130, rfl⟩, Or.inr ⟨by decide, ⟨_, my_288, sX11_204⟩, fun q => absurd q (by decide)⟩⟩, ⟨⟨dX11_may_133, rfl⟩, Or.inl ⟨rfl, rfl⟩⟩, trivial⟩, trivial⟩, by decide, Or.inl ⟨rfl, by decide, rfl⟩⟩
set_option maxRecDepth 100000 in
theorem g_X11_may_0 (S : sT) (call : cT) (n : Nat) (a0 : Nat) (x1 : Int32) (x2 : Int32) (h : pH) : bd S call dflT E_X11_may (n + 1) 0 [some (.ref a0), some (.int x1), some (.int x2)] [] h = (cU (call 20 [.int x2] h) (fun h1 => (if x1 < 0 then cU (call 257 [.int 0] h1) (fun h2 => (if x1 = 0 then bd S call dflT E_X11_may n 56 [some (.ref a0), some (.int x1), some (.int x2)] [] h2 else (if x1 = 1 then bd S call dflT E_X11_may n 64 [some (.ref a0), some (.int x1), some (.int x2)] [] h2 else (if x1 = 2 then bd S call dflT E_X11_may n 84 [some (.ref a0), some (.int x1), some (.int x2)] [] h2 else (if x1 = 3 then bd S call dflT E_X11_may n 92 [some (.ref a0), some (.int x1), some (.int x2)] [] h2 else (if x1 = 4 then bd S call dflT E_X11_may n 112 [some (.ref a0), some (.int x1), some (.int x2)] [] h2 else bd S call dflT E_X11_may n 120 [some (.ref a0), some (.int x1), some (.int x2)] [] h2)))))) else (if 9 < x1 then cU (call 257 [.int 0] h1) (fun h3 => (if x1 = 0 then bd S call dflT E_X11_may n 56 [some (.ref a0), some (.int x1), some (.int x2)] [] h3 else (if x1 = 1 then bd S call dflT E_X11_may n 64 [some (.ref a0), some (.int x1), some (.int x2)] [] h3 else (if x1 = 2 then bd S call dflT E_X11_may n 84 [some (.ref a0), some (.int x1), some (.int x2)] [] h3 else (if x1 = 3 then bd S call dflT E_X11_may n 92 [some (.ref a0), some (.int x1), some (.int x2)] [] h3 else (if x1 = 4 then bd S call dflT E_X11_may n 112 [some (.ref a0), some (.int x1), some (.int x2)] [] h3 else bd S call dflT E_X11_may n 120 [some (.ref a0), some (.int x1), some (.int x2)] [] h3)))))) else cU (call 257 [.int 1] h1) (fun h4 => (if x1 = 0 then bd S call dflT E_X11_may n 56 [some (.ref a0), some (.int x1), some (.int x2)] [] h4 else (if x1 = 1 then bd S call dflT E_X11_may n 64 [some (.ref a0), some (.int x1), some (.int x2)] [] h4 else (if x1 = 2 then bd S call dflT E_X11_may n 84 [some (.ref a0), some (.int x1), some (.int x2)] [] h4 else (if x1 = 3 then bd S call dflT E_X11_may n 92 [some (.ref a0), some (.int x1), some (.int x2)] [] h4 else (if x1 = 4 then bd S call dflT E_X11_may n 112 [some (.ref a0), some (.int x1), some (.int x2)] [] h4 else bd S call dflT E_X11_may n 120 [some (.ref a0), some (.int x1), some (.int x2)] [] h4)))))))))) := rfl
set_option maxRecDepth 100000 in
theorem g_X11_may_56 (S : sT) (call : cT) (n : Nat) (a0 : Nat) (x1 : Int32) (x2 : Int32) (h : pH) : bd S call dflT E_X11_may (n + 1) 56 [some (.ref a0), some (.int x1), some (.int x2)] [] h = (gV h (.ref a0) 14 1 (fun w1 => rC h w1 3 (cI (call 93 [w1] h) (fun y3 h2 => some (.inl (some (.int y3)), h2))))) := rfl
set_option maxRecDepth 100000 in
theorem g_X11_may_64 (S : sT) (call : cT) (n : Nat) (a0 : Nat) (x1 : Int32) (x2 : Int32) (h : pH) : bd S call dflT E_X11_may (n + 1) 64 [some (.ref a0), some (.int x1), some (.int x2)] [] h = (gV h (.ref a0) 14 1 (fun w1 => rC h w1 3 (cI (call 286 [w1, .int 18, .int x2] h) (fun y3 h2 => (if y3 = (-1) then some (.inl (some (.int 0)), h2) else some (.inl (some (.int 1)), h2)))))) := rfl
set_option maxRecDepth 100000 in
theorem g_X11_may_84 (S : sT) (call : cT) (n : Nat) (a0 : Nat) (x1 : Int32) (x2 : Int32) (h : pH) : bd S call dflT E_X11_may (n + 1) 84 [some (.ref a0), some (.int x1), some (.int x2)] [] h = (gV h (.ref a0) 14 1 (fun w1 => rC h w1 3 (cI (call 287 [w1] h) (fun y3 h2 => some (.inl (some (.int y3)), h2))))) := rfl
set_option maxRecDepth 100000 in
theorem g_X11_may_92 (S : sT) (call : cT) (n : Nat) (a0 : Nat) (x1 : Int32) (x2 : Int32) (h : pH) : bd S call dflT E_X11_may (n + 1) 92 [some (.ref a0), some (.int x1), some (.int x2)] [] h = (gV h (.ref a0) 14 1 (fun w1 => rC h w1 3 (cI (call 286 [w1, .int 20, .int x2] h) (fun y3 h2 => (if y3 = (-1) then some (.inl (some (.int 0)), h2) else some (.inl (some (.int 1)), h2)))))) := rfl
set_option maxRecDepth 100000 in
theorem g_X11_may_112 (S : sT) (call : cT) (n : Nat) (a0 : Nat) (x1 : Int32) (x2 : Int32) (h : pH) : bd S call dflT E_X11_may (n + 1) 112 [some (.ref a0), some (.int x1), some (.int x2)] [] h = (gV h (.ref a0) 14 1 (fun w1 => rC h w1 3 (cI (call 220 [w1] h) (fun y3 h2 => some (.inl (some (.int y3)), h2))))) := rfl
set_option maxRecDepth 100000 in
theorem g_X11_may_120 (S : sT) (call : cT) (n : Nat) (a0 : Nat) (x1 : Int32) (x2 : Int32) (h : pH) : bd S call dflT E_X11_may (n + 1) 120 [some (.ref a0), some (.int x1), some (.int x2)] [] h = (gV h (.ref a0) 14 1 (fun w1 => rC h w1 3 (cI (call 288 [w1, .int ((12 + x1) - 5)] h) (fun y3 h2 => some (.inl (some (.int y3)), h2))))) := rfl
