/-! by program: methods as data, that they are right, what their bodies do -/
theorem dX9_init_0 : decode cX9_init 0 = .ok (.aload_n 0, 1) := by decide +kernel
theorem dX9_init_1 : decode cX9_init 1 = .ok (.invokespecial 3, 3) := by decide +kernel
theorem dX9_init_4 : decode cX9_init 4 = .ok (.aload_n 0, 1) := by decide +kernel
theorem dX9_init_5 : decode cX9_init 5 = .ok (.bipush 12, 2) := by decide +kernel
theorem dX9_init_7 : decode cX9_init 7 = .ok (.anewarray 9, 3) := by decide +kernel
theorem dX9_init_10 : decode cX9_init 10 = .ok (.putfield 11, 3) := by decide +kernel
theorem dX9_init_13 : decode cX9_init 13 = .ok (.aload_n 0, 1) := by decide +kernel
theorem dX9_init_14 : decode cX9_init 14 = .ok (.bipush 12, 2) := by decide +kernel
theorem dX9_init_16 : decode cX9_init 16 = .ok (.newarray .int, 2) := by decide +kernel
theorem dX9_init_18 : decode cX9_init 18 = .ok (.putfield 17, 3) := by decide +kernel
theorem dX9_init_21 : decode cX9_init 21 = .ok (.aload_n 0, 1) := by decide +kernel
theorem dX9_init_22 : decode cX9_init 22 = .ok (.bipush 12, 2) := by decide +kernel
theorem dX9_init_24 : decode cX9_init 24 = .ok (.newarray .int, 2) := by decide +kernel
theorem dX9_init_26 : decode cX9_init 26 = .ok (.putfield 21, 3) := by decide +kernel
theorem dX9_init_29 : decode cX9_init 29 = .ok (.return_, 1) := by decide +kernel
noncomputable def E_X9_init : mE := (mX9_init, [(29, [(0, (.aload_n 0, 1, false, false, 0, 0, 0, 0, 0, 0, [])), (1, (.invokespecial 3, 4, false, false, 0, 0, 0, 1, 0, 0, [])), (4, (.aload_n 0, 5, false, false, 0, 0, 0, 0, 0, 0, [])), (5, (.bipush 12, 7, false, false, 0, 0, 0, 0, 12, 0, [])), (7, (.anewarray 9, 10, false, false, 0, 0, 0, 0, 0, 0, [])), (10, (.putfield 11, 13, false, false, 12, 1, 4, 0, 0, 0, [])), (13, (.aload_n 0, 14, false, false, 0, 0, 0, 0, 0, 0, [])), (14, (.bipush 12, 16, false, false, 0, 0, 0, 0, 12, 0, [])), (16, (.newarray .int, 18, false, false, 0, 0, 0, 0, 0, 0, [])), (18, (.putfield 17, 21, false, false, 12, 2, 4, 0, 0, 0, [])), (21, (.aload_n 0, 22, false, false, 0, 0, 0, 0, 0, 0, [])), (22, (.bipush 12, 24, false, false, 0, 0, 0, 0, 12, 0, [])), (24, (.newarray .int, 26, false, false, 0, 0, 0, 0, 0, 0, [])), (26, (.putfield 21, 29, false, false, 12, 3, 4, 0, 0, 0, [])), (29, (.return_, 30, false, false, 0, 0, 0, 0, 0, 0, []))])], 0, [])
set_option maxRecDepth 100000 in
theorem v_X9_init : VE MYT dflT E_X9_init := ⟨⟨⟨⟨⟨dX9_init_0, rfl⟩, rfl⟩, ⟨⟨dX9_init_1, rfl⟩, Or.inr ⟨rfl, oX9_3, o_1, o_2⟩⟩, ⟨⟨dX9_init_4, rfl⟩, rfl⟩, ⟨⟨dX9_init_5, rfl⟩, rfl⟩, ⟨⟨dX9_init_7, rfl⟩, ctX9_9⟩, ⟨⟨dX9_init_10, rfl⟩, Or.inr (Or.inr (Or.inr (Or.inr ⟨rfl, ⟨_, (Or.inr ⟨_, rfl⟩), fX9_11⟩, rfl, rfl⟩)))⟩, ⟨⟨dX9_init_13, rfl⟩, rfl⟩, ⟨⟨dX9_init_14, rfl⟩, rfl⟩, ⟨⟨dX9_init_16, rfl⟩, Or.inl ⟨rfl, rfl, a_int⟩⟩, ⟨⟨dX9_init_18, rfl⟩, Or.inr (Or.inr (Or.inr (Or.inr ⟨rfl, ⟨_, (Or.inr ⟨_, rfl⟩), fX9_17⟩, rfl, rfl⟩)))⟩, ⟨⟨dX9_init_21, rfl⟩, rfl⟩, ⟨⟨dX9_init_22, rfl⟩, rfl⟩, ⟨⟨dX9_init_24, rfl⟩, Or.inl ⟨rfl, rfl, a_int⟩⟩, ⟨⟨dX9_init_26, rfl⟩, Or.inr (Or.inr (Or.inr (Or.inr ⟨rfl, ⟨_, (Or.inr ⟨_, rfl⟩), fX9_21⟩, rfl, rfl⟩)))⟩, ⟨⟨dX9_init_29, rfl⟩, rfl⟩, trivial⟩, trivial⟩, by decide, Or.inl ⟨rfl, by decide, rfl⟩⟩
set_option maxRecDepth 100000 in
theorem g_X9_init_0 (S : sT) (call : cT) (n : Nat) (a0 : Nat) (h : pH) : bd S call dflT E_X9_init (n + 1) 0 [some (.ref a0)] [] h = (mkT h 12 (fun h1 => pF h1 (.ref a0) 12 1 (.ref (List.length h)) (fun h2 => mkI h2 0 12 (fun h3 => pF h3 (.ref a0) 12 2 (.ref (List.length h2)) (fun h4 => mkI h4 0 12 (fun h5 => pF h5 (.ref a0) 12 3 (.ref (List.length h4)) (fun h6 => some (.inl none, h6)))))))) := rfl
theorem dX9_inForce_0 : decode cX9_inForce 0 = .ok (.iconst 0, 1) := by decide +kernel
theorem dX9_inForce_1 : decode cX9_inForce 1 = .ok (.istore_n 2, 1) := by decide +kernel
theorem dX9_inForce_2 : decode cX9_inForce 2 = .ok (.iconst 0, 1) := by decide +kernel
theorem dX9_inForce_3 : decode cX9_inForce 3 = .ok (.istore_n 3, 1) := by decide +kernel
theorem dX9_inForce_4 : decode cX9_inForce 4 = .ok (.iload_n 3, 1) := by decide +kernel
theorem dX9_inForce_5 : decode cX9_inForce 5 = .ok (.aload_n 0, 1) := by decide +kernel
theorem dX9_inForce_6 : decode cX9_inForce 6 = .ok (.getfield 24, 3) := by decide +kernel
theorem dX9_inForce_9 : decode cX9_inForce 9 = .ok (.if_icmp .ge 22, 3) := by decide +kernel
theorem dX9_inForce_12 : decode cX9_inForce 12 = .ok (.aload_n 0, 1) := by decide +kernel
theorem dX9_inForce_13 : decode cX9_inForce 13 = .ok (.getfield 17, 3) := by decide +kernel
theorem dX9_inForce_16 : decode cX9_inForce 16 = .ok (.iload_n 3, 1) := by decide +kernel
theorem dX9_inForce_17 : decode cX9_inForce 17 = .ok (.iaload, 1) := by decide +kernel
theorem dX9_inForce_18 : decode cX9_inForce 18 = .ok (.iload_n 1, 1) := by decide +kernel
theorem dX9_inForce_19 : decode cX9_inForce 19 = .ok (.if_icmp .gt 6, 3) := by decide +kernel
theorem dX9_inForce_22 : decode cX9_inForce 22 = .ok (.iinc 2 1, 3) := by decide +kernel
theorem dX9_inForce_25 : decode cX9_inForce 25 = .ok (.iinc 3 1, 3) := by decide +kernel
theorem dX9_inForce_28 : decode cX9_inForce 28 = .ok (.goto (-24), 3) := by decide +kernel
theorem dX9_inForce_31 : decode cX9_inForce 31 = .ok (.iload_n 2, 1) := by decide +kernel
theorem dX9_inForce_32 : decode cX9_inForce 32 = .ok (.ireturn, 1) := by decide +kernel
noncomputable def E_X9_inForce : mE := (mX9_inForce, [(32, [(0, (.iconst 0, 1, false, false, 0, 0, 0, 0, 0, 0, [])), (1, (.istore_n 2, 2, false, false, 2, 0, 0, 0, 0, 0, [])), (2, (.iconst 0, 3, false, false, 0, 0, 0, 0, 0, 0, [])), (3, (.istore_n 3, 4, true, false, 3, 0, 0, 0, 0, 0, [])), (4, (.iload_n 3, 5, false, false, 3, 0, 0, 0, 0, 0, [])), (5, (.aload_n 0, 6, false, false, 0, 0, 0, 0, 0, 0, [])), (6, (.getfield 24, 9, false, false, 12, 0, 0, 0, 0, 0, [])), (9, (.if_icmp .ge 22, 12, false, false, 31, 0, 0, 0, 0, 0, [])), (12, (.aload_n 0, 13, false, false, 0, 0, 0, 0, 0, 0, [])), (13, (.getfield 17, 16, false, false, 12, 2, 1, 0, 0, 0, [])), (16, (.iload_n 3, 17, false, false, 3, 0, 0, 0, 0, 0, [])), (17, (.iaload, 18, false, false, 0, 0, 0, 0, 0, 0, [])), (18, (.iload_n 1, 19, false, false, 1, 0, 0, 0, 0, 0, [])), (19, (.if_icmp .gt 6, 22, false, false, 25, 0, 0, 0, 0, 0, [])), (22, (.iinc 2 1, 25, false, false, 2, 0, 0, 0, 1, 0, [])), (25, (.iinc 3 1, 28, false, false, 3, 0, 0, 0, 1, 0, [])), (28, (.goto (-24), 31, false, true, 4, 0, 0, 0, 0, 0, [])), (31, (.iload_n 2, 32, false, false, 2, 0, 0, 0, 0, 0, [])), (32, (.ireturn, 33, false, false, 0, 0, 0, 0, 0, 0, []))])], 0, [])
set_option maxRecDepth 100000 in
theorem v_X9_inForce : VE MYT dflT E_X9_inForce := ⟨⟨⟨⟨⟨dX9_inForce_0, rfl⟩, rfl⟩, ⟨⟨dX9_inForce_1, rfl⟩, rfl⟩, ⟨⟨dX9_inForce_2, rfl⟩, rfl⟩, ⟨⟨dX9_inForce_3, rfl⟩, rfl⟩, ⟨⟨dX9_inForce_4, rfl⟩, rfl⟩, ⟨⟨dX9_inForce_5, rfl⟩, rfl⟩, ⟨⟨dX9_inForce_6, rfl⟩, Or.inl ⟨by decide, _, _, fX9_24⟩⟩, ⟨⟨dX9_inForce_9, rfl⟩, rfl⟩, ⟨⟨dX9_inForce_12, rfl⟩, rfl⟩, ⟨⟨dX9_inForce_13, rfl⟩, Or.inl ⟨by decide, _, _, fX9_17⟩⟩, ⟨⟨dX9_inForce_16, rfl⟩, rfl⟩, ⟨⟨dX9_inForce_17, rfl⟩, trivial⟩, ⟨⟨dX9_inForce_18, rfl⟩, rfl⟩, ⟨⟨dX9_inForce_19, rfl⟩, rfl⟩, ⟨⟨dX9_inForce_22, rfl⟩, ⟨rfl, rfl⟩⟩, ⟨⟨dX9_inForce_25, rfl⟩, ⟨rfl, rfl⟩⟩, ⟨⟨dX9_inForce_28, rfl⟩, rfl⟩, ⟨⟨dX9_inForce_31, rfl⟩, rfl⟩, ⟨⟨dX9_inForce_32, rfl⟩, Or.inl ⟨rfl, rfl⟩⟩, trivial⟩, trivial⟩, by decide, Or.inl ⟨rfl, by decide, rfl⟩⟩
set_option maxRecDepth 100000 in
theorem g_X9_inForce_0 (S : sT) (call : cT) (n : Nat) (a0 : Nat) (x1 : Int32) (h : pH) : bd S call dflT E_X9_inForce (n + 1) 0 [some (.ref a0), some (.int x1), none, none] [] h = (bd S call dflT E_X9_inForce n 4 [some (.ref a0), some (.int x1), some (.int 0), some (.int 0)] [] h) := rfl
set_option maxRecDepth 100000 in
theorem g_X9_inForce_4 (S : sT) (call : cT) (n : Nat) (a0 : Nat) (x1 : Int32) (x2 : Int32) (x3 : Int32) (h : pH) : bd S call dflT E_X9_inForce (n + 1) 4 [some (.ref a0), some (.int x1), some (.int x2), some (.int x3)] [] h = (gI h (.ref a0) 12 0 (fun y1 => (if y1 ≤ x3 then some (.inl (some (.int x2)), h) else gV h (.ref a0) 12 2 (fun w2 => aI h w2 0 x3 (fun y3 => (if x1 < y3 then bd S call dflT E_X9_inForce n 4 [some (.ref a0), some (.int x1), some (.int x2), some (.int (x3 + 1))] [] h else bd S call dflT E_X9_inForce n 4 [some (.ref a0), some (.int x1), some (.int (x2 + 1)), some (.int (x3 + 1))] [] h)))))) := rfl
theorem dX9_textAt_0 : decode cX9_textAt 0 = .ok (.iload_n 1, 1) := by decide +kernel
theorem dX9_textAt_1 : decode cX9_textAt 1 = .ok (.ifCond .lt 20, 3) := by decide +kernel
theorem dX9_textAt_4 : decode cX9_textAt 4 = .ok (.iload_n 1, 1) := by decide +kernel
theorem dX9_textAt_5 : decode cX9_textAt 5 = .ok (.aload_n 0, 1) := by decide +kernel
theorem dX9_textAt_6 : decode cX9_textAt 6 = .ok (.getfield 24, 3) := by decide +kernel
theorem dX9_textAt_9 : decode cX9_textAt 9 = .ok (.if_icmp .ge 12, 3) := by decide +kernel
theorem dX9_textAt_12 : decode cX9_textAt 12 = .ok (.aload_n 0, 1) := by decide +kernel
theorem dX9_textAt_13 : decode cX9_textAt 13 = .ok (.getfield 21, 3) := by decide +kernel
theorem dX9_textAt_16 : decode cX9_textAt 16 = .ok (.iload_n 1, 1) := by decide +kernel
theorem dX9_textAt_17 : decode cX9_textAt 17 = .ok (.iaload, 1) := by decide +kernel
theorem dX9_textAt_18 : decode cX9_textAt 18 = .ok (.goto 4, 3) := by decide +kernel
theorem dX9_textAt_21 : decode cX9_textAt 21 = .ok (.iconst 0, 1) := by decide +kernel
theorem dX9_textAt_22 : decode cX9_textAt 22 = .ok (.ireturn, 1) := by decide +kernel
noncomputable def E_X9_textAt : mE := (mX9_textAt, [(22, [(0, (.iload_n 1, 1, false, false, 1, 0, 0, 0, 0, 0, [])), (1, (.ifCond .lt 20, 4, false, false, 21, 0, 0, 0, 0, 0, [])), (4, (.iload_n 1, 5, false, false, 1, 0, 0, 0, 0, 0, [])), (5, (.aload_n 0, 6, false, false, 0, 0, 0, 0, 0, 0, [])), (6, (.getfield 24, 9, false, false, 12, 0, 0, 0, 0, 0, [])), (9, (.if_icmp .ge 12, 12, false, false, 21, 0, 0, 0, 0, 0, [])), (12, (.aload_n 0, 13, false, false, 0, 0, 0, 0, 0, 0, [])), (13, (.getfield 21, 16, false, false, 12, 3, 1, 0, 0, 0, [])), (16, (.iload_n 1, 17, false, false, 1, 0, 0, 0, 0, 0, [])), (17, (.iaload, 18, false, false, 0, 0, 0, 0, 0, 0, [])), (18, (.goto 4, 21, false, false, 22, 0, 0, 0, 0, 0, [])), (21, (.iconst 0, 22, false, false, 0, 0, 0, 0, 0, 0, [])), (22, (.ireturn, 23, false, false, 0, 0, 0, 0, 0, 0, []))])], 0, [])
set_option maxRecDepth 100000 in
theorem v_X9_textAt : VE MYT dflT E_X9_textAt := ⟨⟨⟨⟨⟨dX9_textAt_0, rfl⟩, rfl⟩, ⟨⟨dX9_textAt_1, rfl⟩, rfl⟩, ⟨⟨dX9_textAt_4, rfl⟩, rfl⟩, ⟨⟨dX9_textAt_5, rfl⟩, rfl⟩, ⟨⟨dX9_textAt_6, rfl⟩, Or.inl ⟨by decide, _, _, fX9_24⟩⟩, ⟨⟨dX9_textAt_9, rfl⟩, rfl⟩, ⟨⟨dX9_textAt_12, rfl⟩, rfl⟩, ⟨⟨dX9_textAt_13, rfl⟩, Or.inl ⟨by decide, _, _, fX9_21⟩⟩, ⟨⟨dX9_textAt_16, rfl⟩, rfl⟩, ⟨⟨dX9_textAt_17, rfl⟩, trivial⟩, ⟨⟨dX9_textAt_18, rfl⟩, rfl⟩, ⟨⟨dX9_textAt_21, rfl⟩, rfl⟩, ⟨⟨dX9_textAt_22, rfl⟩, Or.inl ⟨rfl, rfl⟩⟩, trivial⟩, trivial⟩, by decide, Or.inl ⟨rfl, by decide, rfl⟩⟩
set_option maxRecDepth 100000 in
theorem g_X9_textAt_0 (S : sT) (call : cT) (n : Nat) (a0 : Nat) (x1 : Int32) (h : pH) : bd S call dflT E_X9_textAt (n + 1) 0 [some (.ref a0), some (.int x1)] [] h = ((if x1 < 0 then some (.inl (some (.int 0)), h) else gI h (.ref a0) 12 0 (fun y1 => (if y1 ≤ x1 then some (.inl (some (.int 0)), h) else gV h (.ref a0) 12 3 (fun w2 => aI h w2 0 x1 (fun y3 => some (.inl (some (.int y3)), h))))))) := rfl
theorem dX9_lastLine_0 : decode cX9_lastLine 0 = .ok (.aload_n 0, 1) := by decide +kernel
theorem dX9_lastLine_1 : decode cX9_lastLine 1 = .ok (.iload_n 1, 1) := by decide +kernel
theorem dX9_lastLine_2 : decode cX9_lastLine 2 = .ok (.invokevirtual 36, 3) := by decide +kernel
theorem dX9_lastLine_5 : decode cX9_lastLine 5 = .ok (.iconst 1, 1) := by decide +kernel
theorem dX9_lastLine_6 : decode cX9_lastLine 6 = .ok (.isub, 1) := by decide +kernel
theorem dX9_lastLine_7 : decode cX9_lastLine 7 = .ok (.istore 4, 2) := by decide +kernel
theorem dX9_lastLine_9 : decode cX9_lastLine 9 = .ok (.iload 4, 2) := by decide +kernel
theorem dX9_lastLine_11 : decode cX9_lastLine 11 = .ok (.ifCond .lt 78, 3) := by decide +kernel
theorem dX9_lastLine_14 : decode cX9_lastLine 14 = .ok (.aload_n 0, 1) := by decide +kernel
theorem dX9_lastLine_15 : decode cX9_lastLine 15 = .ok (.getfield 11, 3) := by decide +kernel
theorem dX9_lastLine_18 : decode cX9_lastLine 18 = .ok (.aload_n 0, 1) := by decide +kernel
theorem dX9_lastLine_19 : decode cX9_lastLine 19 = .ok (.iload 4, 2) := by decide +kernel
theorem dX9_lastLine_21 : decode cX9_lastLine 21 = .ok (.invokevirtual 28, 3) := by decide +kernel
theorem dX9_lastLine_24 : decode cX9_lastLine 24 = .ok (.aaload, 1) := by decide +kernel
theorem dX9_lastLine_25 : decode cX9_lastLine 25 = .ok (.astore 5, 2) := by decide +kernel
theorem dX9_lastLine_27 : decode cX9_lastLine 27 = .ok (.aload 5, 2) := by decide +kernel
theorem dX9_lastLine_29 : decode cX9_lastLine 29 = .ok (.ifnonnull 7, 3) := by decide +kernel
theorem dX9_lastLine_32 : decode cX9_lastLine 32 = .ok (.iconst (-1), 1) := by decide +kernel
theorem dX9_lastLine_33 : decode cX9_lastLine 33 = .ok (.goto 10, 3) := by decide +kernel
theorem dX9_lastLine_36 : decode cX9_lastLine 36 = .ok (.aload 5, 2) := by decide +kernel
theorem dX9_lastLine_38 : decode cX9_lastLine 38 = .ok (.iload_n 2, 1) := by decide +kernel
theorem dX9_lastLine_39 : decode cX9_lastLine 39 = .ok (.iload_n 3, 1) := by decide +kernel
theorem dX9_lastLine_40 : decode cX9_lastLine 40 = .ok (.invokevirtual 32, 3) := by decide +kernel
theorem dX9_lastLine_43 : decode cX9_lastLine 43 = .ok (.istore 6, 2) := by decide +kernel
theorem dX9_lastLine_45 : decode cX9_lastLine 45 = .ok (.iload 6, 2) := by decide +kernel
theorem dX9_lastLine_47 : decode cX9_lastLine 47 = .ok (.iconst (-1), 1) := by decide +kernel
theorem dX9_lastLine_48 : decode cX9_lastLine 48 = .ok (.if_icmp .eq 16, 3) := by decide +kernel
theorem dX9_lastLine_51 : decode cX9_lastLine 51 = .ok (.bipush 16, 2) := by decide +kernel
theorem dX9_lastLine_53 : decode cX9_lastLine 53 = .ok (.aload_n 0, 1) := by decide +kernel
theorem dX9_lastLine_54 : decode cX9_lastLine 54 = .ok (.iload 4, 2) := by decide +kernel
theorem dX9_lastLine_56 : decode cX9_lastLine 56 = .ok (.invokevirtual 28, 3) := by decide +kernel
theorem dX9_lastLine_59 : decode cX9_lastLine 59 = .ok (.imul, 1) := by decide +kernel
theorem dX9_lastLine_60 : decode cX9_lastLine 60 = .ok (.iload 6, 2) := by decide +kernel
theorem dX9_lastLine_62 : decode cX9_lastLine 62 = .ok (.iadd, 1) := by decide +kernel
theorem dX9_lastLine_63 : decode cX9_lastLine 63 = .ok (.ireturn, 1) := by decide +kernel
theorem dX9_lastLine_64 : decode cX9_lastLine 64 = .ok (.aload 5, 2) := by decide +kernel
theorem dX9_lastLine_66 : decode cX9_lastLine 66 = .ok (.ifnull 17, 3) := by decide +kernel
theorem dX9_lastLine_69 : decode cX9_lastLine 69 = .ok (.aload 5, 2) := by decide +kernel
theorem dX9_lastLine_71 : decode cX9_lastLine 71 = .ok (.bipush 23, 2) := by decide +kernel
theorem dX9_lastLine_73 : decode cX9_lastLine 73 = .ok (.iload_n 2, 1) := by decide +kernel
theorem dX9_lastLine_74 : decode cX9_lastLine 74 = .ok (.invokevirtual 32, 3) := by decide +kernel
theorem dX9_lastLine_77 : decode cX9_lastLine 77 = .ok (.iconst (-1), 1) := by decide +kernel
theorem dX9_lastLine_78 : decode cX9_lastLine 78 = .ok (.if_icmp .eq 5, 3) := by decide +kernel
theorem dX9_lastLine_81 : decode cX9_lastLine 81 = .ok (.iconst (-1), 1) := by decide +kernel
theorem dX9_lastLine_82 : decode cX9_lastLine 82 = .ok (.ireturn, 1) := by decide +kernel
theorem dX9_lastLine_83 : decode cX9_lastLine 83 = .ok (.iinc 4 (-1), 3) := by decide +kernel
theorem dX9_lastLine_86 : decode cX9_lastLine 86 = .ok (.goto (-77), 3) := by decide +kernel
theorem dX9_lastLine_89 : decode cX9_lastLine 89 = .ok (.iconst (-1), 1) := by decide +kernel
theorem dX9_lastLine_90 : decode cX9_lastLine 90 = .ok (.ireturn, 1) := by decide +kernel
noncomputable def E_X9_lastLine : mE := (mX9_lastLine, [(43, [(0, (.aload_n 0, 1, false, false, 0, 0, 0, 0, 0, 0, [])), (1, (.iload_n 1, 2, false, false, 1, 0, 0, 0, 0, 0, [])), (2, (.invokevirtual 36, 5, false, false, 86, 1, 1, 12, 0, 0, [])), (5, (.iconst 1, 6, false, false, 0, 0, 0, 0, 1, 0, [])), (6, (.isub, 7, false, false, 0, 0, 0, 0, 0, 0, [])), (7, (.istore 4, 9, true, false, 4, 0, 0, 0, 0, 0, [])), (9, (.iload 4, 11, false, false, 4, 0, 0, 0, 0, 0, [])), (11, (.ifCond .lt 78, 14, false, false, 89, 0, 0, 0, 0, 0, [])), (14, (.aload_n 0, 15, false, false, 0, 0, 0, 0, 0, 0, [])), (15, (.getfield 11, 18, false, false, 12, 1, 1, 0, 0, 0, [])), (18, (.aload_n 0, 19, false, false, 0, 0, 0, 0, 0, 0, [])), (19, (.iload 4, 21, false, false, 4, 0, 0, 0, 0, 0, [])), (21, (.invokevirtual 28, 24, false, false, 87, 1, 1, 12, 0, 0, [])), (24, (.aaload, 25, false, false, 0, 0, 0, 0, 0, 0, [])), (25, (.astore 5, 27, false, false, 5, 0, 0, 0, 0, 0, [])), (27, (.aload 5, 29, false, false, 5, 0, 0, 0, 0, 0, [])), (29, (.ifnonnull 7, 32, false, false, 36, 0, 0, 0, 0, 0, [])), (32, (.iconst (-1), 33, false, false, 0, 0, 0, 0, -1, 0, [])), (33, (.goto 10, 36, false, true, 43, 0, 0, 0, 0, 0, [])), (36, (.aload 5, 38, false, false, 5, 0, 0, 0, 0, 0, [])), (38, (.iload_n 2, 39, false, false, 2, 0, 0, 0, 0, 0, [])), (39, (.iload_n 3, 40, false, false, 3, 0, 0, 0, 0, 0, [])), (40, (.invokevirtual 32, 43, true, false, 89, 2, 1, 11, 0, 0, [])), (43, (.istore 6, 45, false, false, 6, 0, 0, 0, 0, 0, []))]),
  (89, [(45, (.iload 6, 47, false, false, 6, 0, 0, 0, 0, 0, [])), (47, (.iconst (-1), 48, false, false, 0, 0, 0, 0, -1, 0, [])), (48, (.if_icmp .eq 16, 51, false, false, 64, 0, 0, 0, 0, 0, [])), (51, (.bipush 16, 53, false, false, 0, 0, 0, 0, 16, 0, [])), (53, (.aload_n 0, 54, false, false, 0, 0, 0, 0, 0, 0, [])), (54, (.iload 4, 56, false, false, 4, 0, 0, 0, 0, 0, [])), (56, (.invokevirtual 28, 59, false, false, 87, 1, 1, 12, 0, 0, [])), (59, (.imul, 60, false, false, 0, 0, 0, 0, 0, 0, [])), (60, (.iload 6, 62, false, false, 6, 0, 0, 0, 0, 0, [])), (62, (.iadd, 63, false, false, 0, 0, 0, 0, 0, 0, [])), (63, (.ireturn, 64, false, false, 0, 0, 0, 0, 0, 0, [])), (64, (.aload 5, 66, false, false, 5, 0, 0, 0, 0, 0, [])), (66, (.ifnull 17, 69, false, false, 83, 0, 0, 0, 0, 0, [])), (69, (.aload 5, 71, false, false, 5, 0, 0, 0, 0, 0, [])), (71, (.bipush 23, 73, false, false, 0, 0, 0, 0, 23, 0, [])), (73, (.iload_n 2, 74, false, false, 2, 0, 0, 0, 0, 0, [])), (74, (.invokevirtual 32, 77, false, false, 89, 2, 1, 11, 0, 0, [])), (77, (.iconst (-1), 78, false, false, 0, 0, 0, 0, -1, 0, [])), (78, (.if_icmp .eq 5, 81, false, false, 83, 0, 0, 0, 0, 0, [])), (81, (.iconst (-1), 82, false, false, 0, 0, 0, 0, -1, 0, [])), (82, (.ireturn, 83, false, false, 0, 0, 0, 0, 0, 0, [])), (83, (.iinc 4 (-1), 86, false, false, 4, 0, 0, 0, -1, 0, [])), (86, (.goto (-77), 89, false, true, 9, 0, 0, 0, 0, 0, [])), (89, (.iconst (-1), 90, false, false, 0, 0, 0, 0, -1, 0, []))]),
  (90, [(90, (.ireturn, 91, false, false, 0, 0, 0, 0, 0, 0, []))])], 0, [])
set_option maxRecDepth 100000 in
theorem v_X9_lastLine : VE MYT dflT E_X9_lastLine := ⟨⟨⟨⟨⟨dX9_lastLine_0, rfl⟩, rfl⟩, ⟨⟨dX9_lastLine_1, rfl⟩, rfl⟩, ⟨⟨dX9_lastLine_2, rfl⟩, Or.inr ⟨by decide, ⟨_, my_86, sX9_36⟩, fun q => absurd q (by decide)⟩⟩, ⟨⟨dX9_lastLine_5, rfl⟩, rfl⟩, ⟨⟨dX9_lastLine_6, rfl⟩, trivial⟩, ⟨⟨dX9_lastLine_7, rfl⟩, rfl⟩, ⟨⟨dX9_lastLine_9, rfl⟩, rfl⟩, ⟨⟨dX9_lastLine_11, rfl⟩, rfl⟩, ⟨⟨dX9_lastLine_14, rfl⟩, rfl⟩, ⟨⟨dX9_lastLine_15, rfl⟩, Or.inl ⟨by decide, _, _, fX9_11⟩⟩, ⟨⟨dX9_lastLine_18, rfl⟩, rfl⟩, ⟨⟨dX9_lastLine_19, rfl⟩, rfl⟩, ⟨⟨dX9_lastLine_21, rfl⟩, Or.inr ⟨by decide, ⟨_, my_87, sX9_28⟩, fun q => absurd q (by decide)⟩⟩, ⟨⟨dX9_lastLine_24, rfl⟩, trivial⟩, ⟨⟨dX9_lastLine_25, rfl⟩, rfl⟩, ⟨⟨dX9_lastLine_27, rfl⟩, rfl⟩, ⟨⟨dX9_lastLine_29, rfl⟩, rfl⟩, ⟨⟨dX9_lastLine_32, rfl⟩, rfl⟩, ⟨⟨dX9_lastLine_33, rfl⟩, rfl⟩, ⟨⟨dX9_lastLine_36, rfl⟩, rfl⟩, ⟨⟨dX9_lastLine_38, rfl⟩, rfl⟩, ⟨⟨dX9_lastLine_39, rfl⟩, rfl⟩, ⟨⟨dX9_lastLine_40, rfl⟩, Or.inr ⟨by decide, ⟨_, my_89, sX9_32⟩, fun q => absurd q (by decide)⟩⟩, ⟨⟨dX9_lastLine_43, rfl⟩, rfl⟩, trivial⟩,
  ⟨⟨⟨dX9_lastLine_45, rfl⟩, rfl⟩, ⟨⟨dX9_lastLine_47, rfl⟩, rfl⟩, ⟨⟨dX9_lastLine_48, rfl⟩, rfl⟩, ⟨⟨dX9_lastLine_51, rfl⟩, rfl⟩, ⟨⟨dX9_lastLine_53, rfl⟩, rfl⟩, ⟨⟨dX9_lastLine_54, rfl⟩, rfl⟩, ⟨⟨dX9_lastLine_56, rfl⟩, Or.inr ⟨by decide, ⟨_, my_87, sX9_28⟩, fun q => absurd q (by decide)⟩⟩, ⟨⟨dX9_lastLine_59, rfl⟩, trivial⟩, ⟨⟨dX9_lastLine_60, rfl⟩, rfl⟩, ⟨⟨dX9_lastLine_62, rfl⟩, trivial⟩, ⟨⟨dX9_lastLine_63, rfl⟩, Or.inl ⟨rfl, rfl⟩⟩, ⟨⟨dX9_lastLine_64, rfl⟩, rfl⟩, ⟨⟨dX9_lastLine_66, rfl⟩, rfl⟩, ⟨⟨dX9_lastLine_69, rfl⟩, rfl⟩, ⟨⟨dX9_lastLine_71, rfl⟩, rfl⟩, ⟨⟨dX9_lastLine_73, rfl⟩, rfl⟩, ⟨⟨dX9_lastLine_74, rfl⟩, Or.inr ⟨by decide, ⟨_, my_89, sX9_32⟩, fun q => absurd q (by decide)⟩⟩, ⟨⟨dX9_lastLine_77, rfl⟩, rfl⟩, ⟨⟨dX9_lastLine_78, rfl⟩, rfl⟩, ⟨⟨dX9_lastLine_81, rfl⟩, rfl⟩, ⟨⟨dX9_lastLine_82, rfl⟩, Or.inl ⟨rfl, rfl⟩⟩, ⟨⟨dX9_lastLine_83, rfl⟩, ⟨rfl, rfl⟩⟩, ⟨⟨dX9_lastLine_86, rfl⟩, rfl⟩, ⟨⟨dX9_lastLine_89, rfl⟩, rfl⟩, trivial⟩,
  ⟨⟨⟨dX9_lastLine_90, rfl⟩, Or.inl ⟨rfl, rfl⟩⟩, trivial⟩, trivial⟩, by decide, Or.inl ⟨rfl, by decide, rfl⟩⟩
set_option maxRecDepth 100000 in
theorem g_X9_lastLine_0 (S : sT) (call : cT) (n : Nat) (a0 : Nat) (x1 : Int32) (x2 : Int32) (x3 : Int32) (h : pH) : bd S call dflT E_X9_lastLine (n + 1) 0 [some (.ref a0), some (.int x1), some (.int x2), some (.int x3), none, none, none] [] h = (rC h (.ref a0) 12 (cI (call 86 [.ref a0, .int x1] h) (fun y2 h1 => bd S call dflT E_X9_lastLine n 9 [some (.ref a0), some (.int x1), some (.int x2), some (.int x3), some (.int (y2 - 1)), none, none] [] h1))) := rfl
set_option maxRecDepth 100000 in
theorem g_X9_lastLine_9 (S : sT) (call : cT) (n : Nat) (a0 : Nat) (x1 : Int32) (x2 : Int32) (x3 : Int32) (x4 : Int32) (o5 : Option Value) (o6 : Option Value) (h : pH) : bd S call dflT E_X9_lastLine (n + 1) 9 [some (.ref a0), some (.int x1), some (.int x2), some (.int x3), some (.int x4), o5, o6] [] h = ((if x4 < 0 then some (.inl (some (.int (-1))), h) else gV h (.ref a0) 12 1 (fun w1 => rC h (.ref a0) 12 (cI (call 87 [.ref a0, .int x4] h) (fun y3 h2 => aT h2 w1 y3 (fun w4 => iA w4 (iA w4 (iA w4 (nz w4 (bd S call dflT E_X9_lastLine n 43 [some (.ref a0), some (.int x1), some (.int x2), some (.int x3), some (.int x4), some (w4), o6] [.int (-1)] h2) (iA w4 (rC h2 w4 11 (cI (call 89 [w4, .int x2, .int x3] h2) (fun y6 h5 => bd S call dflT E_X9_lastLine n 43 [some (.ref a0), some (.int x1), some (.int x2), some (.int x3), some (.int x4), some (w4), o6] [.int y6] h5))))))))))))) := rfl
set_option maxRecDepth 100000 in
theorem g_X9_lastLine_43 (S : sT) (call : cT) (n : Nat) (a0 : Nat) (x1 : Int32) (x2 : Int32) (x3 : Int32) (x4 : Int32) (v5 : Value) (o6 : Option Value) (y0 : Int32) (h : pH) : bd S call dflT E_X9_lastLine (n + 1) 43 [some (.ref a0), some (.int x1), some (.int x2), some (.int x3), some (.int x4), some (v5), o6] [.int y0] h = (nl v5 ((if y0 = (-1) then iA v5 (iA v5 (nz v5 (bd S call dflT E_X9_lastLine n 9 [some (.ref a0), some (.int x1), some (.int x2), some (.int x3), some (.int (x4 + (-1))), some (v5), some (.int y0)] [] h) (iA v5 (rC h v5 11 (cI (call 89 [v5, .int 23, .int x2] h) (fun y2 h1 => (if y2 = (-1) then bd S call dflT E_X9_lastLine n 9 [some (.ref a0), some (.int x1), some (.int x2), some (.int x3), some (.int (x4 + (-1))), some (v5), some (.int y0)] [] h1 else some (.inl (some (.int (-1))), h1)))))))) else rC h (.ref a0) 12 (cI (call 87 [.ref a0, .int x4] h) (fun y4 h3 => some (.inl (some (.int ((16 * y4) + y0))), h3)))))) := rfl
theorem dX9_numberIn_0 : decode cX9_numberIn 0 = .ok (.iload_n 1, 1) := by decide +kernel
theorem dX9_numberIn_1 : decode cX9_numberIn 1 = .ok (.ifCond .lt 14, 3) := by decide +kernel
theorem dX9_numberIn_4 : decode cX9_numberIn 4 = .ok (.iload_n 1, 1) := by decide +kernel
theorem dX9_numberIn_5 : decode cX9_numberIn 5 = .ok (.bipush 16, 2) := by decide +kernel
theorem dX9_numberIn_7 : decode cX9_numberIn 7 = .ok (.aload_n 0, 1) := by decide +kernel
theorem dX9_numberIn_8 : decode cX9_numberIn 8 = .ok (.getfield 24, 3) := by decide +kernel
theorem dX9_numberIn_11 : decode cX9_numberIn 11 = .ok (.imul, 1) := by decide +kernel
theorem dX9_numberIn_12 : decode cX9_numberIn 12 = .ok (.if_icmp .lt 5, 3) := by decide +kernel
theorem dX9_numberIn_15 : decode cX9_numberIn 15 = .ok (.iconst 0, 1) := by decide +kernel
theorem dX9_numberIn_16 : decode cX9_numberIn 16 = .ok (.ireturn, 1) := by decide +kernel
theorem dX9_numberIn_17 : decode cX9_numberIn 17 = .ok (.aload_n 0, 1) := by decide +kernel
theorem dX9_numberIn_18 : decode cX9_numberIn 18 = .ok (.getfield 11, 3) := by decide +kernel
theorem dX9_numberIn_21 : decode cX9_numberIn 21 = .ok (.iload_n 1, 1) := by decide +kernel
theorem dX9_numberIn_22 : decode cX9_numberIn 22 = .ok (.bipush 16, 2) := by decide +kernel
theorem dX9_numberIn_24 : decode cX9_numberIn 24 = .ok (.idiv, 1) := by decide +kernel
theorem dX9_numberIn_25 : decode cX9_numberIn 25 = .ok (.aaload, 1) := by decide +kernel
theorem dX9_numberIn_26 : decode cX9_numberIn 26 = .ok (.astore_n 2, 1) := by decide +kernel
theorem dX9_numberIn_27 : decode cX9_numberIn 27 = .ok (.aload_n 2, 1) := by decide +kernel
theorem dX9_numberIn_28 : decode cX9_numberIn 28 = .ok (.ifnonnull 7, 3) := by decide +kernel
theorem dX9_numberIn_31 : decode cX9_numberIn 31 = .ok (.iconst 0, 1) := by decide +kernel
theorem dX9_numberIn_32 : decode cX9_numberIn 32 = .ok (.goto 12, 3) := by decide +kernel
theorem dX9_numberIn_35 : decode cX9_numberIn 35 = .ok (.aload_n 2, 1) := by decide +kernel
theorem dX9_numberIn_36 : decode cX9_numberIn 36 = .ok (.iconst 1, 1) := by decide +kernel
theorem dX9_numberIn_37 : decode cX9_numberIn 37 = .ok (.iload_n 1, 1) := by decide +kernel
theorem dX9_numberIn_38 : decode cX9_numberIn 38 = .ok (.bipush 16, 2) := by decide +kernel
theorem dX9_numberIn_40 : decode cX9_numberIn 40 = .ok (.irem, 1) := by decide +kernel
theorem dX9_numberIn_41 : decode cX9_numberIn 41 = .ok (.invokevirtual 39, 3) := by decide +kernel
theorem dX9_numberIn_44 : decode cX9_numberIn 44 = .ok (.ireturn, 1) := by decide +kernel
noncomputable def E_X9_numberIn : mE := (mX9_numberIn, [(37, [(0, (.iload_n 1, 1, false, false, 1, 0, 0, 0, 0, 0, [])), (1, (.ifCond .lt 14, 4, false, false, 15, 0, 0, 0, 0, 0, [])), (4, (.iload_n 1, 5, false, false, 1, 0, 0, 0, 0, 0, [])), (5, (.bipush 16, 7, false, false, 0, 0, 0, 0, 16, 0, [])), (7, (.aload_n 0, 8, false, false, 0, 0, 0, 0, 0, 0, [])), (8, (.getfield 24, 11, false, false, 12, 0, 0, 0, 0, 0, [])), (11, (.imul, 12, false, false, 0, 0, 0, 0, 0, 0, [])), (12, (.if_icmp .lt 5, 15, false, false, 17, 0, 0, 0, 0, 0, [])), (15, (.iconst 0, 16, false, false, 0, 0, 0, 0, 0, 0, [])), (16, (.ireturn, 17, false, false, 0, 0, 0, 0, 0, 0, [])), (17, (.aload_n 0, 18, false, false, 0, 0, 0, 0, 0, 0, [])), (18, (.getfield 11, 21, false, false, 12, 1, 1, 0, 0, 0, [])), (21, (.iload_n 1, 22, false, false, 1, 0, 0, 0, 0, 0, [])), (22, (.bipush 16, 24, false, false, 0, 0, 0, 0, 16, 0, [])), (24, (.idiv, 25, false, false, 0, 0, 0, 0, 0, 0, [])), (25, (.aaload, 26, false, false, 0, 0, 0, 0, 0, 0, [])), (26, (.astore_n 2, 27, false, false, 2, 0, 0, 0, 0, 0, [])), (27, (.aload_n 2, 28, false, false, 2, 0, 0, 0, 0, 0, [])), (28, (.ifnonnull 7, 31, false, false, 35, 0, 0, 0, 0, 0, [])), (31, (.iconst 0, 32, false, false, 0, 0, 0, 0, 0, 0, [])), (32, (.goto 12, 35, false, false, 44, 0, 0, 0, 0, 0, [])), (35, (.aload_n 2, 36, false, false, 2, 0, 0, 0, 0, 0, [])), (36, (.iconst 1, 37, false, false, 0, 0, 0, 0, 1, 0, [])), (37, (.iload_n 1, 38, false, false, 1, 0, 0, 0, 0, 0, []))]),
  (44, [(38, (.bipush 16, 40, false, false, 0, 0, 0, 0, 16, 0, [])), (40, (.irem, 41, false, false, 0, 0, 0, 0, 0, 0, [])), (41, (.invokevirtual 39, 44, false, false, 88, 2, 1, 11, 0, 0, [])), (44, (.ireturn, 45, false, false, 0, 0, 0, 0, 0, 0, []))])], 0, [])
set_option maxRecDepth 100000 in
theorem v_X9_numberIn : VE MYT dflT E_X9_numberIn := ⟨⟨⟨⟨⟨dX9_numberIn_0, rfl⟩, rfl⟩, ⟨⟨dX9_numberIn_1, rfl⟩, rfl⟩, ⟨⟨dX9_numberIn_4, rfl⟩, rfl⟩, ⟨⟨dX9_numberIn_5, rfl⟩, rfl⟩, ⟨⟨dX9_numberIn_7, rfl⟩, rfl⟩, ⟨⟨dX9_numberIn_8, rfl⟩, Or.inl ⟨by decide, _, _, fX9_24⟩⟩, ⟨⟨dX9_numberIn_11, rfl⟩, trivial⟩, ⟨⟨dX9_numberIn_12, rfl⟩, rfl⟩, ⟨⟨dX9_numberIn_15, rfl⟩, rfl⟩, ⟨⟨dX9_numberIn_16, rfl⟩, Or.inl ⟨rfl, rfl⟩⟩, ⟨⟨dX9_numberIn_17, rfl⟩, rfl⟩, ⟨⟨dX9_numberIn_18, rfl⟩, Or.inl ⟨by decide, _, _, fX9_11⟩⟩, ⟨⟨dX9_numberIn_21, rfl⟩, rfl⟩, ⟨⟨dX9_numberIn_22, rfl⟩, rfl⟩, ⟨⟨dX9_numberIn_24, rfl⟩, trivial⟩, ⟨⟨dX9_numberIn_25, rfl⟩, trivial⟩, ⟨⟨dX9_numberIn_26, rfl⟩, rfl⟩, ⟨⟨dX9_numberIn_27, rfl⟩, rfl⟩, ⟨⟨dX9_numberIn_28, rfl⟩, rfl⟩, ⟨⟨dX9_numberIn_31, rfl⟩, rfl⟩, ⟨⟨dX9_numberIn_32, rfl⟩, rfl⟩, ⟨⟨dX9_numberIn_35, rfl⟩, rfl⟩, ⟨⟨dX9_numberIn_36, rfl⟩, rfl⟩, ⟨⟨dX9_numberIn_37, rfl⟩, rfl⟩, trivial⟩,
  ⟨⟨⟨dX9_numberIn_38, rfl⟩, rfl⟩, ⟨⟨dX9_numberIn_40, rfl⟩, trivial⟩, ⟨⟨dX9_numberIn_41, rfl⟩, Or.inr ⟨by decide, ⟨_, my_88, sX9_39⟩, fun q => absurd q (by decide)⟩⟩, ⟨⟨dX9_numberIn_44, rfl⟩, Or.inl ⟨rfl, rfl⟩⟩, trivial⟩, trivial⟩, by decide, Or.inl ⟨rfl, by decide, rfl⟩⟩
set_option maxRecDepth 100000 in
theorem g_X9_numberIn_0 (S : sT) (call : cT) (n : Nat) (a0 : Nat) (x1 : Int32) (h : pH) : bd S call dflT E_X9_numberIn (n + 1) 0 [some (.ref a0), some (.int x1), none] [] h = ((if x1 < 0 then some (.inl (some (.int 0)), h) else gI h (.ref a0) 12 0 (fun y1 => (if x1 < (16 * y1) then gV h (.ref a0) 12 1 (fun w2 => dv 16 (aT h w2 (x1 / 16) (fun w3 => iA w3 (iA w3 (iA w3 (nz w3 (some (.inl (some (.int 0)), h)) (iA w3 (dv 16 (rC h w3 11 (cI (call 88 [w3, .int 1, .int (x1 - x1 / 16 * 16)] h) (fun y5 h4 => some (.inl (some (.int y5)), h4)))))))))))) else some (.inl (some (.int 0)), h))))) := rfl
theorem dX9_lastStrike_0 : decode cX9_lastStrike 0 = .ok (.iload_n 1, 1) := by decide +kernel
theorem dX9_lastStrike_1 : decode cX9_lastStrike 1 = .ok (.iconst 1, 1) := by decide +kernel
theorem dX9_lastStrike_2 : decode cX9_lastStrike 2 = .ok (.isub, 1) := by decide +kernel
theorem dX9_lastStrike_3 : decode cX9_lastStrike 3 = .ok (.istore_n 3, 1) := by decide +kernel
theorem dX9_lastStrike_4 : decode cX9_lastStrike 4 = .ok (.iload_n 3, 1) := by decide +kernel
theorem dX9_lastStrike_5 : decode cX9_lastStrike 5 = .ok (.ifCond .le 40, 3) := by decide +kernel
theorem dX9_lastStrike_8 : decode cX9_lastStrike 8 = .ok (.aload_n 0, 1) := by decide +kernel
theorem dX9_lastStrike_9 : decode cX9_lastStrike 9 = .ok (.getfield 11, 3) := by decide +kernel
theorem dX9_lastStrike_12 : decode cX9_lastStrike 12 = .ok (.aload_n 0, 1) := by decide +kernel
theorem dX9_lastStrike_13 : decode cX9_lastStrike 13 = .ok (.iload_n 3, 1) := by decide +kernel
theorem dX9_lastStrike_14 : decode cX9_lastStrike 14 = .ok (.invokevirtual 28, 3) := by decide +kernel
theorem dX9_lastStrike_17 : decode cX9_lastStrike 17 = .ok (.aaload, 1) := by decide +kernel
theorem dX9_lastStrike_18 : decode cX9_lastStrike 18 = .ok (.astore 4, 2) := by decide +kernel
theorem dX9_lastStrike_20 : decode cX9_lastStrike 20 = .ok (.aload 4, 2) := by decide +kernel
theorem dX9_lastStrike_22 : decode cX9_lastStrike 22 = .ok (.ifnull 17, 3) := by decide +kernel
theorem dX9_lastStrike_25 : decode cX9_lastStrike 25 = .ok (.aload 4, 2) := by decide +kernel
theorem dX9_lastStrike_27 : decode cX9_lastStrike 27 = .ok (.bipush 23, 2) := by decide +kernel
theorem dX9_lastStrike_29 : decode cX9_lastStrike 29 = .ok (.iload_n 2, 1) := by decide +kernel
theorem dX9_lastStrike_30 : decode cX9_lastStrike 30 = .ok (.invokevirtual 32, 3) := by decide +kernel
theorem dX9_lastStrike_33 : decode cX9_lastStrike 33 = .ok (.iconst (-1), 1) := by decide +kernel
theorem dX9_lastStrike_34 : decode cX9_lastStrike 34 = .ok (.if_icmp .eq 5, 3) := by decide +kernel
theorem dX9_lastStrike_37 : decode cX9_lastStrike 37 = .ok (.iload_n 3, 1) := by decide +kernel
theorem dX9_lastStrike_38 : decode cX9_lastStrike 38 = .ok (.ireturn, 1) := by decide +kernel
theorem dX9_lastStrike_39 : decode cX9_lastStrike 39 = .ok (.iinc 3 (-1), 3) := by decide +kernel
theorem dX9_lastStrike_42 : decode cX9_lastStrike 42 = .ok (.goto (-38), 3) := by decide +kernel
theorem dX9_lastStrike_45 : decode cX9_lastStrike 45 = .ok (.iconst 0, 1) := by decide +kernel
theorem dX9_lastStrike_46 : decode cX9_lastStrike 46 = .ok (.ireturn, 1) := by decide +kernel
noncomputable def E_X9_lastStrike : mE := (mX9_lastStrike, [(39, [(0, (.iload_n 1, 1, false, false, 1, 0, 0, 0, 0, 0, [])), (1, (.iconst 1, 2, false, false, 0, 0, 0, 0, 1, 0, [])), (2, (.isub, 3, false, false, 0, 0, 0, 0, 0, 0, [])), (3, (.istore_n 3, 4, true, false, 3, 0, 0, 0, 0, 0, [])), (4, (.iload_n 3, 5, false, false, 3, 0, 0, 0, 0, 0, [])), (5, (.ifCond .le 40, 8, false, false, 45, 0, 0, 0, 0, 0, [])), (8, (.aload_n 0, 9, false, false, 0, 0, 0, 0, 0, 0, [])), (9, (.getfield 11, 12, false, false, 12, 1, 1, 0, 0, 0, [])), (12, (.aload_n 0, 13, false, false, 0, 0, 0, 0, 0, 0, [])), (13, (.iload_n 3, 14, false, false, 3, 0, 0, 0, 0, 0, [])), (14, (.invokevirtual 28, 17, false, false, 87, 1, 1, 12, 0, 0, [])), (17, (.aaload, 18, false, false, 0, 0, 0, 0, 0, 0, [])), (18, (.astore 4, 20, false, false, 4, 0, 0, 0, 0, 0, [])), (20, (.aload 4, 22, false, false, 4, 0, 0, 0, 0, 0, [])), (22, (.ifnull 17, 25, false, false, 39, 0, 0, 0, 0, 0, [])), (25, (.aload 4, 27, false, false, 4, 0, 0, 0, 0, 0, [])), (27, (.bipush 23, 29, false, false, 0, 0, 0, 0, 23, 0, [])), (29, (.iload_n 2, 30, false, false, 2, 0, 0, 0, 0, 0, [])), (30, (.invokevirtual 32, 33, false, false, 89, 2, 1, 11, 0, 0, [])), (33, (.iconst (-1), 34, false, false, 0, 0, 0, 0, -1, 0, [])), (34, (.if_icmp .eq 5, 37, false, false, 39, 0, 0, 0, 0, 0, [])), (37, (.iload_n 3, 38, false, false, 3, 0, 0, 0, 0, 0, [])), (38, (.ireturn, 39, false, false, 0, 0, 0, 0, 0, 0, [])), (39, (.iinc 3 (-1), 42, false, false, 3, 0, 0, 0, -1, 0, []))]),
  (46, [(42, (.goto (-38), 45, false, true, 4, 0, 0, 0, 0, 0, [])), (45, (.iconst 0, 46, false, false, 0, 0, 0, 0, 0, 0, [])), (46, (.ireturn, 47, false, false, 0, 0, 0, 0, 0, 0, []))])], 0, [])
set_option maxRecDepth 100000 in
theorem v_X9_lastStrike : VE MYT dflT E_X9_lastStrike := ⟨⟨⟨⟨⟨dX9_lastStrike_0, rfl⟩, rfl⟩, ⟨⟨dX9_lastStrike_1, rfl⟩, rfl⟩, ⟨⟨dX9_lastStrike_2, rfl⟩, trivial⟩, ⟨⟨dX9_lastStrike_3, rfl⟩, rfl⟩, ⟨⟨dX9_lastStrike_4, rfl⟩, rfl⟩, ⟨⟨dX9_lastStrike_5, rfl⟩, rfl⟩, ⟨⟨dX9_lastStrike_8, rfl⟩, rfl⟩, ⟨⟨dX9_lastStrike_9, rfl⟩, Or.inl ⟨by decide, _, _, fX9_11⟩⟩, ⟨⟨dX9_lastStrike_12, rfl⟩, rfl⟩, ⟨⟨dX9_lastStrike_13, rfl⟩, rfl⟩, ⟨⟨dX9_lastStrike_14, rfl⟩, Or.inr ⟨by decide, ⟨_, my_87, sX9_28⟩, fun q => absurd q (by decide)⟩⟩, ⟨⟨dX9_lastStrike_17, rfl⟩, trivial⟩, ⟨⟨dX9_lastStrike_18, rfl⟩, rfl⟩, ⟨⟨dX9_lastStrike_20, rfl⟩, rfl⟩, ⟨⟨dX9_lastStrike_22, rfl⟩, rfl⟩, ⟨⟨dX9_lastStrike_25, rfl⟩, rfl⟩, ⟨⟨dX9_lastStrike_27, rfl⟩, rfl⟩, ⟨⟨dX9_lastStrike_29, rfl⟩, rfl⟩, ⟨⟨dX9_lastStrike_30, rfl⟩, Or.inr ⟨by decide, ⟨_, my_89, sX9_32⟩, fun q => absurd q (by decide)⟩⟩, ⟨⟨dX9_lastStrike_33, rfl⟩, rfl⟩, ⟨⟨dX9_lastStrike_34, rfl⟩, rfl⟩, ⟨⟨dX9_lastStrike_37, rfl⟩, rfl⟩, ⟨⟨dX9_lastStrike_38, rfl⟩, Or.inl ⟨rfl, rfl⟩⟩, ⟨⟨dX9_lastStrike_39, rfl⟩, ⟨rfl, rfl⟩⟩, trivial⟩,
  ⟨⟨⟨dX9_lastStrike_42, rfl⟩, rfl⟩, ⟨⟨dX9_lastStrike_45, rfl⟩, rfl⟩, ⟨⟨dX9_lastStrike_46, rfl⟩, Or.inl ⟨rfl, rfl⟩⟩, trivial⟩, trivial⟩, by decide, Or.inl ⟨rfl, by decide, rfl⟩⟩
set_option maxRecDepth 100000 in
theorem g_X9_lastStrike_0 (S : sT) (call : cT) (n : Nat) (a0 : Nat) (x1 : Int32) (x2 : Int32) (h : pH) : bd S call dflT E_X9_lastStrike (n + 1) 0 [some (.ref a0), some (.int x1), some (.int x2), none, none] [] h = (bd S call dflT E_X9_lastStrike n 4 [some (.ref a0), some (.int x1), some (.int x2), some (.int (x1 - 1)), none] [] h) := rfl
set_option maxRecDepth 100000 in
theorem g_X9_lastStrike_4 (S : sT) (call : cT) (n : Nat) (a0 : Nat) (x1 : Int32) (x2 : Int32) (x3 : Int32) (o4 : Option Value) (h : pH) : bd S call dflT E_X9_lastStrike (n + 1) 4 [some (.ref a0), some (.int x1), some (.int x2), some (.int x3), o4] [] h = ((if x3 ≤ 0 then some (.inl (some (.int 0)), h) else gV h (.ref a0) 12 1 (fun w1 => rC h (.ref a0) 12 (cI (call 87 [.ref a0, .int x3] h) (fun y3 h2 => aT h2 w1 y3 (fun w4 => iA w4 (iA w4 (iA w4 (nz w4 (bd S call dflT E_X9_lastStrike n 4 [some (.ref a0), some (.int x1), some (.int x2), some (.int (x3 + (-1))), some (w4)] [] h2) (iA w4 (rC h2 w4 11 (cI (call 89 [w4, .int 23, .int x2] h2) (fun y6 h5 => (if y6 = (-1) then bd S call dflT E_X9_lastStrike n 4 [some (.ref a0), some (.int x1), some (.int x2), some (.int (x3 + (-1))), some (w4)] [] h5 else some (.inl (some (.int x3)), h5))))))))))))))) := rfl
theorem dX9_sumHolding_0 : decode cX9_sumHolding 0 = .ok (.aload_n 0, 1) := by decide +kernel
theorem dX9_sumHolding_1 : decode cX9_sumHolding 1 = .ok (.iload_n 1, 1) := by decide +kernel
theorem dX9_sumHolding_2 : decode cX9_sumHolding 2 = .ok (.invokevirtual 36, 3) := by decide +kernel
theorem dX9_sumHolding_5 : decode cX9_sumHolding 5 = .ok (.istore 4, 2) := by decide +kernel
theorem dX9_sumHolding_7 : decode cX9_sumHolding 7 = .ok (.iconst 0, 1) := by decide +kernel
theorem dX9_sumHolding_8 : decode cX9_sumHolding 8 = .ok (.istore 5, 2) := by decide +kernel
theorem dX9_sumHolding_10 : decode cX9_sumHolding 10 = .ok (.aload_n 0, 1) := by decide +kernel
theorem dX9_sumHolding_11 : decode cX9_sumHolding 11 = .ok (.iload 4, 2) := by decide +kernel
theorem dX9_sumHolding_13 : decode cX9_sumHolding 13 = .ok (.iload_n 2, 1) := by decide +kernel
theorem dX9_sumHolding_14 : decode cX9_sumHolding 14 = .ok (.invokevirtual 42, 3) := by decide +kernel
theorem dX9_sumHolding_17 : decode cX9_sumHolding 17 = .ok (.istore 6, 2) := by decide +kernel
theorem dX9_sumHolding_19 : decode cX9_sumHolding 19 = .ok (.iload 6, 2) := by decide +kernel
theorem dX9_sumHolding_21 : decode cX9_sumHolding 21 = .ok (.iload 4, 2) := by decide +kernel
theorem dX9_sumHolding_23 : decode cX9_sumHolding 23 = .ok (.if_icmp .ge 43, 3) := by decide +kernel
theorem dX9_sumHolding_26 : decode cX9_sumHolding 26 = .ok (.aload_n 0, 1) := by decide +kernel
theorem dX9_sumHolding_27 : decode cX9_sumHolding 27 = .ok (.getfield 11, 3) := by decide +kernel
theorem dX9_sumHolding_30 : decode cX9_sumHolding 30 = .ok (.aload_n 0, 1) := by decide +kernel
theorem dX9_sumHolding_31 : decode cX9_sumHolding 31 = .ok (.iload 6, 2) := by decide +kernel
theorem dX9_sumHolding_33 : decode cX9_sumHolding 33 = .ok (.invokevirtual 28, 3) := by decide +kernel
theorem dX9_sumHolding_36 : decode cX9_sumHolding 36 = .ok (.aaload, 1) := by decide +kernel
theorem dX9_sumHolding_37 : decode cX9_sumHolding 37 = .ok (.astore 7, 2) := by decide +kernel
theorem dX9_sumHolding_39 : decode cX9_sumHolding 39 = .ok (.iload 5, 2) := by decide +kernel
theorem dX9_sumHolding_41 : decode cX9_sumHolding 41 = .ok (.aload 7, 2) := by decide +kernel
theorem dX9_sumHolding_43 : decode cX9_sumHolding 43 = .ok (.ifnonnull 7, 3) := by decide +kernel
theorem dX9_sumHolding_46 : decode cX9_sumHolding 46 = .ok (.iconst 0, 1) := by decide +kernel
theorem dX9_sumHolding_47 : decode cX9_sumHolding 47 = .ok (.goto 10, 3) := by decide +kernel
theorem dX9_sumHolding_50 : decode cX9_sumHolding 50 = .ok (.aload 7, 2) := by decide +kernel
theorem dX9_sumHolding_52 : decode cX9_sumHolding 52 = .ok (.iload_n 2, 1) := by decide +kernel
theorem dX9_sumHolding_53 : decode cX9_sumHolding 53 = .ok (.aload_n 3, 1) := by decide +kernel
theorem dX9_sumHolding_54 : decode cX9_sumHolding 54 = .ok (.invokevirtual 49, 3) := by decide +kernel
theorem dX9_sumHolding_57 : decode cX9_sumHolding 57 = .ok (.iadd, 1) := by decide +kernel
theorem dX9_sumHolding_58 : decode cX9_sumHolding 58 = .ok (.istore 5, 2) := by decide +kernel
theorem dX9_sumHolding_60 : decode cX9_sumHolding 60 = .ok (.iinc 6 1, 3) := by decide +kernel
theorem dX9_sumHolding_63 : decode cX9_sumHolding 63 = .ok (.goto (-44), 3) := by decide +kernel
theorem dX9_sumHolding_66 : decode cX9_sumHolding 66 = .ok (.iload 5, 2) := by decide +kernel
theorem dX9_sumHolding_68 : decode cX9_sumHolding 68 = .ok (.ireturn, 1) := by decide +kernel
noncomputable def E_X9_sumHolding : mE := (mX9_sumHolding, [(43, [(0, (.aload_n 0, 1, false, false, 0, 0, 0, 0, 0, 0, [])), (1, (.iload_n 1, 2, false, false, 1, 0, 0, 0, 0, 0, [])), (2, (.invokevirtual 36, 5, false, false, 86, 1, 1, 12, 0, 0, [])), (5, (.istore 4, 7, false, false, 4, 0, 0, 0, 0, 0, [])), (7, (.iconst 0, 8, false, false, 0, 0, 0, 0, 0, 0, [])), (8, (.istore 5, 10, false, false, 5, 0, 0, 0, 0, 0, [])), (10, (.aload_n 0, 11, false, false, 0, 0, 0, 0, 0, 0, [])), (11, (.iload 4, 13, false, false, 4, 0, 0, 0, 0, 0, [])), (13, (.iload_n 2, 14, false, false, 2, 0, 0, 0, 0, 0, [])), (14, (.invokevirtual 42, 17, false, false, 218, 2, 1, 12, 0, 0, [])), (17, (.istore 6, 19, true, false, 6, 0, 0, 0, 0, 0, [])), (19, (.iload 6, 21, false, false, 6, 0, 0, 0, 0, 0, [])), (21, (.iload 4, 23, false, false, 4, 0, 0, 0, 0, 0, [])), (23, (.if_icmp .ge 43, 26, false, false, 66, 0, 0, 0, 0, 0, [])), (26, (.aload_n 0, 27, false, false, 0, 0, 0, 0, 0, 0, [])), (27, (.getfield 11, 30, false, false, 12, 1, 1, 0, 0, 0, [])), (30, (.aload_n 0, 31, false, false, 0, 0, 0, 0, 0, 0, [])), (31, (.iload 6, 33, false, false, 6, 0, 0, 0, 0, 0, [])), (33, (.invokevirtual 28, 36, false, false, 87, 1, 1, 12, 0, 0, [])), (36, (.aaload, 37, false, false, 0, 0, 0, 0, 0, 0, [])), (37, (.astore 7, 39, false, false, 7, 0, 0, 0, 0, 0, [])), (39, (.iload 5, 41, false, false, 5, 0, 0, 0, 0, 0, [])), (41, (.aload 7, 43, false, false, 7, 0, 0, 0, 0, 0, [])), (43, (.ifnonnull 7, 46, false, false, 50, 0, 0, 0, 0, 0, []))]),
  (68, [(46, (.iconst 0, 47, false, false, 0, 0, 0, 0, 0, 0, [])), (47, (.goto 10, 50, false, false, 57, 0, 0, 0, 0, 0, [])), (50, (.aload 7, 52, false, false, 7, 0, 0, 0, 0, 0, [])), (52, (.iload_n 2, 53, false, false, 2, 0, 0, 0, 0, 0, [])), (53, (.aload_n 3, 54, false, false, 3, 0, 0, 0, 0, 0, [])), (54, (.invokevirtual 49, 57, false, false, 200, 2, 1, 11, 0, 0, [])), (57, (.iadd, 58, false, false, 0, 0, 0, 0, 0, 0, [])), (58, (.istore 5, 60, false, false, 5, 0, 0, 0, 0, 0, [])), (60, (.iinc 6 1, 63, false, false, 6, 0, 0, 0, 1, 0, [])), (63, (.goto (-44), 66, false, true, 19, 0, 0, 0, 0, 0, [])), (66, (.iload 5, 68, false, false, 5, 0, 0, 0, 0, 0, [])), (68, (.ireturn, 69, false, false, 0, 0, 0, 0, 0, 0, []))])], 0, [])
set_option maxRecDepth 100000 in
theorem v_X9_sumHolding : VE MYT dflT E_X9_sumHolding := ⟨⟨⟨⟨⟨dX9_sumHolding_0, rfl⟩, rfl⟩, ⟨⟨dX9_sumHolding_1, rfl⟩, rfl⟩, ⟨⟨dX9_sumHolding_2, rfl⟩, Or.inr ⟨by decide, ⟨_, my_86, sX9_36⟩, fun q => absurd q (by decide)⟩⟩, ⟨⟨dX9_sumHolding_5, rfl⟩, rfl⟩, ⟨⟨dX9_sumHolding_7, rfl⟩, rfl⟩, ⟨⟨dX9_sumHolding_8, rfl⟩, rfl⟩, ⟨⟨dX9_sumHolding_10, rfl⟩, rfl⟩, ⟨⟨dX9_sumHolding_11, rfl⟩, rfl⟩, ⟨⟨dX9_sumHolding_13, rfl⟩, rfl⟩, ⟨⟨dX9_sumHolding_14, rfl⟩, Or.inr ⟨by decide, ⟨_, my_218, sX9_42⟩, fun q => absurd q (by decide)⟩⟩, ⟨⟨dX9_sumHolding_17, rfl⟩, rfl⟩, ⟨⟨dX9_sumHolding_19, rfl⟩, rfl⟩, ⟨⟨dX9_sumHolding_21, rfl⟩, rfl⟩, ⟨⟨dX9_sumHolding_23, rfl⟩, rfl⟩, ⟨⟨dX9_sumHolding_26, rfl⟩, rfl⟩, ⟨⟨dX9_sumHolding_27, rfl⟩, Or.inl ⟨by decide, _, _, fX9_11⟩⟩, ⟨⟨dX9_sumHolding_30, rfl⟩, rfl⟩, ⟨⟨dX9_sumHolding_31, rfl⟩, rfl⟩, ⟨⟨dX9_sumHolding_33, rfl⟩, Or.inr ⟨by decide, ⟨_, my_87, sX9_28⟩, fun q => absurd q (by decide)⟩⟩, ⟨⟨dX9_sumHolding_36, rfl⟩, trivial⟩, ⟨⟨dX9_sumHolding_37, rfl⟩, rfl⟩, ⟨⟨dX9_sumHolding_39, rfl⟩, rfl⟩, ⟨⟨dX9_sumHolding_41, rfl⟩, rfl⟩, ⟨⟨dX9_sumHolding_43, rfl⟩, rfl⟩, trivial⟩,
  ⟨⟨⟨dX9_sumHolding_46, rfl⟩, rfl⟩, ⟨⟨dX9_sumHolding_47, rfl⟩, rfl⟩, ⟨⟨dX9_sumHolding_50, rfl⟩, rfl⟩, ⟨⟨dX9_sumHolding_52, rfl⟩, rfl⟩, ⟨⟨dX9_sumHolding_53, rfl⟩, rfl⟩, ⟨⟨dX9_sumHolding_54, rfl⟩, Or.inr ⟨by decide, ⟨_, my_200, sX9_49⟩, fun q => absurd q (by decide)⟩⟩, ⟨⟨dX9_sumHolding_57, rfl⟩, trivial⟩, ⟨⟨dX9_sumHolding_58, rfl⟩, rfl⟩, ⟨⟨dX9_sumHolding_60, rfl⟩, ⟨rfl, rfl⟩⟩, ⟨⟨dX9_sumHolding_63, rfl⟩, rfl⟩, ⟨⟨dX9_sumHolding_66, rfl⟩, rfl⟩, ⟨⟨dX9_sumHolding_68, rfl⟩, Or.inl ⟨rfl, rfl⟩⟩, trivial⟩, trivial⟩, by decide, Or.inl ⟨rfl, by decide, rfl⟩⟩
set_option maxRecDepth 100000 in
theorem g_X9_sumHolding_0 (S : sT) (call : cT) (n : Nat) (a0 : Nat) (x1 : Int32) (x2 : Int32) (v3 : Value) (h : pH) : bd S call dflT E_X9_sumHolding (n + 1) 0 [some (.ref a0), some (.int x1), some (.int x2), some (v3), none, none, none, none] [] h = (rC h (.ref a0) 12 (cI (call 86 [.ref a0, .int x1] h) (fun y2 h1 => nl v3 (rC h1 (.ref a0) 12 (cI (call 218 [.ref a0, .int y2, .int x2] h1) (fun y4 h3 => bd S call dflT E_X9_sumHolding n 19 [some (.ref a0), some (.int x1), some (.int x2), some (v3), some (.int y2), some (.int 0), some (.int y4), none] [] h3)))))) := rfl
set_option maxRecDepth 100000 in
theorem g_X9_sumHolding_19 (S : sT) (call : cT) (n : Nat) (a0 : Nat) (x1 : Int32) (x2 : Int32) (v3 : Value) (x4 : Int32) (x5 : Int32) (x6 : Int32) (o7 : Option Value) (h : pH) : bd S call dflT E_X9_sumHolding (n + 1) 19 [some (.ref a0), some (.int x1), some (.int x2), some (v3), some (.int x4), some (.int x5), some (.int x6), o7] [] h = ((if x4 ≤ x6 then some (.inl (some (.int x5)), h) else gV h (.ref a0) 12 1 (fun w1 => rC h (.ref a0) 12 (cI (call 87 [.ref a0, .int x6] h) (fun y3 h2 => aT h2 w1 y3 (fun w4 => iA w4 (iA w4 (iA w4 (nz w4 (bd S call dflT E_X9_sumHolding n 19 [some (.ref a0), some (.int x1), some (.int x2), some (v3), some (.int x4), some (.int (x5 + 0)), some (.int (x6 + 1)), some (w4)] [] h2) (iA w4 (iA v3 (rC h2 w4 11 (cI (call 200 [w4, .int x2, v3] h2) (fun y6 h5 => bd S call dflT E_X9_sumHolding n 19 [some (.ref a0), some (.int x1), some (.int x2), some (v3), some (.int x4), some (.int (x5 + y6)), some (.int (x6 + 1)), some (w4)] [] h5)))))))))))))) := rfl
theorem dX9_add_0 : decode cX9_add 0 = .ok (.aload_n 0, 1) := by decide +kernel
theorem dX9_add_1 : decode cX9_add 1 = .ok (.getfield 24, 3) := by decide +kernel
theorem dX9_add_4 : decode cX9_add 4 = .ok (.bipush 12, 2) := by decide +kernel
theorem dX9_add_6 : decode cX9_add 6 = .ok (.if_icmp .lt 4, 3) := by decide +kernel
theorem dX9_add_9 : decode cX9_add 9 = .ok (.return_, 1) := by decide +kernel
theorem dX9_add_10 : decode cX9_add 10 = .ok (.aload_n 0, 1) := by decide +kernel
theorem dX9_add_11 : decode cX9_add 11 = .ok (.getfield 24, 3) := by decide +kernel
theorem dX9_add_14 : decode cX9_add 14 = .ok (.istore_n 3, 1) := by decide +kernel
theorem dX9_add_15 : decode cX9_add 15 = .ok (.iload_n 3, 1) := by decide +kernel
theorem dX9_add_16 : decode cX9_add 16 = .ok (.ifCond .le 39, 3) := by decide +kernel
theorem dX9_add_19 : decode cX9_add 19 = .ok (.aload_n 0, 1) := by decide +kernel
theorem dX9_add_20 : decode cX9_add 20 = .ok (.getfield 17, 3) := by decide +kernel
theorem dX9_add_23 : decode cX9_add 23 = .ok (.aload_n 0, 1) := by decide +kernel
theorem dX9_add_24 : decode cX9_add 24 = .ok (.iload_n 3, 1) := by decide +kernel
theorem dX9_add_25 : decode cX9_add 25 = .ok (.iconst 1, 1) := by decide +kernel
theorem dX9_add_26 : decode cX9_add 26 = .ok (.isub, 1) := by decide +kernel
theorem dX9_add_27 : decode cX9_add 27 = .ok (.invokevirtual 28, 3) := by decide +kernel
theorem dX9_add_30 : decode cX9_add 30 = .ok (.iaload, 1) := by decide +kernel
theorem dX9_add_31 : decode cX9_add 31 = .ok (.iload_n 2, 1) := by decide +kernel
theorem dX9_add_32 : decode cX9_add 32 = .ok (.if_icmp .le 23, 3) := by decide +kernel
theorem dX9_add_35 : decode cX9_add 35 = .ok (.aload_n 0, 1) := by decide +kernel
theorem dX9_add_36 : decode cX9_add 36 = .ok (.getfield 21, 3) := by decide +kernel
theorem dX9_add_39 : decode cX9_add 39 = .ok (.iload_n 3, 1) := by decide +kernel
theorem dX9_add_40 : decode cX9_add 40 = .ok (.aload_n 0, 1) := by decide +kernel
theorem dX9_add_41 : decode cX9_add 41 = .ok (.getfield 21, 3) := by decide +kernel
theorem dX9_add_44 : decode cX9_add 44 = .ok (.iload_n 3, 1) := by decide +kernel
theorem dX9_add_45 : decode cX9_add 45 = .ok (.iconst 1, 1) := by decide +kernel
theorem dX9_add_46 : decode cX9_add 46 = .ok (.isub, 1) := by decide +kernel
theorem dX9_add_47 : decode cX9_add 47 = .ok (.iaload, 1) := by decide +kernel
theorem dX9_add_48 : decode cX9_add 48 = .ok (.iastore, 1) := by decide +kernel
theorem dX9_add_49 : decode cX9_add 49 = .ok (.iinc 3 (-1), 3) := by decide +kernel
theorem dX9_add_52 : decode cX9_add 52 = .ok (.goto (-37), 3) := by decide +kernel
theorem dX9_add_55 : decode cX9_add 55 = .ok (.aload_n 0, 1) := by decide +kernel
theorem dX9_add_56 : decode cX9_add 56 = .ok (.getfield 21, 3) := by decide +kernel
theorem dX9_add_59 : decode cX9_add 59 = .ok (.iload_n 3, 1) := by decide +kernel
theorem dX9_add_60 : decode cX9_add 60 = .ok (.aload_n 0, 1) := by decide +kernel
theorem dX9_add_61 : decode cX9_add 61 = .ok (.getfield 24, 3) := by decide +kernel
theorem dX9_add_64 : decode cX9_add 64 = .ok (.iastore, 1) := by decide +kernel
theorem dX9_add_65 : decode cX9_add 65 = .ok (.aload_n 0, 1) := by decide +kernel
theorem dX9_add_66 : decode cX9_add 66 = .ok (.getfield 17, 3) := by decide +kernel
theorem dX9_add_69 : decode cX9_add 69 = .ok (.aload_n 0, 1) := by decide +kernel
theorem dX9_add_70 : decode cX9_add 70 = .ok (.getfield 24, 3) := by decide +kernel
theorem dX9_add_73 : decode cX9_add 73 = .ok (.iload_n 2, 1) := by decide +kernel
theorem dX9_add_74 : decode cX9_add 74 = .ok (.iastore, 1) := by decide +kernel
theorem dX9_add_75 : decode cX9_add 75 = .ok (.aload_n 0, 1) := by decide +kernel
theorem dX9_add_76 : decode cX9_add 76 = .ok (.getfield 11, 3) := by decide +kernel
theorem dX9_add_79 : decode cX9_add 79 = .ok (.aload_n 0, 1) := by decide +kernel
theorem dX9_add_80 : decode cX9_add 80 = .ok (.getfield 24, 3) := by decide +kernel
theorem dX9_add_83 : decode cX9_add 83 = .ok (.aload_n 1, 1) := by decide +kernel
theorem dX9_add_84 : decode cX9_add 84 = .ok (.aastore, 1) := by decide +kernel
theorem dX9_add_85 : decode cX9_add 85 = .ok (.aload_n 0, 1) := by decide +kernel
theorem dX9_add_86 : decode cX9_add 86 = .ok (.dup, 1) := by decide +kernel
theorem dX9_add_87 : decode cX9_add 87 = .ok (.getfield 24, 3) := by decide +kernel
theorem dX9_add_90 : decode cX9_add 90 = .ok (.iconst 1, 1) := by decide +kernel
theorem dX9_add_91 : decode cX9_add 91 = .ok (.iadd, 1) := by decide +kernel
theorem dX9_add_92 : decode cX9_add 92 = .ok (.putfield 24, 3) := by decide +kernel
theorem dX9_add_95 : decode cX9_add 95 = .ok (.return_, 1) := by decide +kernel
noncomputable def E_X9_add : mE := (mX9_add, [(40, [(0, (.aload_n 0, 1, false, false, 0, 0, 0, 0, 0, 0, [])), (1, (.getfield 24, 4, false, false, 12, 0, 0, 0, 0, 0, [])), (4, (.bipush 12, 6, false, false, 0, 0, 0, 0, 12, 0, [])), (6, (.if_icmp .lt 4, 9, false, false, 10, 0, 0, 0, 0, 0, [])), (9, (.return_, 10, false, false, 0, 0, 0, 0, 0, 0, [])), (10, (.aload_n 0, 11, false, false, 0, 0, 0, 0, 0, 0, [])), (11, (.getfield 24, 14, false, false, 12, 0, 0, 0, 0, 0, [])), (14, (.istore_n 3, 15, true, false, 3, 0, 0, 0, 0, 0, [])), (15, (.iload_n 3, 16, false, false, 3, 0, 0, 0, 0, 0, [])), (16, (.ifCond .le 39, 19, false, true, 55, 0, 0, 0, 0, 0, [])), (19, (.aload_n 0, 20, false, false, 0, 0, 0, 0, 0, 0, [])), (20, (.getfield 17, 23, false, false, 12, 2, 1, 0, 0, 0, [])), (23, (.aload_n 0, 24, false, false, 0, 0, 0, 0, 0, 0, [])), (24, (.iload_n 3, 25, false, false, 3, 0, 0, 0, 0, 0, [])), (25, (.iconst 1, 26, false, false, 0, 0, 0, 0, 1, 0, [])), (26, (.isub, 27, false, false, 0, 0, 0, 0, 0, 0, [])), (27, (.invokevirtual 28, 30, false, false, 87, 1, 1, 12, 0, 0, [])), (30, (.iaload, 31, false, false, 0, 0, 0, 0, 0, 0, [])), (31, (.iload_n 2, 32, false, false, 2, 0, 0, 0, 0, 0, [])), (32, (.if_icmp .le 23, 35, false, true, 55, 0, 0, 0, 0, 0, [])), (35, (.aload_n 0, 36, false, false, 0, 0, 0, 0, 0, 0, [])), (36, (.getfield 21, 39, false, false, 12, 3, 1, 0, 0, 0, [])), (39, (.iload_n 3, 40, false, false, 3, 0, 0, 0, 0, 0, [])), (40, (.aload_n 0, 41, false, false, 0, 0, 0, 0, 0, 0, []))]),
  (80, [(41, (.getfield 21, 44, false, false, 12, 3, 1, 0, 0, 0, [])), (44, (.iload_n 3, 45, false, false, 3, 0, 0, 0, 0, 0, [])), (45, (.iconst 1, 46, false, false, 0, 0, 0, 0, 1, 0, [])), (46, (.isub, 47, false, false, 0, 0, 0, 0, 0, 0, [])), (47, (.iaload, 48, false, false, 0, 0, 0, 0, 0, 0, [])), (48, (.iastore, 49, false, false, 0, 0, 0, 0, 0, 0, [])), (49, (.iinc 3 (-1), 52, false, false, 3, 0, 0, 0, -1, 0, [])), (52, (.goto (-37), 55, false, true, 15, 0, 0, 0, 0, 0, [])), (55, (.aload_n 0, 56, false, false, 0, 0, 0, 0, 0, 0, [])), (56, (.getfield 21, 59, false, false, 12, 3, 1, 0, 0, 0, [])), (59, (.iload_n 3, 60, false, false, 3, 0, 0, 0, 0, 0, [])), (60, (.aload_n 0, 61, false, false, 0, 0, 0, 0, 0, 0, [])), (61, (.getfield 24, 64, false, false, 12, 0, 0, 0, 0, 0, [])), (64, (.iastore, 65, false, false, 0, 0, 0, 0, 0, 0, [])), (65, (.aload_n 0, 66, false, false, 0, 0, 0, 0, 0, 0, [])), (66, (.getfield 17, 69, false, false, 12, 2, 1, 0, 0, 0, [])), (69, (.aload_n 0, 70, false, false, 0, 0, 0, 0, 0, 0, [])), (70, (.getfield 24, 73, false, false, 12, 0, 0, 0, 0, 0, [])), (73, (.iload_n 2, 74, false, false, 2, 0, 0, 0, 0, 0, [])), (74, (.iastore, 75, false, false, 0, 0, 0, 0, 0, 0, [])), (75, (.aload_n 0, 76, false, false, 0, 0, 0, 0, 0, 0, [])), (76, (.getfield 11, 79, false, false, 12, 1, 1, 0, 0, 0, [])), (79, (.aload_n 0, 80, false, false, 0, 0, 0, 0, 0, 0, [])), (80, (.getfield 24, 83, false, false, 12, 0, 0, 0, 0, 0, []))]),
  (95, [(83, (.aload_n 1, 84, false, false, 1, 0, 0, 0, 0, 0, [])), (84, (.aastore, 85, false, false, 0, 0, 0, 0, 0, 0, [])), (85, (.aload_n 0, 86, false, false, 0, 0, 0, 0, 0, 0, [])), (86, (.dup, 87, false, false, 0, 0, 0, 0, 0, 0, [])), (87, (.getfield 24, 90, false, false, 12, 0, 0, 0, 0, 0, [])), (90, (.iconst 1, 91, false, false, 0, 0, 0, 0, 1, 0, [])), (91, (.iadd, 92, false, false, 0, 0, 0, 0, 0, 0, [])), (92, (.putfield 24, 95, false, false, 12, 0, 0, 0, 0, 0, [])), (95, (.return_, 96, false, false, 0, 0, 0, 0, 0, 0, []))])], 0, [])
set_option maxRecDepth 100000 in
theorem v_X9_add : VE MYT dflT E_X9_add := ⟨⟨⟨⟨⟨dX9_add_0, rfl⟩, rfl⟩, ⟨⟨dX9_add_1, rfl⟩, Or.inl ⟨by decide, _, _, fX9_24⟩⟩, ⟨⟨dX9_add_4, rfl⟩, rfl⟩, ⟨⟨dX9_add_6, rfl⟩, rfl⟩, ⟨⟨dX9_add_9, rfl⟩, rfl⟩, ⟨⟨dX9_add_10, rfl⟩, rfl⟩, ⟨⟨dX9_add_11, rfl⟩, Or.inl ⟨by decide, _, _, fX9_24⟩⟩, ⟨⟨dX9_add_14, rfl⟩, rfl⟩, ⟨⟨dX9_add_15, rfl⟩, rfl⟩, ⟨⟨dX9_add_16, rfl⟩, rfl⟩, ⟨⟨dX9_add_19, rfl⟩, rfl⟩, ⟨⟨dX9_add_20, rfl⟩, Or.inl ⟨by decide, _, _, fX9_17⟩⟩, ⟨⟨dX9_add_23, rfl⟩, rfl⟩, ⟨⟨dX9_add_24, rfl⟩, rfl⟩, ⟨⟨dX9_add_25, rfl⟩, rfl⟩, ⟨⟨dX9_add_26, rfl⟩, trivial⟩, ⟨⟨dX9_add_27, rfl⟩, Or.inr ⟨by decide, ⟨_, my_87, sX9_28⟩, fun q => absurd q (by decide)⟩⟩, ⟨⟨dX9_add_30, rfl⟩, trivial⟩, ⟨⟨dX9_add_31, rfl⟩, rfl⟩, ⟨⟨dX9_add_32, rfl⟩, rfl⟩, ⟨⟨dX9_add_35, rfl⟩, rfl⟩, ⟨⟨dX9_add_36, rfl⟩, Or.inl ⟨by decide, _, _, fX9_21⟩⟩, ⟨⟨dX9_add_39, rfl⟩, rfl⟩, ⟨⟨dX9_add_40, rfl⟩, rfl⟩, trivial⟩,
  ⟨⟨⟨dX9_add_41, rfl⟩, Or.inl ⟨by decide, _, _, fX9_21⟩⟩, ⟨⟨dX9_add_44, rfl⟩, rfl⟩, ⟨⟨dX9_add_45, rfl⟩, rfl⟩, ⟨⟨dX9_add_46, rfl⟩, trivial⟩, ⟨⟨dX9_add_47, rfl⟩, trivial⟩, ⟨⟨dX9_add_48, rfl⟩, trivial⟩, ⟨⟨dX9_add_49, rfl⟩, ⟨rfl, rfl⟩⟩, ⟨⟨dX9_add_52, rfl⟩, rfl⟩, ⟨⟨dX9_add_55, rfl⟩, rfl⟩, ⟨⟨dX9_add_56, rfl⟩, Or.inl ⟨by decide, _, _, fX9_21⟩⟩, ⟨⟨dX9_add_59, rfl⟩, rfl⟩, ⟨⟨dX9_add_60, rfl⟩, rfl⟩, ⟨⟨dX9_add_61, rfl⟩, Or.inl ⟨by decide, _, _, fX9_24⟩⟩, ⟨⟨dX9_add_64, rfl⟩, trivial⟩, ⟨⟨dX9_add_65, rfl⟩, rfl⟩, ⟨⟨dX9_add_66, rfl⟩, Or.inl ⟨by decide, _, _, fX9_17⟩⟩, ⟨⟨dX9_add_69, rfl⟩, rfl⟩, ⟨⟨dX9_add_70, rfl⟩, Or.inl ⟨by decide, _, _, fX9_24⟩⟩, ⟨⟨dX9_add_73, rfl⟩, rfl⟩, ⟨⟨dX9_add_74, rfl⟩, trivial⟩, ⟨⟨dX9_add_75, rfl⟩, rfl⟩, ⟨⟨dX9_add_76, rfl⟩, Or.inl ⟨by decide, _, _, fX9_11⟩⟩, ⟨⟨dX9_add_79, rfl⟩, rfl⟩, ⟨⟨dX9_add_80, rfl⟩, Or.inl ⟨by decide, _, _, fX9_24⟩⟩, trivial⟩,
  ⟨⟨⟨dX9_add_83, rfl⟩, rfl⟩, ⟨⟨dX9_add_84, rfl⟩, trivial⟩, ⟨⟨dX9_add_85, rfl⟩, rfl⟩, ⟨⟨dX9_add_86, rfl⟩, trivial⟩, ⟨⟨dX9_add_87, rfl⟩, Or.inl ⟨by decide, _, _, fX9_24⟩⟩, ⟨⟨dX9_add_90, rfl⟩, rfl⟩, ⟨⟨dX9_add_91, rfl⟩, trivial⟩, ⟨⟨dX9_add_92, rfl⟩, Or.inl ⟨rfl, fX9_24⟩⟩, ⟨⟨dX9_add_95, rfl⟩, rfl⟩, trivial⟩, trivial⟩, by decide, Or.inl ⟨rfl, by decide, rfl⟩⟩
set_option maxRecDepth 100000 in
theorem g_X9_add_0 (S : sT) (call : cT) (n : Nat) (a0 : Nat) (v1 : Value) (x2 : Int32) (h : pH) : bd S call dflT E_X9_add (n + 1) 0 [some (.ref a0), some (v1), some (.int x2), none] [] h = (gI h (.ref a0) 12 0 (fun y1 => (if y1 < 12 then gI h (.ref a0) 12 0 (fun y2 => bd S call dflT E_X9_add n 15 [some (.ref a0), some (v1), some (.int x2), some (.int y2)] [] h) else some (.inl none, h)))) := rfl
set_option maxRecDepth 100000 in
theorem g_X9_add_15 (S : sT) (call : cT) (n : Nat) (a0 : Nat) (v1 : Value) (x2 : Int32) (x3 : Int32) (h : pH) : bd S call dflT E_X9_add (n + 1) 15 [some (.ref a0), some (v1), some (.int x2), some (.int x3)] [] h = ((if x3 ≤ 0 then bd S call dflT E_X9_add n 55 [some (.ref a0), some (v1), some (.int x2), some (.int x3)] [] h else gV h (.ref a0) 12 2 (fun w1 => rC h (.ref a0) 12 (cI (call 87 [.ref a0, .int (x3 - 1)] h) (fun y3 h2 => aI h2 w1 0 y3 (fun y4 => (if y4 ≤ x2 then bd S call dflT E_X9_add n 55 [some (.ref a0), some (v1), some (.int x2), some (.int x3)] [] h2 else gV h2 (.ref a0) 12 3 (fun w5 => gV h2 (.ref a0) 12 3 (fun w6 => aI h2 w6 0 (x3 - 1) (fun y7 => sI h2 w5 0 x3 y7 (fun h8 => bd S call dflT E_X9_add n 15 [some (.ref a0), some (v1), some (.int x2), some (.int (x3 + (-1)))] [] h8))))))))))) := rfl
set_option maxRecDepth 100000 in
theorem g_X9_add_55 (S : sT) (call : cT) (n : Nat) (a0 : Nat) (v1 : Value) (x2 : Int32) (x3 : Int32) (h : pH) : bd S call dflT E_X9_add (n + 1) 55 [some (.ref a0), some (v1), some (.int x2), some (.int x3)] [] h = (gV h (.ref a0) 12 3 (fun w1 => gI h (.ref a0) 12 0 (fun y2 => sI h w1 0 x3 y2 (fun h3 => gV h3 (.ref a0) 12 2 (fun w4 => gI h3 (.ref a0) 12 0 (fun y5 => sI h3 w4 0 y5 x2 (fun h6 => gV h6 (.ref a0) 12 1 (fun w7 => gI h6 (.ref a0) 12 0 (fun y8 => iA v1 (sTx h6 w7 y8 v1 (fun h9 => gI h9 (.ref a0) 12 0 (fun y10 => pF h9 (.ref a0) 12 0 (.int (y10 + 1)) (fun h11 => some (.inl none, h11)))))))))))))) := rfl
theorem dX9_firstHolding_0 : decode cX9_firstHolding 0 = .ok (.aload_n 0, 1) := by decide +kernel
theorem dX9_firstHolding_1 : decode cX9_firstHolding 1 = .ok (.iload_n 1, 1) := by decide +kernel
theorem dX9_firstHolding_2 : decode cX9_firstHolding 2 = .ok (.invokevirtual 36, 3) := by decide +kernel
theorem dX9_firstHolding_5 : decode cX9_firstHolding 5 = .ok (.istore 4, 2) := by decide +kernel
theorem dX9_firstHolding_7 : decode cX9_firstHolding 7 = .ok (.aload_n 0, 1) := by decide +kernel
theorem dX9_firstHolding_8 : decode cX9_firstHolding 8 = .ok (.iload 4, 2) := by decide +kernel
theorem dX9_firstHolding_10 : decode cX9_firstHolding 10 = .ok (.iload_n 2, 1) := by decide +kernel
theorem dX9_firstHolding_11 : decode cX9_firstHolding 11 = .ok (.invokevirtual 42, 3) := by decide +kernel
theorem dX9_firstHolding_14 : decode cX9_firstHolding 14 = .ok (.istore 5, 2) := by decide +kernel
theorem dX9_firstHolding_16 : decode cX9_firstHolding 16 = .ok (.iload 5, 2) := by decide +kernel
theorem dX9_firstHolding_18 : decode cX9_firstHolding 18 = .ok (.iload 4, 2) := by decide +kernel
theorem dX9_firstHolding_20 : decode cX9_firstHolding 20 = .ok (.if_icmp .ge 59, 3) := by decide +kernel
theorem dX9_firstHolding_23 : decode cX9_firstHolding 23 = .ok (.aload_n 0, 1) := by decide +kernel
theorem dX9_firstHolding_24 : decode cX9_firstHolding 24 = .ok (.getfield 11, 3) := by decide +kernel
theorem dX9_firstHolding_27 : decode cX9_firstHolding 27 = .ok (.aload_n 0, 1) := by decide +kernel
theorem dX9_firstHolding_28 : decode cX9_firstHolding 28 = .ok (.iload 5, 2) := by decide +kernel
theorem dX9_firstHolding_30 : decode cX9_firstHolding 30 = .ok (.invokevirtual 28, 3) := by decide +kernel
theorem dX9_firstHolding_33 : decode cX9_firstHolding 33 = .ok (.aaload, 1) := by decide +kernel
theorem dX9_firstHolding_34 : decode cX9_firstHolding 34 = .ok (.astore 6, 2) := by decide +kernel
theorem dX9_firstHolding_36 : decode cX9_firstHolding 36 = .ok (.aload 6, 2) := by decide +kernel
theorem dX9_firstHolding_38 : decode cX9_firstHolding 38 = .ok (.ifnonnull 7, 3) := by decide +kernel
theorem dX9_firstHolding_41 : decode cX9_firstHolding 41 = .ok (.iconst (-1), 1) := by decide +kernel
theorem dX9_firstHolding_42 : decode cX9_firstHolding 42 = .ok (.goto 10, 3) := by decide +kernel
theorem dX9_firstHolding_45 : decode cX9_firstHolding 45 = .ok (.aload 6, 2) := by decide +kernel
theorem dX9_firstHolding_47 : decode cX9_firstHolding 47 = .ok (.iload_n 2, 1) := by decide +kernel
theorem dX9_firstHolding_48 : decode cX9_firstHolding 48 = .ok (.aload_n 3, 1) := by decide +kernel
theorem dX9_firstHolding_49 : decode cX9_firstHolding 49 = .ok (.invokevirtual 45, 3) := by decide +kernel
theorem dX9_firstHolding_52 : decode cX9_firstHolding 52 = .ok (.istore 7, 2) := by decide +kernel
theorem dX9_firstHolding_54 : decode cX9_firstHolding 54 = .ok (.iload 7, 2) := by decide +kernel
theorem dX9_firstHolding_56 : decode cX9_firstHolding 56 = .ok (.iconst (-1), 1) := by decide +kernel
theorem dX9_firstHolding_57 : decode cX9_firstHolding 57 = .ok (.if_icmp .eq 16, 3) := by decide +kernel
theorem dX9_firstHolding_60 : decode cX9_firstHolding 60 = .ok (.bipush 16, 2) := by decide +kernel
theorem dX9_firstHolding_62 : decode cX9_firstHolding 62 = .ok (.aload_n 0, 1) := by decide +kernel
theorem dX9_firstHolding_63 : decode cX9_firstHolding 63 = .ok (.iload 5, 2) := by decide +kernel
theorem dX9_firstHolding_65 : decode cX9_firstHolding 65 = .ok (.invokevirtual 28, 3) := by decide +kernel
theorem dX9_firstHolding_68 : decode cX9_firstHolding 68 = .ok (.imul, 1) := by decide +kernel
theorem dX9_firstHolding_69 : decode cX9_firstHolding 69 = .ok (.iload 7, 2) := by decide +kernel
theorem dX9_firstHolding_71 : decode cX9_firstHolding 71 = .ok (.iadd, 1) := by decide +kernel
theorem dX9_firstHolding_72 : decode cX9_firstHolding 72 = .ok (.ireturn, 1) := by decide +kernel
theorem dX9_firstHolding_73 : decode cX9_firstHolding 73 = .ok (.iinc 5 1, 3) := by decide +kernel
theorem dX9_firstHolding_76 : decode cX9_firstHolding 76 = .ok (.goto (-60), 3) := by decide +kernel
theorem dX9_firstHolding_79 : decode cX9_firstHolding 79 = .ok (.iconst (-1), 1) := by decide +kernel
theorem dX9_firstHolding_80 : decode cX9_firstHolding 80 = .ok (.ireturn, 1) := by decide +kernel
noncomputable def E_X9_firstHolding : mE := (mX9_firstHolding, [(45, [(0, (.aload_n 0, 1, false, false, 0, 0, 0, 0, 0, 0, [])), (1, (.iload_n 1, 2, false, false, 1, 0, 0, 0, 0, 0, [])), (2, (.invokevirtual 36, 5, false, false, 86, 1, 1, 12, 0, 0, [])), (5, (.istore 4, 7, false, false, 4, 0, 0, 0, 0, 0, [])), (7, (.aload_n 0, 8, false, false, 0, 0, 0, 0, 0, 0, [])), (8, (.iload 4, 10, false, false, 4, 0, 0, 0, 0, 0, [])), (10, (.iload_n 2, 11, false, false, 2, 0, 0, 0, 0, 0, [])), (11, (.invokevirtual 42, 14, false, false, 218, 2, 1, 12, 0, 0, [])), (14, (.istore 5, 16, true, false, 5, 0, 0, 0, 0, 0, [])), (16, (.iload 5, 18, false, false, 5, 0, 0, 0, 0, 0, [])), (18, (.iload 4, 20, false, false, 4, 0, 0, 0, 0, 0, [])), (20, (.if_icmp .ge 59, 23, false, false, 79, 0, 0, 0, 0, 0, [])), (23, (.aload_n 0, 24, false, false, 0, 0, 0, 0, 0, 0, [])), (24, (.getfield 11, 27, false, false, 12, 1, 1, 0, 0, 0, [])), (27, (.aload_n 0, 28, false, false, 0, 0, 0, 0, 0, 0, [])), (28, (.iload 5, 30, false, false, 5, 0, 0, 0, 0, 0, [])), (30, (.invokevirtual 28, 33, false, false, 87, 1, 1, 12, 0, 0, [])), (33, (.aaload, 34, false, false, 0, 0, 0, 0, 0, 0, [])), (34, (.astore 6, 36, false, false, 6, 0, 0, 0, 0, 0, [])), (36, (.aload 6, 38, false, false, 6, 0, 0, 0, 0, 0, [])), (38, (.ifnonnull 7, 41, false, false, 45, 0, 0, 0, 0, 0, [])), (41, (.iconst (-1), 42, false, false, 0, 0, 0, 0, -1, 0, [])), (42, (.goto 10, 45, false, true, 52, 0, 0, 0, 0, 0, [])), (45, (.aload 6, 47, false, false, 6, 0, 0, 0, 0, 0, []))]),
  (80, [(47, (.iload_n 2, 48, false, false, 2, 0, 0, 0, 0, 0, [])), (48, (.aload_n 3, 49, false, false, 3, 0, 0, 0, 0, 0, [])), (49, (.invokevirtual 45, 52, true, false, 284, 2, 1, 11, 0, 0, [])), (52, (.istore 7, 54, false, false, 7, 0, 0, 0, 0, 0, [])), (54, (.iload 7, 56, false, false, 7, 0, 0, 0, 0, 0, [])), (56, (.iconst (-1), 57, false, false, 0, 0, 0, 0, -1, 0, [])), (57, (.if_icmp .eq 16, 60, false, false, 73, 0, 0, 0, 0, 0, [])), (60, (.bipush 16, 62, false, false, 0, 0, 0, 0, 16, 0, [])), (62, (.aload_n 0, 63, false, false, 0, 0, 0, 0, 0, 0, [])), (63, (.iload 5, 65, false, false, 5, 0, 0, 0, 0, 0, [])), (65, (.invokevirtual 28, 68, false, false, 87, 1, 1, 12, 0, 0, [])), (68, (.imul, 69, false, false, 0, 0, 0, 0, 0, 0, [])), (69, (.iload 7, 71, false, false, 7, 0, 0, 0, 0, 0, [])), (71, (.iadd, 72, false, false, 0, 0, 0, 0, 0, 0, [])), (72, (.ireturn, 73, false, false, 0, 0, 0, 0, 0, 0, [])), (73, (.iinc 5 1, 76, false, false, 5, 0, 0, 0, 1, 0, [])), (76, (.goto (-60), 79, false, true, 16, 0, 0, 0, 0, 0, [])), (79, (.iconst (-1), 80, false, false, 0, 0, 0, 0, -1, 0, [])), (80, (.ireturn, 81, false, false, 0, 0, 0, 0, 0, 0, []))])], 0, [])
set_option maxRecDepth 100000 in
theorem v_X9_firstHolding : VE MYT dflT E_X9_firstHolding := ⟨⟨⟨⟨⟨dX9_firstHolding_0, rfl⟩, rfl⟩, ⟨⟨dX9_firstHolding_1, rfl⟩, rfl⟩, ⟨⟨dX9_firstHolding_2, rfl⟩, Or.inr ⟨by decide, ⟨_, my_86, sX9_36⟩, fun q => absurd q (by decide)⟩⟩, ⟨⟨dX9_firstHolding_5, rfl⟩, rfl⟩, ⟨⟨dX9_firstHolding_7, rfl⟩, rfl⟩, ⟨⟨dX9_firstHolding_8, rfl⟩, rfl⟩, ⟨⟨dX9_firstHolding_10, rfl⟩, rfl⟩, ⟨⟨dX9_firstHolding_11, rfl⟩, Or.inr ⟨by decide, ⟨_, my_218, sX9_42⟩, fun q => absurd q (by decide)⟩⟩, ⟨⟨dX9_firstHolding_14, rfl⟩, rfl⟩, ⟨⟨dX9_firstHolding_16, rfl⟩, rfl⟩, ⟨⟨dX9_firstHolding_18, rfl⟩, rfl⟩, ⟨⟨dX9_firstHolding_20, rfl⟩, rfl⟩, ⟨⟨dX9_firstHolding_23, rfl⟩, rfl⟩, ⟨⟨dX9_firstHolding_24, rfl⟩, Or.inl ⟨by decide, _, _, fX9_11⟩⟩, ⟨⟨dX9_firstHolding_27, rfl⟩, rfl⟩, ⟨⟨dX9_firstHolding_28, rfl⟩, rfl⟩, ⟨⟨dX9_firstHolding_30, rfl⟩, Or.inr ⟨by decide, ⟨_, my_87, sX9_28⟩, fun q => absurd q (by decide)⟩⟩, ⟨⟨dX9_firstHolding_33, rfl⟩, trivial⟩, ⟨⟨dX9_firstHolding_34, rfl⟩, rfl⟩, ⟨⟨dX9_firstHolding_36, rfl⟩, rfl⟩, ⟨⟨dX9_firstHolding_38, rfl⟩, rfl⟩, ⟨⟨dX9_firstHolding_41, rfl⟩, rfl⟩, ⟨⟨dX9_firstHolding_42, rfl⟩, rfl⟩, ⟨⟨dX9_firstHolding_45, rfl⟩, rfl⟩, trivial⟩,
  ⟨⟨⟨dX9_firstHolding_47, rfl⟩, rfl⟩, ⟨⟨dX9_firstHolding_48, rfl⟩, rfl⟩, ⟨⟨dX9_firstHolding_49, rfl⟩, Or.inr ⟨by decide, ⟨_, my_284, sX9_45⟩, fun q => absurd q (by decide)⟩⟩, ⟨⟨dX9_firstHolding_52, rfl⟩, rfl⟩, ⟨⟨dX9_firstHolding_54, rfl⟩, rfl⟩, ⟨⟨dX9_firstHolding_56, rfl⟩, rfl⟩, ⟨⟨dX9_firstHolding_57, rfl⟩, rfl⟩, ⟨⟨dX9_firstHolding_60, rfl⟩, rfl⟩, ⟨⟨dX9_firstHolding_62, rfl⟩, rfl⟩, ⟨⟨dX9_firstHolding_63, rfl⟩, rfl⟩, ⟨⟨dX9_firstHolding_65, rfl⟩, Or.inr ⟨by decide, ⟨_, my_87, sX9_28⟩, fun q => absurd q (by decide)⟩⟩, ⟨⟨dX9_firstHolding_68, rfl⟩, trivial⟩, ⟨⟨dX9_firstHolding_69, rfl⟩, rfl⟩, ⟨⟨dX9_firstHolding_71, rfl⟩, trivial⟩, ⟨⟨dX9_firstHolding_72, rfl⟩, Or.inl ⟨rfl, rfl⟩⟩, ⟨⟨dX9_firstHolding_73, rfl⟩, ⟨rfl, rfl⟩⟩, ⟨⟨dX9_firstHolding_76, rfl⟩, rfl⟩, ⟨⟨dX9_firstHolding_79, rfl⟩, rfl⟩, ⟨⟨dX9_firstHolding_80, rfl⟩, Or.inl ⟨rfl, rfl⟩⟩, trivial⟩, trivial⟩, by decide, Or.inl ⟨rfl, by decide, rfl⟩⟩
set_option maxRecDepth 100000 in
theorem g_X9_firstHolding_0 (S : sT) (call : cT) (n : Nat) (a0 : Nat) (x1 : Int32) (x2 : Int32) (v3 : Value) (h : pH) : bd S call dflT E_X9_firstHolding (n + 1) 0 [some (.ref a0), some (.int x1), some (.int x2), some (v3), none, none, none, none] [] h = (rC h (.ref a0) 12 (cI (call 86 [.ref a0, .int x1] h) (fun y2 h1 => nl v3 (rC h1 (.ref a0) 12 (cI (call 218 [.ref a0, .int y2, .int x2] h1) (fun y4 h3 => bd S call dflT E_X9_firstHolding n 16 [some (.ref a0), some (.int x1), some (.int x2), some (v3), some (.int y2), some (.int y4), none, none] [] h3)))))) := rfl
set_option maxRecDepth 100000 in
theorem g_X9_firstHolding_16 (S : sT) (call : cT) (n : Nat) (a0 : Nat) (x1 : Int32) (x2 : Int32) (v3 : Value) (x4 : Int32) (x5 : Int32) (o6 : Option Value) (o7 : Option Value) (h : pH) : bd S call dflT E_X9_firstHolding (n + 1) 16 [some (.ref a0), some (.int x1), some (.int x2), some (v3), some (.int x4), some (.int x5), o6, o7] [] h = ((if x4 ≤ x5 then some (.inl (some (.int (-1))), h) else gV h (.ref a0) 12 1 (fun w1 => rC h (.ref a0) 12 (cI (call 87 [.ref a0, .int x5] h) (fun y3 h2 => aT h2 w1 y3 (fun w4 => iA w4 (iA w4 (iA w4 (nz w4 (bd S call dflT E_X9_firstHolding n 52 [some (.ref a0), some (.int x1), some (.int x2), some (v3), some (.int x4), some (.int x5), some (w4), o7] [.int (-1)] h2) (iA w4 (iA v3 (rC h2 w4 11 (cI (call 284 [w4, .int x2, v3] h2) (fun y6 h5 => bd S call dflT E_X9_firstHolding n 52 [some (.ref a0), some (.int x1), some (.int x2), some (v3), some (.int x4), some (.int x5), some (w4), o7] [.int y6] h5)))))))))))))) := rfl
set_option maxRecDepth 100000 in
theorem g_X9_firstHolding_52 (S : sT) (call : cT) (n : Nat) (a0 : Nat) (x1 : Int32) (x2 : Int32) (v3 : Value) (x4 : Int32) (x5 : Int32) (v6 : Value) (o7 : Option Value) (y0 : Int32) (h : pH) : bd S call dflT E_X9_firstHolding (n + 1) 52 [some (.ref a0), some (.int x1), some (.int x2), some (v3), some (.int x4), some (.int x5), some (v6), o7] [.int y0] h = (nl v6 ((if y0 = (-1) then bd S call dflT E_X9_firstHolding n 16 [some (.ref a0), some (.int x1), some (.int x2), some (v3), some (.int x4), some (.int (x5 + 1)), some (v6), some (.int y0)] [] h else rC h (.ref a0) 12 (cI (call 87 [.ref a0, .int x5] h) (fun y2 h1 => some (.inl (some (.int ((16 * y2) + y0))), h1)))))) := rfl
theorem dX9_copyFrom_0 : decode cX9_copyFrom 0 = .ok (.aload_n 0, 1) := by decide +kernel
theorem dX9_copyFrom_1 : decode cX9_copyFrom 1 = .ok (.aload_n 1, 1) := by decide +kernel
theorem dX9_copyFrom_2 : decode cX9_copyFrom 2 = .ok (.getfield 24, 3) := by decide +kernel
theorem dX9_copyFrom_5 : decode cX9_copyFrom 5 = .ok (.putfield 24, 3) := by decide +kernel
theorem dX9_copyFrom_8 : decode cX9_copyFrom 8 = .ok (.iconst 0, 1) := by decide +kernel
theorem dX9_copyFrom_9 : decode cX9_copyFrom 9 = .ok (.istore_n 2, 1) := by decide +kernel
theorem dX9_copyFrom_10 : decode cX9_copyFrom 10 = .ok (.iload_n 2, 1) := by decide +kernel
theorem dX9_copyFrom_11 : decode cX9_copyFrom 11 = .ok (.bipush 12, 2) := by decide +kernel
theorem dX9_copyFrom_13 : decode cX9_copyFrom 13 = .ok (.if_icmp .ge 45, 3) := by decide +kernel
theorem dX9_copyFrom_16 : decode cX9_copyFrom 16 = .ok (.aload_n 0, 1) := by decide +kernel
theorem dX9_copyFrom_17 : decode cX9_copyFrom 17 = .ok (.getfield 11, 3) := by decide +kernel
theorem dX9_copyFrom_20 : decode cX9_copyFrom 20 = .ok (.iload_n 2, 1) := by decide +kernel
theorem dX9_copyFrom_21 : decode cX9_copyFrom 21 = .ok (.aload_n 1, 1) := by decide +kernel
theorem dX9_copyFrom_22 : decode cX9_copyFrom 22 = .ok (.getfield 11, 3) := by decide +kernel
theorem dX9_copyFrom_25 : decode cX9_copyFrom 25 = .ok (.iload_n 2, 1) := by decide +kernel
theorem dX9_copyFrom_26 : decode cX9_copyFrom 26 = .ok (.aaload, 1) := by decide +kernel
theorem dX9_copyFrom_27 : decode cX9_copyFrom 27 = .ok (.aastore, 1) := by decide +kernel
theorem dX9_copyFrom_28 : decode cX9_copyFrom 28 = .ok (.aload_n 0, 1) := by decide +kernel
theorem dX9_copyFrom_29 : decode cX9_copyFrom 29 = .ok (.getfield 17, 3) := by decide +kernel
theorem dX9_copyFrom_32 : decode cX9_copyFrom 32 = .ok (.iload_n 2, 1) := by decide +kernel
theorem dX9_copyFrom_33 : decode cX9_copyFrom 33 = .ok (.aload_n 1, 1) := by decide +kernel
theorem dX9_copyFrom_34 : decode cX9_copyFrom 34 = .ok (.getfield 17, 3) := by decide +kernel
theorem dX9_copyFrom_37 : decode cX9_copyFrom 37 = .ok (.iload_n 2, 1) := by decide +kernel
theorem dX9_copyFrom_38 : decode cX9_copyFrom 38 = .ok (.iaload, 1) := by decide +kernel
theorem dX9_copyFrom_39 : decode cX9_copyFrom 39 = .ok (.iastore, 1) := by decide +kernel
theorem dX9_copyFrom_40 : decode cX9_copyFrom 40 = .ok (.aload_n 0, 1) := by decide +kernel
theorem dX9_copyFrom_41 : decode cX9_copyFrom 41 = .ok (.getfield 21, 3) := by decide +kernel
theorem dX9_copyFrom_44 : decode cX9_copyFrom 44 = .ok (.iload_n 2, 1) := by decide +kernel
theorem dX9_copyFrom_45 : decode cX9_copyFrom 45 = .ok (.aload_n 1, 1) := by decide +kernel
theorem dX9_copyFrom_46 : decode cX9_copyFrom 46 = .ok (.getfield 21, 3) := by decide +kernel
theorem dX9_copyFrom_49 : decode cX9_copyFrom 49 = .ok (.iload_n 2, 1) := by decide +kernel
theorem dX9_copyFrom_50 : decode cX9_copyFrom 50 = .ok (.iaload, 1) := by decide +kernel
theorem dX9_copyFrom_51 : decode cX9_copyFrom 51 = .ok (.iastore, 1) := by decide +kernel
theorem dX9_copyFrom_52 : decode cX9_copyFrom 52 = .ok (.iinc 2 1, 3) := by decide +kernel
theorem dX9_copyFrom_55 : decode cX9_copyFrom 55 = .ok (.goto (-45), 3) := by decide +kernel
theorem dX9_copyFrom_58 : decode cX9_copyFrom 58 = .ok (.return_, 1) := by decide +kernel
noncomputable def E_X9_copyFrom : mE := (mX9_copyFrom, [(38, [(0, (.aload_n 0, 1, false, false, 0, 0, 0, 0, 0, 0, [])), (1, (.aload_n 1, 2, false, false, 1, 0, 0, 0, 0, 0, [])), (2, (.getfield 24, 5, false, false, 12, 0, 0, 0, 0, 0, [])), (5, (.putfield 24, 8, false, false, 12, 0, 0, 0, 0, 0, [])), (8, (.iconst 0, 9, false, false, 0, 0, 0, 0, 0, 0, [])), (9, (.istore_n 2, 10, true, false, 2, 0, 0, 0, 0, 0, [])), (10, (.iload_n 2, 11, false, false, 2, 0, 0, 0, 0, 0, [])), (11, (.bipush 12, 13, false, false, 0, 0, 0, 0, 12, 0, [])), (13, (.if_icmp .ge 45, 16, false, false, 58, 0, 0, 0, 0, 0, [])), (16, (.aload_n 0, 17, false, false, 0, 0, 0, 0, 0, 0, [])), (17, (.getfield 11, 20, false, false, 12, 1, 1, 0, 0, 0, [])), (20, (.iload_n 2, 21, false, false, 2, 0, 0, 0, 0, 0, [])), (21, (.aload_n 1, 22, false, false, 1, 0, 0, 0, 0, 0, [])), (22, (.getfield 11, 25, false, false, 12, 1, 1, 0, 0, 0, [])), (25, (.iload_n 2, 26, false, false, 2, 0, 0, 0, 0, 0, [])), (26, (.aaload, 27, false, false, 0, 0, 0, 0, 0, 0, [])), (27, (.aastore, 28, false, false, 0, 0, 0, 0, 0, 0, [])), (28, (.aload_n 0, 29, false, false, 0, 0, 0, 0, 0, 0, [])), (29, (.getfield 17, 32, false, false, 12, 2, 1, 0, 0, 0, [])), (32, (.iload_n 2, 33, false, false, 2, 0, 0, 0, 0, 0, [])), (33, (.aload_n 1, 34, false, false, 1, 0, 0, 0, 0, 0, [])), (34, (.getfield 17, 37, false, false, 12, 2, 1, 0, 0, 0, [])), (37, (.iload_n 2, 38, false, false, 2, 0, 0, 0, 0, 0, [])), (38, (.iaload, 39, false, false, 0, 0, 0, 0, 0, 0, []))]),
  (58, [(39, (.iastore, 40, false, false, 0, 0, 0, 0, 0, 0, [])), (40, (.aload_n 0, 41, false, false, 0, 0, 0, 0, 0, 0, [])), (41, (.getfield 21, 44, false, false, 12, 3, 1, 0, 0, 0, [])), (44, (.iload_n 2, 45, false, false, 2, 0, 0, 0, 0, 0, [])), (45, (.aload_n 1, 46, false, false, 1, 0, 0, 0, 0, 0, [])), (46, (.getfield 21, 49, false, false, 12, 3, 1, 0, 0, 0, [])), (49, (.iload_n 2, 50, false, false, 2, 0, 0, 0, 0, 0, [])), (50, (.iaload, 51, false, false, 0, 0, 0, 0, 0, 0, [])), (51, (.iastore, 52, false, false, 0, 0, 0, 0, 0, 0, [])), (52, (.iinc 2 1, 55, false, false, 2, 0, 0, 0, 1, 0, [])), (55, (.goto (-45), 58, false, true, 10, 0, 0, 0, 0, 0, [])), (58, (.return_, 59, false, false, 0, 0, 0, 0, 0, 0, []))])], 0, [])
set_option maxRecDepth 100000 in
theorem v_X9_copyFrom : VE MYT dflT E_X9_copyFrom := ⟨⟨⟨⟨⟨dX9_copyFrom_0, rfl⟩, rfl⟩, ⟨⟨dX9_copyFrom_1, rfl⟩, rfl⟩, ⟨⟨dX9_copyFrom_2, rfl⟩, Or.inl ⟨by decide, _, _, fX9_24⟩⟩, ⟨⟨dX9_copyFrom_5, rfl⟩, Or.inl ⟨rfl, fX9_24⟩⟩, ⟨⟨dX9_copyFrom_8, rfl⟩, rfl⟩, ⟨⟨dX9_copyFrom_9, rfl⟩, rfl⟩, ⟨⟨dX9_copyFrom_10, rfl⟩, rfl⟩, ⟨⟨dX9_copyFrom_11, rfl⟩, rfl⟩, ⟨⟨dX9_copyFrom_13, rfl⟩, rfl⟩, ⟨⟨dX9_copyFrom_16, rfl⟩, rfl⟩, ⟨⟨dX9_copyFrom_17, rfl⟩, Or.inl ⟨by decide, _, _, fX9_11⟩⟩, ⟨⟨dX9_copyFrom_20, rfl⟩, rfl⟩, ⟨⟨dX9_copyFrom_21, rfl⟩, rfl⟩, ⟨⟨dX9_copyFrom_22, rfl⟩, Or.inl ⟨by decide, _, _, fX9_11⟩⟩, ⟨⟨dX9_copyFrom_25, rfl⟩, rfl⟩, ⟨⟨dX9_copyFrom_26, rfl⟩, trivial⟩, ⟨⟨dX9_copyFrom_27, rfl⟩, trivial⟩, ⟨⟨dX9_copyFrom_28, rfl⟩, rfl⟩, ⟨⟨dX9_copyFrom_29, rfl⟩, Or.inl ⟨by decide, _, _, fX9_17⟩⟩, ⟨⟨dX9_copyFrom_32, rfl⟩, rfl⟩, ⟨⟨dX9_copyFrom_33, rfl⟩, rfl⟩, ⟨⟨dX9_copyFrom_34, rfl⟩, Or.inl ⟨by decide, _, _, fX9_17⟩⟩, ⟨⟨dX9_copyFrom_37, rfl⟩, rfl⟩, ⟨⟨dX9_copyFrom_38, rfl⟩, trivial⟩, trivial⟩,
  ⟨⟨⟨dX9_copyFrom_39, rfl⟩, trivial⟩, ⟨⟨dX9_copyFrom_40, rfl⟩, rfl⟩, ⟨⟨dX9_copyFrom_41, rfl⟩, Or.inl ⟨by decide, _, _, fX9_21⟩⟩, ⟨⟨dX9_copyFrom_44, rfl⟩, rfl⟩, ⟨⟨dX9_copyFrom_45, rfl⟩, rfl⟩, ⟨⟨dX9_copyFrom_46, rfl⟩, Or.inl ⟨by decide, _, _, fX9_21⟩⟩, ⟨⟨dX9_copyFrom_49, rfl⟩, rfl⟩, ⟨⟨dX9_copyFrom_50, rfl⟩, trivial⟩, ⟨⟨dX9_copyFrom_51, rfl⟩, trivial⟩, ⟨⟨dX9_copyFrom_52, rfl⟩, ⟨rfl, rfl⟩⟩, ⟨⟨dX9_copyFrom_55, rfl⟩, rfl⟩, ⟨⟨dX9_copyFrom_58, rfl⟩, rfl⟩, trivial⟩, trivial⟩, by decide, Or.inl ⟨rfl, by decide, rfl⟩⟩
set_option maxRecDepth 100000 in
theorem g_X9_copyFrom_0 (S : sT) (call : cT) (n : Nat) (a0 : Nat) (v1 : Value) (h : pH) : bd S call dflT E_X9_copyFrom (n + 1) 0 [some (.ref a0), some (v1), none] [] h = (iA v1 (gI h v1 12 0 (fun y1 => pF h (.ref a0) 12 0 (.int y1) (fun h2 => nl v1 (bd S call dflT E_X9_copyFrom n 10 [some (.ref a0), some (v1), some (.int 0)] [] h2))))) := rfl
set_option maxRecDepth 100000 in
theorem g_X9_copyFrom_10 (S : sT) (call : cT) (n : Nat) (a0 : Nat) (v1 : Value) (x2 : Int32) (h : pH) : bd S call dflT E_X9_copyFrom (n + 1) 10 [some (.ref a0), some (v1), some (.int x2)] [] h = ((if 12 ≤ x2 then some (.inl none, h) else gV h (.ref a0) 12 1 (fun w1 => iA v1 (gV h v1 12 1 (fun w2 => aT h w2 x2 (fun w3 => sTx h w1 x2 w3 (fun h4 => gV h4 (.ref a0) 12 2 (fun w5 => iA v1 (gV h4 v1 12 2 (fun w6 => aI h4 w6 0 x2 (fun y7 => sI h4 w5 0 x2 y7 (fun h8 => gV h8 (.ref a0) 12 3 (fun w9 => iA v1 (gV h8 v1 12 3 (fun w10 => aI h8 w10 0 x2 (fun y11 => sI h8 w9 0 x2 y11 (fun h12 => nl v1 (bd S call dflT E_X9_copyFrom n 10 [some (.ref a0), some (v1), some (.int (x2 + 1))] [] h12)))))))))))))))))) := rfl
theorem dX9_linesOf_0 : decode cX9_linesOf 0 = .ok (.iconst 0, 1) := by decide +kernel
theorem dX9_linesOf_1 : decode cX9_linesOf 1 = .ok (.istore_n 2, 1) := by decide +kernel
theorem dX9_linesOf_2 : decode cX9_linesOf 2 = .ok (.iconst 0, 1) := by decide +kernel
theorem dX9_linesOf_3 : decode cX9_linesOf 3 = .ok (.istore_n 3, 1) := by decide +kernel
theorem dX9_linesOf_4 : decode cX9_linesOf 4 = .ok (.aload_n 0, 1) := by decide +kernel
theorem dX9_linesOf_5 : decode cX9_linesOf 5 = .ok (.ifnull 30, 3) := by decide +kernel
theorem dX9_linesOf_8 : decode cX9_linesOf 8 = .ok (.iload_n 3, 1) := by decide +kernel
theorem dX9_linesOf_9 : decode cX9_linesOf 9 = .ok (.aload_n 0, 1) := by decide +kernel
theorem dX9_linesOf_10 : decode cX9_linesOf 10 = .ok (.getfield 56, 3) := by decide +kernel
theorem dX9_linesOf_13 : decode cX9_linesOf 13 = .ok (.if_icmp .ge 22, 3) := by decide +kernel
theorem dX9_linesOf_16 : decode cX9_linesOf 16 = .ok (.aload_n 0, 1) := by decide +kernel
theorem dX9_linesOf_17 : decode cX9_linesOf 17 = .ok (.iconst 0, 1) := by decide +kernel
theorem dX9_linesOf_18 : decode cX9_linesOf 18 = .ok (.iload_n 3, 1) := by decide +kernel
theorem dX9_linesOf_19 : decode cX9_linesOf 19 = .ok (.invokevirtual 39, 3) := by decide +kernel
theorem dX9_linesOf_22 : decode cX9_linesOf 22 = .ok (.iload_n 1, 1) := by decide +kernel
theorem dX9_linesOf_23 : decode cX9_linesOf 23 = .ok (.if_icmp .ne 6, 3) := by decide +kernel
theorem dX9_linesOf_26 : decode cX9_linesOf 26 = .ok (.iinc 2 1, 3) := by decide +kernel
theorem dX9_linesOf_29 : decode cX9_linesOf 29 = .ok (.iinc 3 1, 3) := by decide +kernel
theorem dX9_linesOf_32 : decode cX9_linesOf 32 = .ok (.goto (-28), 3) := by decide +kernel
theorem dX9_linesOf_35 : decode cX9_linesOf 35 = .ok (.iload_n 2, 1) := by decide +kernel
theorem dX9_linesOf_36 : decode cX9_linesOf 36 = .ok (.ireturn, 1) := by decide +kernel
noncomputable def E_X9_linesOf : mE := (mX9_linesOf, [(36, [(0, (.iconst 0, 1, false, false, 0, 0, 0, 0, 0, 0, [])), (1, (.istore_n 2, 2, false, false, 2, 0, 0, 0, 0, 0, [])), (2, (.iconst 0, 3, false, false, 0, 0, 0, 0, 0, 0, [])), (3, (.istore_n 3, 4, true, false, 3, 0, 0, 0, 0, 0, [])), (4, (.aload_n 0, 5, false, false, 0, 0, 0, 0, 0, 0, [])), (5, (.ifnull 30, 8, false, false, 35, 0, 0, 0, 0, 0, [])), (8, (.iload_n 3, 9, false, false, 3, 0, 0, 0, 0, 0, [])), (9, (.aload_n 0, 10, false, false, 0, 0, 0, 0, 0, 0, [])), (10, (.getfield 56, 13, false, false, 11, 0, 0, 0, 0, 0, [])), (13, (.if_icmp .ge 22, 16, false, false, 35, 0, 0, 0, 0, 0, [])), (16, (.aload_n 0, 17, false, false, 0, 0, 0, 0, 0, 0, [])), (17, (.iconst 0, 18, false, false, 0, 0, 0, 0, 0, 0, [])), (18, (.iload_n 3, 19, false, false, 3, 0, 0, 0, 0, 0, [])), (19, (.invokevirtual 39, 22, false, false, 88, 2, 1, 11, 0, 0, [])), (22, (.iload_n 1, 23, false, false, 1, 0, 0, 0, 0, 0, [])), (23, (.if_icmp .ne 6, 26, false, false, 29, 0, 0, 0, 0, 0, [])), (26, (.iinc 2 1, 29, false, false, 2, 0, 0, 0, 1, 0, [])), (29, (.iinc 3 1, 32, false, false, 3, 0, 0, 0, 1, 0, [])), (32, (.goto (-28), 35, false, true, 4, 0, 0, 0, 0, 0, [])), (35, (.iload_n 2, 36, false, false, 2, 0, 0, 0, 0, 0, [])), (36, (.ireturn, 37, false, false, 0, 0, 0, 0, 0, 0, []))])], 0, [])
set_option maxRecDepth 100000 in
theorem v_X9_linesOf : VE MYT dflT E_X9_linesOf := ⟨⟨⟨⟨⟨dX9_linesOf_0, rfl⟩, rfl⟩, ⟨⟨dX9_linesOf_1, rfl⟩, rfl⟩, ⟨⟨dX9_linesOf_2, rfl⟩, rfl⟩, ⟨⟨dX9_linesOf_3, rfl⟩, rfl⟩, ⟨⟨dX9_linesOf_4, rfl⟩, rfl⟩, ⟨⟨dX9_linesOf_5, rfl⟩, rfl⟩, ⟨⟨dX9_linesOf_8, rfl⟩, rfl⟩, ⟨⟨dX9_linesOf_9, rfl⟩, rfl⟩, ⟨⟨dX9_linesOf_10, rfl⟩, Or.inl ⟨by decide, _, _, fX9_56⟩⟩, ⟨⟨dX9_linesOf_13, rfl⟩, rfl⟩, ⟨⟨dX9_linesOf_16, rfl⟩, rfl⟩, ⟨⟨dX9_linesOf_17, rfl⟩, rfl⟩, ⟨⟨dX9_linesOf_18, rfl⟩, rfl⟩, ⟨⟨dX9_linesOf_19, rfl⟩, Or.inr ⟨by decide, ⟨_, my_88, sX9_39⟩, fun q => absurd q (by decide)⟩⟩, ⟨⟨dX9_linesOf_22, rfl⟩, rfl⟩, ⟨⟨dX9_linesOf_23, rfl⟩, rfl⟩, ⟨⟨dX9_linesOf_26, rfl⟩, ⟨rfl, rfl⟩⟩, ⟨⟨dX9_linesOf_29, rfl⟩, ⟨rfl, rfl⟩⟩, ⟨⟨dX9_linesOf_32, rfl⟩, rfl⟩, ⟨⟨dX9_linesOf_35, rfl⟩, rfl⟩, ⟨⟨dX9_linesOf_36, rfl⟩, Or.inl ⟨rfl, rfl⟩⟩, trivial⟩, trivial⟩, by decide, Or.inl ⟨rfl, by decide, rfl⟩⟩
set_option maxRecDepth 100000 in
theorem g_X9_linesOf_0 (S : sT) (call : cT) (n : Nat) (v0 : Value) (x1 : Int32) (h : pH) : bd S call dflT E_X9_linesOf (n + 1) 0 [some (v0), some (.int x1), none, none] [] h = (bd S call dflT E_X9_linesOf n 4 [some (v0), some (.int x1), some (.int 0), some (.int 0)] [] h) := rfl
set_option maxRecDepth 100000 in
theorem g_X9_linesOf_4 (S : sT) (call : cT) (n : Nat) (v0 : Value) (x1 : Int32) (x2 : Int32) (x3 : Int32) (h : pH) : bd S call dflT E_X9_linesOf (n + 1) 4 [some (v0), some (.int x1), some (.int x2), some (.int x3)] [] h = (iA v0 (iA v0 (nz v0 (some (.inl (some (.int x2)), h)) (iA v0 (gI h v0 11 0 (fun y1 => (if y1 ≤ x3 then some (.inl (some (.int x2)), h) else iA v0 (rC h v0 11 (cI (call 88 [v0, .int 0, .int x3] h) (fun y3 h2 => (if y3 = x1 then bd S call dflT E_X9_linesOf n 4 [some (v0), some (.int x1), some (.int (x2 + 1)), some (.int (x3 + 1))] [] h2 else bd S call dflT E_X9_linesOf n 4 [some (v0), some (.int x1), some (.int x2), some (.int (x3 + 1))] [] h2))))))))))) := rfl
theorem dX9_linesInForce_0 : decode cX9_linesInForce 0 = .ok (.aload_n 0, 1) := by decide +kernel
theorem dX9_linesInForce_1 : decode cX9_linesInForce 1 = .ok (.iload_n 1, 1) := by decide +kernel
theorem dX9_linesInForce_2 : decode cX9_linesInForce 2 = .ok (.invokevirtual 36, 3) := by decide +kernel
theorem dX9_linesInForce_5 : decode cX9_linesInForce 5 = .ok (.istore_n 2, 1) := by decide +kernel
theorem dX9_linesInForce_6 : decode cX9_linesInForce 6 = .ok (.iconst 0, 1) := by decide +kernel
theorem dX9_linesInForce_7 : decode cX9_linesInForce 7 = .ok (.istore_n 3, 1) := by decide +kernel
theorem dX9_linesInForce_8 : decode cX9_linesInForce 8 = .ok (.bipush 17, 2) := by decide +kernel
theorem dX9_linesInForce_10 : decode cX9_linesInForce 10 = .ok (.istore 4, 2) := by decide +kernel
theorem dX9_linesInForce_12 : decode cX9_linesInForce 12 = .ok (.iload 4, 2) := by decide +kernel
theorem dX9_linesInForce_14 : decode cX9_linesInForce 14 = .ok (.bipush 23, 2) := by decide +kernel
theorem dX9_linesInForce_16 : decode cX9_linesInForce 16 = .ok (.if_icmp .gt 49, 3) := by decide +kernel
theorem dX9_linesInForce_19 : decode cX9_linesInForce 19 = .ok (.aload_n 0, 1) := by decide +kernel
theorem dX9_linesInForce_20 : decode cX9_linesInForce 20 = .ok (.iload_n 2, 1) := by decide +kernel
theorem dX9_linesInForce_21 : decode cX9_linesInForce 21 = .ok (.iload 4, 2) := by decide +kernel
theorem dX9_linesInForce_23 : decode cX9_linesInForce 23 = .ok (.invokevirtual 42, 3) := by decide +kernel
theorem dX9_linesInForce_26 : decode cX9_linesInForce 26 = .ok (.istore 5, 2) := by decide +kernel
theorem dX9_linesInForce_28 : decode cX9_linesInForce 28 = .ok (.iload 5, 2) := by decide +kernel
theorem dX9_linesInForce_30 : decode cX9_linesInForce 30 = .ok (.iload_n 2, 1) := by decide +kernel
theorem dX9_linesInForce_31 : decode cX9_linesInForce 31 = .ok (.if_icmp .ge 28, 3) := by decide +kernel
theorem dX9_linesInForce_34 : decode cX9_linesInForce 34 = .ok (.iload_n 3, 1) := by decide +kernel
theorem dX9_linesInForce_35 : decode cX9_linesInForce 35 = .ok (.aload_n 0, 1) := by decide +kernel
theorem dX9_linesInForce_36 : decode cX9_linesInForce 36 = .ok (.getfield 11, 3) := by decide +kernel
theorem dX9_linesInForce_39 : decode cX9_linesInForce 39 = .ok (.aload_n 0, 1) := by decide +kernel
theorem dX9_linesInForce_40 : decode cX9_linesInForce 40 = .ok (.iload 5, 2) := by decide +kernel
theorem dX9_linesInForce_42 : decode cX9_linesInForce 42 = .ok (.invokevirtual 28, 3) := by decide +kernel
theorem dX9_linesInForce_45 : decode cX9_linesInForce 45 = .ok (.aaload, 1) := by decide +kernel
theorem dX9_linesInForce_46 : decode cX9_linesInForce 46 = .ok (.iload 4, 2) := by decide +kernel
theorem dX9_linesInForce_48 : decode cX9_linesInForce 48 = .ok (.invokestatic 52, 3) := by decide +kernel
theorem dX9_linesInForce_51 : decode cX9_linesInForce 51 = .ok (.iadd, 1) := by decide +kernel
theorem dX9_linesInForce_52 : decode cX9_linesInForce 52 = .ok (.istore_n 3, 1) := by decide +kernel
theorem dX9_linesInForce_53 : decode cX9_linesInForce 53 = .ok (.iinc 5 1, 3) := by decide +kernel
theorem dX9_linesInForce_56 : decode cX9_linesInForce 56 = .ok (.goto (-28), 3) := by decide +kernel
theorem dX9_linesInForce_59 : decode cX9_linesInForce 59 = .ok (.iinc 4 1, 3) := by decide +kernel
theorem dX9_linesInForce_62 : decode cX9_linesInForce 62 = .ok (.goto (-50), 3) := by decide +kernel
theorem dX9_linesInForce_65 : decode cX9_linesInForce 65 = .ok (.iload_n 3, 1) := by decide +kernel
theorem dX9_linesInForce_66 : decode cX9_linesInForce 66 = .ok (.ireturn, 1) := by decide +kernel
noncomputable def E_X9_linesInForce : mE := (mX9_linesInForce, [(40, [(0, (.aload_n 0, 1, false, false, 0, 0, 0, 0, 0, 0, [])), (1, (.iload_n 1, 2, false, false, 1, 0, 0, 0, 0, 0, [])), (2, (.invokevirtual 36, 5, false, false, 86, 1, 1, 12, 0, 0, [])), (5, (.istore_n 2, 6, false, false, 2, 0, 0, 0, 0, 0, [])), (6, (.iconst 0, 7, false, false, 0, 0, 0, 0, 0, 0, [])), (7, (.istore_n 3, 8, false, false, 3, 0, 0, 0, 0, 0, [])), (8, (.bipush 17, 10, false, false, 0, 0, 0, 0, 17, 0, [])), (10, (.istore 4, 12, true, false, 4, 0, 0, 0, 0, 0, [])), (12, (.iload 4, 14, false, false, 4, 0, 0, 0, 0, 0, [])), (14, (.bipush 23, 16, false, false, 0, 0, 0, 0, 23, 0, [])), (16, (.if_icmp .gt 49, 19, false, false, 65, 0, 0, 0, 0, 0, [])), (19, (.aload_n 0, 20, false, false, 0, 0, 0, 0, 0, 0, [])), (20, (.iload_n 2, 21, false, false, 2, 0, 0, 0, 0, 0, [])), (21, (.iload 4, 23, false, false, 4, 0, 0, 0, 0, 0, [])), (23, (.invokevirtual 42, 26, false, false, 218, 2, 1, 12, 0, 0, [])), (26, (.istore 5, 28, true, false, 5, 0, 0, 0, 0, 0, [])), (28, (.iload 5, 30, false, false, 5, 0, 0, 0, 0, 0, [])), (30, (.iload_n 2, 31, false, false, 2, 0, 0, 0, 0, 0, [])), (31, (.if_icmp .ge 28, 34, false, false, 59, 0, 0, 0, 0, 0, [])), (34, (.iload_n 3, 35, false, false, 3, 0, 0, 0, 0, 0, [])), (35, (.aload_n 0, 36, false, false, 0, 0, 0, 0, 0, 0, [])), (36, (.getfield 11, 39, false, false, 12, 1, 1, 0, 0, 0, [])), (39, (.aload_n 0, 40, false, false, 0, 0, 0, 0, 0, 0, [])), (40, (.iload 5, 42, false, false, 5, 0, 0, 0, 0, 0, []))]),
  (66, [(42, (.invokevirtual 28, 45, false, false, 87, 1, 1, 12, 0, 0, [])), (45, (.aaload, 46, false, false, 0, 0, 0, 0, 0, 0, [])), (46, (.iload 4, 48, false, false, 4, 0, 0, 0, 0, 0, [])), (48, (.invokestatic 52, 51, false, false, 379, 2, 1, 0, 0, 0, [])), (51, (.iadd, 52, false, false, 0, 0, 0, 0, 0, 0, [])), (52, (.istore_n 3, 53, false, false, 3, 0, 0, 0, 0, 0, [])), (53, (.iinc 5 1, 56, false, false, 5, 0, 0, 0, 1, 0, [])), (56, (.goto (-28), 59, false, true, 28, 0, 0, 0, 0, 0, [])), (59, (.iinc 4 1, 62, false, false, 4, 0, 0, 0, 1, 0, [])), (62, (.goto (-50), 65, false, true, 12, 0, 0, 0, 0, 0, [])), (65, (.iload_n 3, 66, false, false, 3, 0, 0, 0, 0, 0, [])), (66, (.ireturn, 67, false, false, 0, 0, 0, 0, 0, 0, []))])], 0, [])
set_option maxRecDepth 100000 in
theorem v_X9_linesInForce : VE MYT dflT E_X9_linesInForce := ⟨⟨⟨⟨⟨dX9_linesInForce_0, rfl⟩, rfl⟩, ⟨⟨dX9_linesInForce_1, rfl⟩, rfl⟩, ⟨⟨dX9_linesInForce_2, rfl⟩, Or.inr ⟨by decide, ⟨_, my_86, sX9_36⟩, fun q => absurd q (by decide)⟩⟩, ⟨⟨dX9_linesInForce_5, rfl⟩, rfl⟩, ⟨⟨dX9_linesInForce_6, rfl⟩, rfl⟩, ⟨⟨dX9_linesInForce_7, rfl⟩, rfl⟩, ⟨⟨dX9_linesInForce_8, rfl⟩, rfl⟩, ⟨⟨dX9_linesInForce_10, rfl⟩, rfl⟩, ⟨⟨dX9_linesInForce_12, rfl⟩, rfl⟩, ⟨⟨dX9_linesInForce_14, rfl⟩, rfl⟩, ⟨⟨dX9_linesInForce_16, rfl⟩, rfl⟩, ⟨⟨dX9_linesInForce_19, rfl⟩, rfl⟩, ⟨⟨dX9_linesInForce_20, rfl⟩, rfl⟩, ⟨⟨dX9_linesInForce_21, rfl⟩, rfl⟩, ⟨⟨dX9_linesInForce_23, rfl⟩, Or.inr ⟨by decide, ⟨_, my_218, sX9_42⟩, fun q => absurd q (by decide)⟩⟩, ⟨⟨dX9_linesInForce_26, rfl⟩, rfl⟩, ⟨⟨dX9_linesInForce_28, rfl⟩, rfl⟩, ⟨⟨dX9_linesInForce_30, rfl⟩, rfl⟩, ⟨⟨dX9_linesInForce_31, rfl⟩, rfl⟩, ⟨⟨dX9_linesInForce_34, rfl⟩, rfl⟩, ⟨⟨dX9_linesInForce_35, rfl⟩, rfl⟩, ⟨⟨dX9_linesInForce_36, rfl⟩, Or.inl ⟨by decide, _, _, fX9_11⟩⟩, ⟨⟨dX9_linesInForce_39, rfl⟩, rfl⟩, ⟨⟨dX9_linesInForce_40, rfl⟩, rfl⟩, trivial⟩,
  ⟨⟨⟨dX9_linesInForce_42, rfl⟩, Or.inr ⟨by decide, ⟨_, my_87, sX9_28⟩, fun q => absurd q (by decide)⟩⟩, ⟨⟨dX9_linesInForce_45, rfl⟩, trivial⟩, ⟨⟨dX9_linesInForce_46, rfl⟩, rfl⟩, ⟨⟨dX9_linesInForce_48, rfl⟩, Or.inl ⟨rfl, _, my_379, sX9_52⟩⟩, ⟨⟨dX9_linesInForce_51, rfl⟩, trivial⟩, ⟨⟨dX9_linesInForce_52, rfl⟩, rfl⟩, ⟨⟨dX9_linesInForce_53, rfl⟩, ⟨rfl, rfl⟩⟩, ⟨⟨dX9_linesInForce_56, rfl⟩, rfl⟩, ⟨⟨dX9_linesInForce_59, rfl⟩, ⟨rfl, rfl⟩⟩, ⟨⟨dX9_linesInForce_62, rfl⟩, rfl⟩, ⟨⟨dX9_linesInForce_65, rfl⟩, rfl⟩, ⟨⟨dX9_linesInForce_66, rfl⟩, Or.inl ⟨rfl, rfl⟩⟩, trivial⟩, trivial⟩, by decide, Or.inl ⟨rfl, by decide, rfl⟩⟩
set_option maxRecDepth 100000 in
theorem g_X9_linesInForce_0 (S : sT) (call : cT) (n : Nat) (a0 : Nat) (x1 : Int32) (h : pH) : bd S call dflT E_X9_linesInForce (n + 1) 0 [some (.ref a0), some (.int x1), none, none, none, none] [] h = (rC h (.ref a0) 12 (cI (call 86 [.ref a0, .int x1] h) (fun y2 h1 => bd S call dflT E_X9_linesInForce n 12 [some (.ref a0), some (.int x1), some (.int y2), some (.int 0), some (.int 17), none] [] h1))) := rfl
set_option maxRecDepth 100000 in
theorem g_X9_linesInForce_12 (S : sT) (call : cT) (n : Nat) (a0 : Nat) (x1 : Int32) (x2 : Int32) (x3 : Int32) (x4 : Int32) (o5 : Option Value) (h : pH) : bd S call dflT E_X9_linesInForce (n + 1) 12 [some (.ref a0), some (.int x1), some (.int x2), some (.int x3), some (.int x4), o5] [] h = ((if 23 < x4 then some (.inl (some (.int x3)), h) else rC h (.ref a0) 12 (cI (call 218 [.ref a0, .int x2, .int x4] h) (fun y2 h1 => bd S call dflT E_X9_linesInForce n 28 [some (.ref a0), some (.int x1), some (.int x2), some (.int x3), some (.int x4), some (.int y2)] [] h1)))) := rfl
set_option maxRecDepth 100000 in
theorem g_X9_linesInForce_28 (S : sT) (call : cT) (n : Nat) (a0 : Nat) (x1 : Int32) (x2 : Int32) (x3 : Int32) (x4 : Int32) (x5 : Int32) (h : pH) : bd S call dflT E_X9_linesInForce (n + 1) 28 [some (.ref a0), some (.int x1), some (.int x2), some (.int x3), some (.int x4), some (.int x5)] [] h = ((if x2 ≤ x5 then bd S call dflT E_X9_linesInForce n 12 [some (.ref a0), some (.int x1), some (.int x2), some (.int x3), some (.int (x4 + 1)), some (.int x5)] [] h else gV h (.ref a0) 12 1 (fun w1 => rC h (.ref a0) 12 (cI (call 87 [.ref a0, .int x5] h) (fun y3 h2 => aT h2 w1 y3 (fun w4 => cI (call 379 [w4, .int x4] h2) (fun y6 h5 => bd S call dflT E_X9_linesInForce n 28 [some (.ref a0), some (.int x1), some (.int x2), some (.int (x3 + y6)), some (.int x4), some (.int (x5 + 1))] [] h5))))))) := rfl
