/-! by program: methods as data, that they are right, what their bodies do -/
theorem dX10_init_0 : decode cX10_init 0 = .ok (.aload_n 0, 1) := by decide +kernel
theorem dX10_init_1 : decode cX10_init 1 = .ok (.invokespecial 3, 3) := by decide +kernel
theorem dX10_init_4 : decode cX10_init 4 = .ok (.aload_n 0, 1) := by decide +kernel
theorem dX10_init_5 : decode cX10_init 5 = .ok (.aload_n 1, 1) := by decide +kernel
theorem dX10_init_6 : decode cX10_init 6 = .ok (.putfield 9, 3) := by decide +kernel
theorem dX10_init_9 : decode cX10_init 9 = .ok (.aload_n 0, 1) := by decide +kernel
theorem dX10_init_10 : decode cX10_init 10 = .ok (.aload_n 1, 1) := by decide +kernel
theorem dX10_init_11 : decode cX10_init 11 = .ok (.getfield 15, 3) := by decide +kernel
theorem dX10_init_14 : decode cX10_init 14 = .ok (.putfield 21, 3) := by decide +kernel
theorem dX10_init_17 : decode cX10_init 17 = .ok (.aload_n 0, 1) := by decide +kernel
theorem dX10_init_18 : decode cX10_init 18 = .ok (.aload_n 1, 1) := by decide +kernel
theorem dX10_init_19 : decode cX10_init 19 = .ok (.getfield 22, 3) := by decide +kernel
theorem dX10_init_22 : decode cX10_init 22 = .ok (.putfield 26, 3) := by decide +kernel
theorem dX10_init_25 : decode cX10_init 25 = .ok (.aload_n 0, 1) := by decide +kernel
theorem dX10_init_26 : decode cX10_init 26 = .ok (.aload_n 1, 1) := by decide +kernel
theorem dX10_init_27 : decode cX10_init 27 = .ok (.getfield 27, 3) := by decide +kernel
theorem dX10_init_30 : decode cX10_init 30 = .ok (.putfield 31, 3) := by decide +kernel
theorem dX10_init_33 : decode cX10_init 33 = .ok (.return_, 1) := by decide +kernel
noncomputable def E_X10_init : mE := (mX10_init, [(33, [(0, (.aload_n 0, 1, false, false, 0, 0, 0, 0, 0, 0, [])), (1, (.invokespecial 3, 4, false, false, 0, 0, 0, 1, 0, 0, [])), (4, (.aload_n 0, 5, false, false, 0, 0, 0, 0, 0, 0, [])), (5, (.aload_n 1, 6, false, false, 1, 0, 0, 0, 0, 0, [])), (6, (.putfield 9, 9, false, false, 13, 0, 4, 0, 0, 0, [])), (9, (.aload_n 0, 10, false, false, 0, 0, 0, 0, 0, 0, [])), (10, (.aload_n 1, 11, false, false, 1, 0, 0, 0, 0, 0, [])), (11, (.getfield 15, 14, false, false, 3, 1, 1, 0, 0, 0, [])), (14, (.putfield 21, 17, false, false, 13, 1, 4, 0, 0, 0, [])), (17, (.aload_n 0, 18, false, false, 0, 0, 0, 0, 0, 0, [])), (18, (.aload_n 1, 19, false, false, 1, 0, 0, 0, 0, 0, [])), (19, (.getfield 22, 22, false, false, 3, 2, 1, 0, 0, 0, [])), (22, (.putfield 26, 25, false, false, 13, 2, 4, 0, 0, 0, [])), (25, (.aload_n 0, 26, false, false, 0, 0, 0, 0, 0, 0, [])), (26, (.aload_n 1, 27, false, false, 1, 0, 0, 0, 0, 0, [])), (27, (.getfield 27, 30, false, false, 3, 4, 1, 0, 0, 0, [])), (30, (.putfield 31, 33, false, false, 13, 3, 4, 0, 0, 0, [])), (33, (.return_, 34, false, false, 0, 0, 0, 0, 0, 0, []))])], 0, [])
set_option maxRecDepth 100000 in
theorem v_X10_init : VE MYT dflT E_X10_init := ⟨⟨⟨⟨⟨dX10_init_0, rfl⟩, rfl⟩, ⟨⟨dX10_init_1, rfl⟩, Or.inr ⟨rfl, oX10_3, o_1, o_2⟩⟩, ⟨⟨dX10_init_4, rfl⟩, rfl⟩, ⟨⟨dX10_init_5, rfl⟩, rfl⟩, ⟨⟨dX10_init_6, rfl⟩, Or.inr (Or.inr (Or.inr (Or.inr ⟨rfl, ⟨_, (Or.inl ⟨_, rfl⟩), fX10_9⟩, rfl, rfl⟩)))⟩, ⟨⟨dX10_init_9, rfl⟩, rfl⟩, ⟨⟨dX10_init_10, rfl⟩, rfl⟩, ⟨⟨dX10_init_11, rfl⟩, Or.inl ⟨by decide, _, _, fX10_15⟩⟩, ⟨⟨dX10_init_14, rfl⟩, Or.inr (Or.inr (Or.inr (Or.inr ⟨rfl, ⟨_, (Or.inl ⟨_, rfl⟩), fX10_21⟩, rfl, rfl⟩)))⟩, ⟨⟨dX10_init_17, rfl⟩, rfl⟩, ⟨⟨dX10_init_18, rfl⟩, rfl⟩, ⟨⟨dX10_init_19, rfl⟩, Or.inl ⟨by decide, _, _, fX10_22⟩⟩, ⟨⟨dX10_init_22, rfl⟩, Or.inr (Or.inr (Or.inr (Or.inr ⟨rfl, ⟨_, (Or.inl ⟨_, rfl⟩), fX10_26⟩, rfl, rfl⟩)))⟩, ⟨⟨dX10_init_25, rfl⟩, rfl⟩, ⟨⟨dX10_init_26, rfl⟩, rfl⟩, ⟨⟨dX10_init_27, rfl⟩, Or.inl ⟨by decide, _, _, fX10_27⟩⟩, ⟨⟨dX10_init_30, rfl⟩, Or.inr (Or.inr (Or.inr (Or.inr ⟨rfl, ⟨_, (Or.inl ⟨_, rfl⟩), fX10_31⟩, rfl, rfl⟩)))⟩, ⟨⟨dX10_init_33, rfl⟩, rfl⟩, trivial⟩, trivial⟩, by decide, Or.inl ⟨rfl, by decide, rfl⟩⟩
set_option maxRecDepth 100000 in
theorem g_X10_init_0 (S : sT) (call : cT) (n : Nat) (a0 : Nat) (v1 : Value) (h : pH) : bd S call dflT E_X10_init (n + 1) 0 [some (.ref a0), some (v1)] [] h = (iA v1 (iA v1 (pF h (.ref a0) 13 0 (v1) (fun h1 => iA v1 (gV h1 v1 3 1 (fun w2 => iA w2 (pF h1 (.ref a0) 13 1 (w2) (fun h3 => iA v1 (gV h3 v1 3 2 (fun w4 => iA w4 (pF h3 (.ref a0) 13 2 (w4) (fun h5 => iA v1 (gV h5 v1 3 4 (fun w6 => iA w6 (pF h5 (.ref a0) 13 3 (w6) (fun h7 => some (.inl none, h7))))))))))))))))) := rfl
theorem dX10_isBarred_0 : decode cX10_isBarred 0 = .ok (.iconst 0, 1) := by decide +kernel
theorem dX10_isBarred_1 : decode cX10_isBarred 1 = .ok (.istore_n 3, 1) := by decide +kernel
theorem dX10_isBarred_2 : decode cX10_isBarred 2 = .ok (.iload_n 3, 1) := by decide +kernel
theorem dX10_isBarred_3 : decode cX10_isBarred 3 = .ok (.aload_n 0, 1) := by decide +kernel
theorem dX10_isBarred_4 : decode cX10_isBarred 4 = .ok (.getfield 112, 3) := by decide +kernel
theorem dX10_isBarred_7 : decode cX10_isBarred 7 = .ok (.if_icmp .ge 54, 3) := by decide +kernel
theorem dX10_isBarred_10 : decode cX10_isBarred 10 = .ok (.aload_n 0, 1) := by decide +kernel
theorem dX10_isBarred_11 : decode cX10_isBarred 11 = .ok (.iconst 0, 1) := by decide +kernel
theorem dX10_isBarred_12 : decode cX10_isBarred 12 = .ok (.iload_n 3, 1) := by decide +kernel
theorem dX10_isBarred_13 : decode cX10_isBarred 13 = .ok (.invokevirtual 117, 3) := by decide +kernel
theorem dX10_isBarred_16 : decode cX10_isBarred 16 = .ok (.bipush 26, 2) := by decide +kernel
theorem dX10_isBarred_18 : decode cX10_isBarred 18 = .ok (.if_icmp .ne 7, 3) := by decide +kernel
theorem dX10_isBarred_21 : decode cX10_isBarred 21 = .ok (.iconst 1, 1) := by decide +kernel
theorem dX10_isBarred_22 : decode cX10_isBarred 22 = .ok (.goto 4, 3) := by decide +kernel
theorem dX10_isBarred_25 : decode cX10_isBarred 25 = .ok (.iconst 0, 1) := by decide +kernel
theorem dX10_isBarred_26 : decode cX10_isBarred 26 = .ok (.istore 4, 2) := by decide +kernel
theorem dX10_isBarred_28 : decode cX10_isBarred 28 = .ok (.iload 4, 2) := by decide +kernel
theorem dX10_isBarred_30 : decode cX10_isBarred 30 = .ok (.ifCond .eq 25, 3) := by decide +kernel
theorem dX10_isBarred_33 : decode cX10_isBarred 33 = .ok (.aload_n 0, 1) := by decide +kernel
theorem dX10_isBarred_34 : decode cX10_isBarred 34 = .ok (.iconst 2, 1) := by decide +kernel
theorem dX10_isBarred_35 : decode cX10_isBarred 35 = .ok (.iload_n 3, 1) := by decide +kernel
theorem dX10_isBarred_36 : decode cX10_isBarred 36 = .ok (.invokevirtual 117, 3) := by decide +kernel
theorem dX10_isBarred_39 : decode cX10_isBarred 39 = .ok (.iload_n 1, 1) := by decide +kernel
theorem dX10_isBarred_40 : decode cX10_isBarred 40 = .ok (.if_icmp .ne 15, 3) := by decide +kernel
theorem dX10_isBarred_43 : decode cX10_isBarred 43 = .ok (.aload_n 0, 1) := by decide +kernel
theorem dX10_isBarred_44 : decode cX10_isBarred 44 = .ok (.iconst 3, 1) := by decide +kernel
theorem dX10_isBarred_45 : decode cX10_isBarred 45 = .ok (.iload_n 3, 1) := by decide +kernel
theorem dX10_isBarred_46 : decode cX10_isBarred 46 = .ok (.invokevirtual 117, 3) := by decide +kernel
theorem dX10_isBarred_49 : decode cX10_isBarred 49 = .ok (.iload_n 2, 1) := by decide +kernel
theorem dX10_isBarred_50 : decode cX10_isBarred 50 = .ok (.if_icmp .ne 5, 3) := by decide +kernel
theorem dX10_isBarred_53 : decode cX10_isBarred 53 = .ok (.iconst 1, 1) := by decide +kernel
theorem dX10_isBarred_54 : decode cX10_isBarred 54 = .ok (.ireturn, 1) := by decide +kernel
theorem dX10_isBarred_55 : decode cX10_isBarred 55 = .ok (.iinc 3 1, 3) := by decide +kernel
theorem dX10_isBarred_58 : decode cX10_isBarred 58 = .ok (.goto (-56), 3) := by decide +kernel
theorem dX10_isBarred_61 : decode cX10_isBarred 61 = .ok (.iconst 0, 1) := by decide +kernel
theorem dX10_isBarred_62 : decode cX10_isBarred 62 = .ok (.ireturn, 1) := by decide +kernel
noncomputable def E_X10_isBarred : mE := (mX10_isBarred, [(40, [(0, (.iconst 0, 1, false, false, 0, 0, 0, 0, 0, 0, [])), (1, (.istore_n 3, 2, true, false, 3, 0, 0, 0, 0, 0, [])), (2, (.iload_n 3, 3, false, false, 3, 0, 0, 0, 0, 0, [])), (3, (.aload_n 0, 4, false, false, 0, 0, 0, 0, 0, 0, [])), (4, (.getfield 112, 7, false, false, 11, 0, 0, 0, 0, 0, [])), (7, (.if_icmp .ge 54, 10, false, false, 61, 0, 0, 0, 0, 0, [])), (10, (.aload_n 0, 11, false, false, 0, 0, 0, 0, 0, 0, [])), (11, (.iconst 0, 12, false, false, 0, 0, 0, 0, 0, 0, [])), (12, (.iload_n 3, 13, false, false, 3, 0, 0, 0, 0, 0, [])), (13, (.invokevirtual 117, 16, false, false, 88, 2, 1, 11, 0, 0, [])), (16, (.bipush 26, 18, false, false, 0, 0, 0, 0, 26, 0, [])), (18, (.if_icmp .ne 7, 21, false, false, 25, 0, 0, 0, 0, 0, [])), (21, (.iconst 1, 22, false, false, 0, 0, 0, 0, 1, 0, [])), (22, (.goto 4, 25, false, true, 26, 0, 0, 0, 0, 0, [])), (25, (.iconst 0, 26, true, false, 0, 0, 0, 0, 0, 0, [])), (26, (.istore 4, 28, false, false, 4, 0, 0, 0, 0, 0, [])), (28, (.iload 4, 30, false, false, 4, 0, 0, 0, 0, 0, [])), (30, (.ifCond .eq 25, 33, false, false, 55, 0, 0, 0, 0, 0, [])), (33, (.aload_n 0, 34, false, false, 0, 0, 0, 0, 0, 0, [])), (34, (.iconst 2, 35, false, false, 0, 0, 0, 0, 2, 0, [])), (35, (.iload_n 3, 36, false, false, 3, 0, 0, 0, 0, 0, [])), (36, (.invokevirtual 117, 39, false, false, 88, 2, 1, 11, 0, 0, [])), (39, (.iload_n 1, 40, false, false, 1, 0, 0, 0, 0, 0, [])), (40, (.if_icmp .ne 15, 43, false, false, 55, 0, 0, 0, 0, 0, []))]),
  (62, [(43, (.aload_n 0, 44, false, false, 0, 0, 0, 0, 0, 0, [])), (44, (.iconst 3, 45, false, false, 0, 0, 0, 0, 3, 0, [])), (45, (.iload_n 3, 46, false, false, 3, 0, 0, 0, 0, 0, [])), (46, (.invokevirtual 117, 49, false, false, 88, 2, 1, 11, 0, 0, [])), (49, (.iload_n 2, 50, false, false, 2, 0, 0, 0, 0, 0, [])), (50, (.if_icmp .ne 5, 53, false, false, 55, 0, 0, 0, 0, 0, [])), (53, (.iconst 1, 54, false, false, 0, 0, 0, 0, 1, 0, [])), (54, (.ireturn, 55, false, false, 0, 0, 1, 0, 0, 0, [])), (55, (.iinc 3 1, 58, false, false, 3, 0, 0, 0, 1, 0, [])), (58, (.goto (-56), 61, false, true, 2, 0, 0, 0, 0, 0, [])), (61, (.iconst 0, 62, false, false, 0, 0, 0, 0, 0, 0, [])), (62, (.ireturn, 63, false, false, 0, 0, 1, 0, 0, 0, []))])], 0, [])
set_option maxRecDepth 100000 in
theorem v_X10_isBarred : VE MYT dflT E_X10_isBarred := ⟨⟨⟨⟨⟨dX10_isBarred_0, rfl⟩, rfl⟩, ⟨⟨dX10_isBarred_1, rfl⟩, rfl⟩, ⟨⟨dX10_isBarred_2, rfl⟩, rfl⟩, ⟨⟨dX10_isBarred_3, rfl⟩, rfl⟩, ⟨⟨dX10_isBarred_4, rfl⟩, Or.inl ⟨by decide, _, _, fX10_112⟩⟩, ⟨⟨dX10_isBarred_7, rfl⟩, rfl⟩, ⟨⟨dX10_isBarred_10, rfl⟩, rfl⟩, ⟨⟨dX10_isBarred_11, rfl⟩, rfl⟩, ⟨⟨dX10_isBarred_12, rfl⟩, rfl⟩, ⟨⟨dX10_isBarred_13, rfl⟩, Or.inr ⟨by decide, ⟨_, my_88, sX10_117⟩, fun q => absurd q (by decide)⟩⟩, ⟨⟨dX10_isBarred_16, rfl⟩, rfl⟩, ⟨⟨dX10_isBarred_18, rfl⟩, rfl⟩, ⟨⟨dX10_isBarred_21, rfl⟩, rfl⟩, ⟨⟨dX10_isBarred_22, rfl⟩, rfl⟩, ⟨⟨dX10_isBarred_25, rfl⟩, rfl⟩, ⟨⟨dX10_isBarred_26, rfl⟩, rfl⟩, ⟨⟨dX10_isBarred_28, rfl⟩, rfl⟩, ⟨⟨dX10_isBarred_30, rfl⟩, rfl⟩, ⟨⟨dX10_isBarred_33, rfl⟩, rfl⟩, ⟨⟨dX10_isBarred_34, rfl⟩, rfl⟩, ⟨⟨dX10_isBarred_35, rfl⟩, rfl⟩, ⟨⟨dX10_isBarred_36, rfl⟩, Or.inr ⟨by decide, ⟨_, my_88, sX10_117⟩, fun q => absurd q (by decide)⟩⟩, ⟨⟨dX10_isBarred_39, rfl⟩, rfl⟩, ⟨⟨dX10_isBarred_40, rfl⟩, rfl⟩, trivial⟩,
  ⟨⟨⟨dX10_isBarred_43, rfl⟩, rfl⟩, ⟨⟨dX10_isBarred_44, rfl⟩, rfl⟩, ⟨⟨dX10_isBarred_45, rfl⟩, rfl⟩, ⟨⟨dX10_isBarred_46, rfl⟩, Or.inr ⟨by decide, ⟨_, my_88, sX10_117⟩, fun q => absurd q (by decide)⟩⟩, ⟨⟨dX10_isBarred_49, rfl⟩, rfl⟩, ⟨⟨dX10_isBarred_50, rfl⟩, rfl⟩, ⟨⟨dX10_isBarred_53, rfl⟩, rfl⟩, ⟨⟨dX10_isBarred_54, rfl⟩, Or.inr (Or.inl ⟨rfl, rfl⟩)⟩, ⟨⟨dX10_isBarred_55, rfl⟩, ⟨rfl, rfl⟩⟩, ⟨⟨dX10_isBarred_58, rfl⟩, rfl⟩, ⟨⟨dX10_isBarred_61, rfl⟩, rfl⟩, ⟨⟨dX10_isBarred_62, rfl⟩, Or.inr (Or.inl ⟨rfl, rfl⟩)⟩, trivial⟩, trivial⟩, by decide, Or.inl ⟨rfl, by decide, rfl⟩⟩
set_option maxRecDepth 100000 in
theorem g_X10_isBarred_0 (S : sT) (call : cT) (n : Nat) (v0 : Value) (x1 : Int32) (x2 : Int32) (h : pH) : bd S call dflT E_X10_isBarred (n + 1) 0 [some (v0), some (.int x1), some (.int x2), none, none] [] h = (bd S call dflT E_X10_isBarred n 2 [some (v0), some (.int x1), some (.int x2), some (.int 0), none] [] h) := rfl
set_option maxRecDepth 100000 in
theorem g_X10_isBarred_2 (S : sT) (call : cT) (n : Nat) (v0 : Value) (x1 : Int32) (x2 : Int32) (x3 : Int32) (o4 : Option Value) (h : pH) : bd S call dflT E_X10_isBarred (n + 1) 2 [some (v0), some (.int x1), some (.int x2), some (.int x3), o4] [] h = (iA v0 (gI h v0 11 0 (fun y1 => (if y1 ≤ x3 then zR 0 (some (.inl (some (.int 0)), h)) else iA v0 (rC h v0 11 (cI (call 88 [v0, .int 0, .int x3] h) (fun y3 h2 => (if y3 = 26 then bd S call dflT E_X10_isBarred n 26 [some (v0), some (.int x1), some (.int x2), some (.int x3), o4] [.int 1] h2 else bd S call dflT E_X10_isBarred n 26 [some (v0), some (.int x1), some (.int x2), some (.int x3), o4] [.int 0] h2)))))))) := rfl
set_option maxRecDepth 100000 in
theorem g_X10_isBarred_26 (S : sT) (call : cT) (n : Nat) (v0 : Value) (x1 : Int32) (x2 : Int32) (x3 : Int32) (o4 : Option Value) (y0 : Int32) (h : pH) : bd S call dflT E_X10_isBarred (n + 1) 26 [some (v0), some (.int x1), some (.int x2), some (.int x3), o4] [.int y0] h = ((if y0 = 0 then bd S call dflT E_X10_isBarred n 2 [some (v0), some (.int x1), some (.int x2), some (.int (x3 + 1)), some (.int y0)] [] h else iA v0 (rC h v0 11 (cI (call 88 [v0, .int 2, .int x3] h) (fun y2 h1 => (if y2 = x1 then iA v0 (rC h1 v0 11 (cI (call 88 [v0, .int 3, .int x3] h1) (fun y4 h3 => (if y4 = x2 then zR 1 (some (.inl (some (.int 1)), h3)) else bd S call dflT E_X10_isBarred n 2 [some (v0), some (.int x1), some (.int x2), some (.int (x3 + 1)), some (.int y0)] [] h3)))) else bd S call dflT E_X10_isBarred n 2 [some (v0), some (.int x1), some (.int x2), some (.int (x3 + 1)), some (.int y0)] [] h1)))))) := rfl
theorem dX10_chosenCrop_0 : decode cX10_chosenCrop 0 = .ok (.iconst 5, 1) := by decide +kernel
theorem dX10_chosenCrop_1 : decode cX10_chosenCrop 1 = .ok (.istore_n 3, 1) := by decide +kernel
theorem dX10_chosenCrop_2 : decode cX10_chosenCrop 2 = .ok (.iconst (-1), 1) := by decide +kernel
theorem dX10_chosenCrop_3 : decode cX10_chosenCrop 3 = .ok (.istore 4, 2) := by decide +kernel
theorem dX10_chosenCrop_5 : decode cX10_chosenCrop 5 = .ok (.iconst 1, 1) := by decide +kernel
theorem dX10_chosenCrop_6 : decode cX10_chosenCrop 6 = .ok (.istore 5, 2) := by decide +kernel
theorem dX10_chosenCrop_8 : decode cX10_chosenCrop 8 = .ok (.iload 5, 2) := by decide +kernel
theorem dX10_chosenCrop_10 : decode cX10_chosenCrop 10 = .ok (.iconst 5, 1) := by decide +kernel
theorem dX10_chosenCrop_11 : decode cX10_chosenCrop 11 = .ok (.if_icmp .gt 64, 3) := by decide +kernel
theorem dX10_chosenCrop_14 : decode cX10_chosenCrop 14 = .ok (.aload_n 0, 1) := by decide +kernel
theorem dX10_chosenCrop_15 : decode cX10_chosenCrop 15 = .ok (.getfield 9, 3) := by decide +kernel
theorem dX10_chosenCrop_18 : decode cX10_chosenCrop 18 = .ok (.iload 5, 2) := by decide +kernel
theorem dX10_chosenCrop_20 : decode cX10_chosenCrop 20 = .ok (.invokevirtual 101, 3) := by decide +kernel
theorem dX10_chosenCrop_23 : decode cX10_chosenCrop 23 = .ok (.aload_n 0, 1) := by decide +kernel
theorem dX10_chosenCrop_24 : decode cX10_chosenCrop 24 = .ok (.getfield 21, 3) := by decide +kernel
theorem dX10_chosenCrop_27 : decode cX10_chosenCrop 27 = .ok (.iload_n 2, 1) := by decide +kernel
theorem dX10_chosenCrop_28 : decode cX10_chosenCrop 28 = .ok (.iload 5, 2) := by decide +kernel
theorem dX10_chosenCrop_30 : decode cX10_chosenCrop 30 = .ok (.iconst 0, 1) := by decide +kernel
theorem dX10_chosenCrop_31 : decode cX10_chosenCrop 31 = .ok (.invokevirtual 104, 3) := by decide +kernel
theorem dX10_chosenCrop_34 : decode cX10_chosenCrop 34 = .ok (.imul, 1) := by decide +kernel
theorem dX10_chosenCrop_35 : decode cX10_chosenCrop 35 = .ok (.istore 6, 2) := by decide +kernel
theorem dX10_chosenCrop_37 : decode cX10_chosenCrop 37 = .ok (.iload 6, 2) := by decide +kernel
theorem dX10_chosenCrop_39 : decode cX10_chosenCrop 39 = .ok (.iload 4, 2) := by decide +kernel
theorem dX10_chosenCrop_41 : decode cX10_chosenCrop 41 = .ok (.if_icmp .le 28, 3) := by decide +kernel
theorem dX10_chosenCrop_44 : decode cX10_chosenCrop 44 = .ok (.aload_n 1, 1) := by decide +kernel
theorem dX10_chosenCrop_45 : decode cX10_chosenCrop 45 = .ok (.iload 5, 2) := by decide +kernel
theorem dX10_chosenCrop_47 : decode cX10_chosenCrop 47 = .ok (.aload_n 0, 1) := by decide +kernel
theorem dX10_chosenCrop_48 : decode cX10_chosenCrop 48 = .ok (.getfield 21, 3) := by decide +kernel
theorem dX10_chosenCrop_51 : decode cX10_chosenCrop 51 = .ok (.iconst 3, 1) := by decide +kernel
theorem dX10_chosenCrop_52 : decode cX10_chosenCrop 52 = .ok (.iload_n 2, 1) := by decide +kernel
theorem dX10_chosenCrop_53 : decode cX10_chosenCrop 53 = .ok (.invokevirtual 79, 3) := by decide +kernel
theorem dX10_chosenCrop_56 : decode cX10_chosenCrop 56 = .ok (.invokestatic 108, 3) := by decide +kernel
theorem dX10_chosenCrop_59 : decode cX10_chosenCrop 59 = .ok (.ifCond .ne 10, 3) := by decide +kernel
theorem dX10_chosenCrop_62 : decode cX10_chosenCrop 62 = .ok (.iload 5, 2) := by decide +kernel
theorem dX10_chosenCrop_64 : decode cX10_chosenCrop 64 = .ok (.istore_n 3, 1) := by decide +kernel
theorem dX10_chosenCrop_65 : decode cX10_chosenCrop 65 = .ok (.iload 6, 2) := by decide +kernel
theorem dX10_chosenCrop_67 : decode cX10_chosenCrop 67 = .ok (.istore 4, 2) := by decide +kernel
theorem dX10_chosenCrop_69 : decode cX10_chosenCrop 69 = .ok (.iinc 5 1, 3) := by decide +kernel
theorem dX10_chosenCrop_72 : decode cX10_chosenCrop 72 = .ok (.goto (-64), 3) := by decide +kernel
theorem dX10_chosenCrop_75 : decode cX10_chosenCrop 75 = .ok (.iload_n 3, 1) := by decide +kernel
theorem dX10_chosenCrop_76 : decode cX10_chosenCrop 76 = .ok (.ireturn, 1) := by decide +kernel
noncomputable def E_X10_chosenCrop : mE := (mX10_chosenCrop, [(41, [(0, (.iconst 5, 1, false, false, 0, 0, 0, 0, 5, 0, [])), (1, (.istore_n 3, 2, false, false, 3, 0, 0, 0, 0, 0, [])), (2, (.iconst (-1), 3, false, false, 0, 0, 0, 0, -1, 0, [])), (3, (.istore 4, 5, false, false, 4, 0, 0, 0, 0, 0, [])), (5, (.iconst 1, 6, false, false, 0, 0, 0, 0, 1, 0, [])), (6, (.istore 5, 8, true, false, 5, 0, 0, 0, 0, 0, [])), (8, (.iload 5, 10, false, false, 5, 0, 0, 0, 0, 0, [])), (10, (.iconst 5, 11, false, false, 0, 0, 0, 0, 5, 0, [])), (11, (.if_icmp .gt 64, 14, false, false, 75, 0, 0, 0, 0, 0, [])), (14, (.aload_n 0, 15, false, false, 0, 0, 0, 0, 0, 0, [])), (15, (.getfield 9, 18, false, false, 13, 0, 1, 0, 0, 0, [])), (18, (.iload 5, 20, false, false, 5, 0, 0, 0, 0, 0, [])), (20, (.invokevirtual 101, 23, false, false, 184, 1, 1, 3, 0, 0, [])), (23, (.aload_n 0, 24, false, false, 0, 0, 0, 0, 0, 0, [])), (24, (.getfield 21, 27, false, false, 13, 1, 1, 0, 0, 0, [])), (27, (.iload_n 2, 28, false, false, 2, 0, 0, 0, 0, 0, [])), (28, (.iload 5, 30, false, false, 5, 0, 0, 0, 0, 0, [])), (30, (.iconst 0, 31, false, false, 0, 0, 0, 0, 0, 0, [])), (31, (.invokevirtual 104, 34, false, false, 185, 3, 1, 5, 0, 0, [])), (34, (.imul, 35, false, false, 0, 0, 0, 0, 0, 0, [])), (35, (.istore 6, 37, false, false, 6, 0, 0, 0, 0, 0, [])), (37, (.iload 6, 39, false, false, 6, 0, 0, 0, 0, 0, [])), (39, (.iload 4, 41, false, false, 4, 0, 0, 0, 0, 0, [])), (41, (.if_icmp .le 28, 44, false, false, 69, 0, 0, 0, 0, 0, []))]),
  (76, [(44, (.aload_n 1, 45, false, false, 1, 0, 0, 0, 0, 0, [])), (45, (.iload 5, 47, false, false, 5, 0, 0, 0, 0, 0, [])), (47, (.aload_n 0, 48, false, false, 0, 0, 0, 0, 0, 0, [])), (48, (.getfield 21, 51, false, false, 13, 1, 1, 0, 0, 0, [])), (51, (.iconst 3, 52, false, false, 0, 0, 0, 0, 3, 0, [])), (52, (.iload_n 2, 53, false, false, 2, 0, 0, 0, 0, 0, [])), (53, (.invokevirtual 79, 56, false, false, 23, 2, 1, 5, 0, 0, [])), (56, (.invokestatic 108, 59, false, false, 186, 3, 1, 0, 0, 0, [])), (59, (.ifCond .ne 10, 62, false, false, 69, 0, 0, 0, 0, 0, [])), (62, (.iload 5, 64, false, false, 5, 0, 0, 0, 0, 0, [])), (64, (.istore_n 3, 65, false, false, 3, 0, 0, 0, 0, 0, [])), (65, (.iload 6, 67, false, false, 6, 0, 0, 0, 0, 0, [])), (67, (.istore 4, 69, false, false, 4, 0, 0, 0, 0, 0, [])), (69, (.iinc 5 1, 72, false, false, 5, 0, 0, 0, 1, 0, [])), (72, (.goto (-64), 75, false, true, 8, 0, 0, 0, 0, 0, [])), (75, (.iload_n 3, 76, false, false, 3, 0, 0, 0, 0, 0, [])), (76, (.ireturn, 77, false, false, 0, 0, 0, 0, 0, 0, []))])], 0, [])
set_option maxRecDepth 100000 in
theorem v_X10_chosenCrop : VE MYT dflT E_X10_chosenCrop := ⟨⟨⟨⟨⟨dX10_chosenCrop_0, rfl⟩, rfl⟩, ⟨⟨dX10_chosenCrop_1, rfl⟩, rfl⟩, ⟨⟨dX10_chosenCrop_2, rfl⟩, rfl⟩, ⟨⟨dX10_chosenCrop_3, rfl⟩, rfl⟩, ⟨⟨dX10_chosenCrop_5, rfl⟩, rfl⟩, ⟨⟨dX10_chosenCrop_6, rfl⟩, rfl⟩, ⟨⟨dX10_chosenCrop_8, rfl⟩, rfl⟩, ⟨⟨dX10_chosenCrop_10, rfl⟩, rfl⟩, ⟨⟨dX10_chosenCrop_11, rfl⟩, rfl⟩, ⟨⟨dX10_chosenCrop_14, rfl⟩, rfl⟩, ⟨⟨dX10_chosenCrop_15, rfl⟩, Or.inl ⟨by decide, _, _, fX10_9⟩⟩, ⟨⟨dX10_chosenCrop_18, rfl⟩, rfl⟩, ⟨⟨dX10_chosenCrop_20, rfl⟩, Or.inr ⟨by decide, ⟨_, my_184, sX10_101⟩, fun q => absurd q (by decide)⟩⟩, ⟨⟨dX10_chosenCrop_23, rfl⟩, rfl⟩, ⟨⟨dX10_chosenCrop_24, rfl⟩, Or.inl ⟨by decide, _, _, fX10_21⟩⟩, ⟨⟨dX10_chosenCrop_27, rfl⟩, rfl⟩, ⟨⟨dX10_chosenCrop_28, rfl⟩, rfl⟩, ⟨⟨dX10_chosenCrop_30, rfl⟩, rfl⟩, ⟨⟨dX10_chosenCrop_31, rfl⟩, Or.inr ⟨by decide, ⟨_, my_185, sX10_104⟩, fun q => absurd q (by decide)⟩⟩, ⟨⟨dX10_chosenCrop_34, rfl⟩, trivial⟩, ⟨⟨dX10_chosenCrop_35, rfl⟩, rfl⟩, ⟨⟨dX10_chosenCrop_37, rfl⟩, rfl⟩, ⟨⟨dX10_chosenCrop_39, rfl⟩, rfl⟩, ⟨⟨dX10_chosenCrop_41, rfl⟩, rfl⟩, trivial⟩,
  ⟨⟨⟨dX10_chosenCrop_44, rfl⟩, rfl⟩, ⟨⟨dX10_chosenCrop_45, rfl⟩, rfl⟩, ⟨⟨dX10_chosenCrop_47, rfl⟩, rfl⟩, ⟨⟨dX10_chosenCrop_48, rfl⟩, Or.inl ⟨by decide, _, _, fX10_21⟩⟩, ⟨⟨dX10_chosenCrop_51, rfl⟩, rfl⟩, ⟨⟨dX10_chosenCrop_52, rfl⟩, rfl⟩, ⟨⟨dX10_chosenCrop_53, rfl⟩, Or.inr ⟨by decide, ⟨_, my_23, sX10_79⟩, fun q => absurd q (by decide)⟩⟩, ⟨⟨dX10_chosenCrop_56, rfl⟩, Or.inl ⟨rfl, _, my_186, sX10_108⟩⟩, ⟨⟨dX10_chosenCrop_59, rfl⟩, rfl⟩, ⟨⟨dX10_chosenCrop_62, rfl⟩, rfl⟩, ⟨⟨dX10_chosenCrop_64, rfl⟩, rfl⟩, ⟨⟨dX10_chosenCrop_65, rfl⟩, rfl⟩, ⟨⟨dX10_chosenCrop_67, rfl⟩, rfl⟩, ⟨⟨dX10_chosenCrop_69, rfl⟩, ⟨rfl, rfl⟩⟩, ⟨⟨dX10_chosenCrop_72, rfl⟩, rfl⟩, ⟨⟨dX10_chosenCrop_75, rfl⟩, rfl⟩, ⟨⟨dX10_chosenCrop_76, rfl⟩, Or.inl ⟨rfl, rfl⟩⟩, trivial⟩, trivial⟩, by decide, Or.inl ⟨rfl, by decide, rfl⟩⟩
set_option maxRecDepth 100000 in
theorem g_X10_chosenCrop_0 (S : sT) (call : cT) (n : Nat) (a0 : Nat) (v1 : Value) (x2 : Int32) (h : pH) : bd S call dflT E_X10_chosenCrop (n + 1) 0 [some (.ref a0), some (v1), some (.int x2), none, none, none, none] [] h = (bd S call dflT E_X10_chosenCrop n 8 [some (.ref a0), some (v1), some (.int x2), some (.int 5), some (.int (-1)), some (.int 1), none] [] h) := rfl
set_option maxRecDepth 100000 in
theorem g_X10_chosenCrop_8 (S : sT) (call : cT) (n : Nat) (a0 : Nat) (v1 : Value) (x2 : Int32) (x3 : Int32) (x4 : Int32) (x5 : Int32) (o6 : Option Value) (h : pH) : bd S call dflT E_X10_chosenCrop (n + 1) 8 [some (.ref a0), some (v1), some (.int x2), some (.int x3), some (.int x4), some (.int x5), o6] [] h = ((if 5 < x5 then some (.inl (some (.int x3)), h) else gV h (.ref a0) 13 0 (fun w1 => rC h w1 3 (cI (call 184 [w1, .int x5] h) (fun y3 h2 => gV h2 (.ref a0) 13 1 (fun w4 => rC h2 w4 5 (cI (call 185 [w4, .int x2, .int x5, .int 0] h2) (fun y6 h5 => (if (y3 * y6) ≤ x4 then bd S call dflT E_X10_chosenCrop n 8 [some (.ref a0), some (v1), some (.int x2), some (.int x3), some (.int x4), some (.int (x5 + 1)), some (.int (y3 * y6))] [] h5 else iA v1 (gV h5 (.ref a0) 13 1 (fun w7 => rC h5 w7 5 (cI (call 23 [w7, .int 3, .int x2] h5) (fun y9 h8 => cI (call 186 [v1, .int x5, .int y9] h8) (fun y11 h10 => (if y11 = 0 then bd S call dflT E_X10_chosenCrop n 8 [some (.ref a0), some (v1), some (.int x2), some (.int x5), some (.int (y3 * y6)), some (.int (x5 + 1)), some (.int (y3 * y6))] [] h10 else bd S call dflT E_X10_chosenCrop n 8 [some (.ref a0), some (v1), some (.int x2), some (.int x3), some (.int x4), some (.int (x5 + 1)), some (.int (y3 * y6))] [] h10))))))))))))))) := rfl
theorem dX10_spring_0 : decode cX10_spring 0 = .ok (.iconst 0, 1) := by decide +kernel
theorem dX10_spring_1 : decode cX10_spring 1 = .ok (.istore_n 1, 1) := by decide +kernel
theorem dX10_spring_2 : decode cX10_spring 2 = .ok (.iload_n 1, 1) := by decide +kernel
theorem dX10_spring_3 : decode cX10_spring 3 = .ok (.bipush 48, 2) := by decide +kernel
theorem dX10_spring_5 : decode cX10_spring 5 = .ok (.if_icmp .ge 78, 3) := by decide +kernel
theorem dX10_spring_8 : decode cX10_spring 8 = .ok (.aload_n 0, 1) := by decide +kernel
theorem dX10_spring_9 : decode cX10_spring 9 = .ok (.getfield 9, 3) := by decide +kernel
theorem dX10_spring_12 : decode cX10_spring 12 = .ok (.iload_n 1, 1) := by decide +kernel
theorem dX10_spring_13 : decode cX10_spring 13 = .ok (.invokevirtual 73, 3) := by decide +kernel
theorem dX10_spring_16 : decode cX10_spring 16 = .ok (.istore_n 2, 1) := by decide +kernel
theorem dX10_spring_17 : decode cX10_spring 17 = .ok (.iload_n 2, 1) := by decide +kernel
theorem dX10_spring_18 : decode cX10_spring 18 = .ok (.ifCond .eq 8, 3) := by decide +kernel
theorem dX10_spring_21 : decode cX10_spring 21 = .ok (.iload_n 2, 1) := by decide +kernel
theorem dX10_spring_22 : decode cX10_spring 22 = .ok (.iconst 1, 1) := by decide +kernel
theorem dX10_spring_23 : decode cX10_spring 23 = .ok (.if_icmp .ne 37, 3) := by decide +kernel
theorem dX10_spring_26 : decode cX10_spring 26 = .ok (.aload_n 0, 1) := by decide +kernel
theorem dX10_spring_27 : decode cX10_spring 27 = .ok (.getfield 21, 3) := by decide +kernel
theorem dX10_spring_30 : decode cX10_spring 30 = .ok (.iconst 3, 1) := by decide +kernel
theorem dX10_spring_31 : decode cX10_spring 31 = .ok (.iload_n 1, 1) := by decide +kernel
theorem dX10_spring_32 : decode cX10_spring 32 = .ok (.aload_n 0, 1) := by decide +kernel
theorem dX10_spring_33 : decode cX10_spring 33 = .ok (.aload_n 0, 1) := by decide +kernel
theorem dX10_spring_34 : decode cX10_spring 34 = .ok (.getfield 26, 3) := by decide +kernel
theorem dX10_spring_37 : decode cX10_spring 37 = .ok (.aload_n 0, 1) := by decide +kernel
theorem dX10_spring_38 : decode cX10_spring 38 = .ok (.getfield 21, 3) := by decide +kernel
theorem dX10_spring_41 : decode cX10_spring 41 = .ok (.bipush 10, 2) := by decide +kernel
theorem dX10_spring_43 : decode cX10_spring 43 = .ok (.iload_n 1, 1) := by decide +kernel
theorem dX10_spring_44 : decode cX10_spring 44 = .ok (.invokevirtual 79, 3) := by decide +kernel
theorem dX10_spring_47 : decode cX10_spring 47 = .ok (.invokevirtual 83, 3) := by decide +kernel
theorem dX10_spring_50 : decode cX10_spring 50 = .ok (.iload_n 1, 1) := by decide +kernel
theorem dX10_spring_51 : decode cX10_spring 51 = .ok (.invokevirtual 89, 3) := by decide +kernel
theorem dX10_spring_54 : decode cX10_spring 54 = .ok (.invokevirtual 93, 3) := by decide +kernel
theorem dX10_spring_57 : decode cX10_spring 57 = .ok (.goto 20, 3) := by decide +kernel
theorem dX10_spring_60 : decode cX10_spring 60 = .ok (.iload_n 2, 1) := by decide +kernel
theorem dX10_spring_61 : decode cX10_spring 61 = .ok (.invokestatic 97, 3) := by decide +kernel
theorem dX10_spring_64 : decode cX10_spring 64 = .ok (.ifCond .ne 13, 3) := by decide +kernel
theorem dX10_spring_67 : decode cX10_spring 67 = .ok (.aload_n 0, 1) := by decide +kernel
theorem dX10_spring_68 : decode cX10_spring 68 = .ok (.getfield 21, 3) := by decide +kernel
theorem dX10_spring_71 : decode cX10_spring 71 = .ok (.iconst 3, 1) := by decide +kernel
theorem dX10_spring_72 : decode cX10_spring 72 = .ok (.iload_n 1, 1) := by decide +kernel
theorem dX10_spring_73 : decode cX10_spring 73 = .ok (.iconst 0, 1) := by decide +kernel
theorem dX10_spring_74 : decode cX10_spring 74 = .ok (.invokevirtual 93, 3) := by decide +kernel
theorem dX10_spring_77 : decode cX10_spring 77 = .ok (.iinc 1 1, 3) := by decide +kernel
theorem dX10_spring_80 : decode cX10_spring 80 = .ok (.goto (-78), 3) := by decide +kernel
theorem dX10_spring_83 : decode cX10_spring 83 = .ok (.return_, 1) := by decide +kernel
noncomputable def E_X10_spring : mE := (mX10_spring, [(38, [(0, (.iconst 0, 1, false, false, 0, 0, 0, 0, 0, 0, [])), (1, (.istore_n 1, 2, true, false, 1, 0, 0, 0, 0, 0, [])), (2, (.iload_n 1, 3, false, false, 1, 0, 0, 0, 0, 0, [])), (3, (.bipush 48, 5, false, false, 0, 0, 0, 0, 48, 0, [])), (5, (.if_icmp .ge 78, 8, false, false, 83, 0, 0, 0, 0, 0, [])), (8, (.aload_n 0, 9, false, false, 0, 0, 0, 0, 0, 0, [])), (9, (.getfield 9, 12, false, false, 13, 0, 1, 0, 0, 0, [])), (12, (.iload_n 1, 13, false, false, 1, 0, 0, 0, 0, 0, [])), (13, (.invokevirtual 73, 16, false, false, 160, 1, 1, 3, 0, 0, [])), (16, (.istore_n 2, 17, false, false, 2, 0, 0, 0, 0, 0, [])), (17, (.iload_n 2, 18, false, false, 2, 0, 0, 0, 0, 0, [])), (18, (.ifCond .eq 8, 21, false, true, 26, 0, 0, 0, 0, 0, [])), (21, (.iload_n 2, 22, false, false, 2, 0, 0, 0, 0, 0, [])), (22, (.iconst 1, 23, false, false, 0, 0, 0, 0, 1, 0, [])), (23, (.if_icmp .ne 37, 26, true, false, 60, 0, 0, 0, 0, 0, [])), (26, (.aload_n 0, 27, false, false, 0, 0, 0, 0, 0, 0, [])), (27, (.getfield 21, 30, false, false, 13, 1, 1, 0, 0, 0, [])), (30, (.iconst 3, 31, false, false, 0, 0, 0, 0, 3, 0, [])), (31, (.iload_n 1, 32, false, false, 1, 0, 0, 0, 0, 0, [])), (32, (.aload_n 0, 33, false, false, 0, 0, 0, 0, 0, 0, [])), (33, (.aload_n 0, 34, false, false, 0, 0, 0, 0, 0, 0, [])), (34, (.getfield 26, 37, false, false, 13, 2, 1, 0, 0, 0, [])), (37, (.aload_n 0, 38, false, false, 0, 0, 0, 0, 0, 0, [])), (38, (.getfield 21, 41, false, false, 13, 1, 1, 0, 0, 0, []))]),
  (83, [(41, (.bipush 10, 43, false, false, 0, 0, 0, 0, 10, 0, [])), (43, (.iload_n 1, 44, false, false, 1, 0, 0, 0, 0, 0, [])), (44, (.invokevirtual 79, 47, false, false, 23, 2, 1, 5, 0, 0, [])), (47, (.invokevirtual 83, 50, false, false, 183, 1, 3, 4, 0, 0, [])), (50, (.iload_n 1, 51, false, false, 1, 0, 0, 0, 0, 0, [])), (51, (.invokevirtual 89, 54, false, false, 187, 2, 1, 13, 0, 0, [])), (54, (.invokevirtual 93, 57, false, false, 25, 3, 0, 5, 0, 0, [])), (57, (.goto 20, 60, false, false, 77, 0, 0, 0, 0, 0, [])), (60, (.iload_n 2, 61, false, false, 2, 0, 0, 0, 0, 0, [])), (61, (.invokestatic 97, 64, false, false, 161, 1, 1, 0, 0, 0, [])), (64, (.ifCond .ne 13, 67, false, false, 77, 0, 0, 0, 0, 0, [])), (67, (.aload_n 0, 68, false, false, 0, 0, 0, 0, 0, 0, [])), (68, (.getfield 21, 71, false, false, 13, 1, 1, 0, 0, 0, [])), (71, (.iconst 3, 72, false, false, 0, 0, 0, 0, 3, 0, [])), (72, (.iload_n 1, 73, false, false, 1, 0, 0, 0, 0, 0, [])), (73, (.iconst 0, 74, false, false, 0, 0, 0, 0, 0, 0, [])), (74, (.invokevirtual 93, 77, false, false, 25, 3, 0, 5, 0, 0, [])), (77, (.iinc 1 1, 80, false, false, 1, 0, 0, 0, 1, 0, [])), (80, (.goto (-78), 83, false, true, 2, 0, 0, 0, 0, 0, [])), (83, (.return_, 84, false, false, 0, 0, 0, 0, 0, 0, []))])], 0, [])
set_option maxRecDepth 100000 in
theorem v_X10_spring : VE MYT dflT E_X10_spring := ⟨⟨⟨⟨⟨dX10_spring_0, rfl⟩, rfl⟩, ⟨⟨dX10_spring_1, rfl⟩, rfl⟩, ⟨⟨dX10_spring_2, rfl⟩, rfl⟩, ⟨⟨dX10_spring_3, rfl⟩, rfl⟩, ⟨⟨dX10_spring_5, rfl⟩, rfl⟩, ⟨⟨dX10_spring_8, rfl⟩, rfl⟩, ⟨⟨dX10_spring_9, rfl⟩, Or.inl ⟨by decide, _, _, fX10_9⟩⟩, ⟨⟨dX10_spring_12, rfl⟩, rfl⟩, ⟨⟨dX10_spring_13, rfl⟩, Or.inr ⟨by decide, ⟨_, my_160, sX10_73⟩, fun q => absurd q (by decide)⟩⟩, ⟨⟨dX10_spring_16, rfl⟩, rfl⟩, ⟨⟨dX10_spring_17, rfl⟩, rfl⟩, ⟨⟨dX10_spring_18, rfl⟩, rfl⟩, ⟨⟨dX10_spring_21, rfl⟩, rfl⟩, ⟨⟨dX10_spring_22, rfl⟩, rfl⟩, ⟨⟨dX10_spring_23, rfl⟩, rfl⟩, ⟨⟨dX10_spring_26, rfl⟩, rfl⟩, ⟨⟨dX10_spring_27, rfl⟩, Or.inl ⟨by decide, _, _, fX10_21⟩⟩, ⟨⟨dX10_spring_30, rfl⟩, rfl⟩, ⟨⟨dX10_spring_31, rfl⟩, rfl⟩, ⟨⟨dX10_spring_32, rfl⟩, rfl⟩, ⟨⟨dX10_spring_33, rfl⟩, rfl⟩, ⟨⟨dX10_spring_34, rfl⟩, Or.inl ⟨by decide, _, _, fX10_26⟩⟩, ⟨⟨dX10_spring_37, rfl⟩, rfl⟩, ⟨⟨dX10_spring_38, rfl⟩, Or.inl ⟨by decide, _, _, fX10_21⟩⟩, trivial⟩,
  ⟨⟨⟨dX10_spring_41, rfl⟩, rfl⟩, ⟨⟨dX10_spring_43, rfl⟩, rfl⟩, ⟨⟨dX10_spring_44, rfl⟩, Or.inr ⟨by decide, ⟨_, my_23, sX10_79⟩, fun q => absurd q (by decide)⟩⟩, ⟨⟨dX10_spring_47, rfl⟩, Or.inr ⟨by decide, ⟨_, my_183, sX10_83⟩, fun q => absurd q (by decide)⟩⟩, ⟨⟨dX10_spring_50, rfl⟩, rfl⟩, ⟨⟨dX10_spring_51, rfl⟩, Or.inr ⟨by decide, ⟨_, my_187, sX10_89⟩, fun q => absurd q (by decide)⟩⟩, ⟨⟨dX10_spring_54, rfl⟩, Or.inr ⟨by decide, ⟨_, my_25, sX10_93⟩, fun q => absurd q (by decide)⟩⟩, ⟨⟨dX10_spring_57, rfl⟩, rfl⟩, ⟨⟨dX10_spring_60, rfl⟩, rfl⟩, ⟨⟨dX10_spring_61, rfl⟩, Or.inl ⟨rfl, _, my_161, sX10_97⟩⟩, ⟨⟨dX10_spring_64, rfl⟩, rfl⟩, ⟨⟨dX10_spring_67, rfl⟩, rfl⟩, ⟨⟨dX10_spring_68, rfl⟩, Or.inl ⟨by decide, _, _, fX10_21⟩⟩, ⟨⟨dX10_spring_71, rfl⟩, rfl⟩, ⟨⟨dX10_spring_72, rfl⟩, rfl⟩, ⟨⟨dX10_spring_73, rfl⟩, rfl⟩, ⟨⟨dX10_spring_74, rfl⟩, Or.inr ⟨by decide, ⟨_, my_25, sX10_93⟩, fun q => absurd q (by decide)⟩⟩, ⟨⟨dX10_spring_77, rfl⟩, ⟨rfl, rfl⟩⟩, ⟨⟨dX10_spring_80, rfl⟩, rfl⟩, ⟨⟨dX10_spring_83, rfl⟩, rfl⟩, trivial⟩, trivial⟩, by decide, Or.inl ⟨rfl, by decide, rfl⟩⟩
set_option maxRecDepth 100000 in
theorem g_X10_spring_0 (S : sT) (call : cT) (n : Nat) (a0 : Nat) (h : pH) : bd S call dflT E_X10_spring (n + 1) 0 [some (.ref a0), none, none] [] h = (bd S call dflT E_X10_spring n 2 [some (.ref a0), some (.int 0), none] [] h) := rfl
set_option maxRecDepth 100000 in
theorem g_X10_spring_2 (S : sT) (call : cT) (n : Nat) (a0 : Nat) (x1 : Int32) (o2 : Option Value) (h : pH) : bd S call dflT E_X10_spring (n + 1) 2 [some (.ref a0), some (.int x1), o2] [] h = ((if 48 ≤ x1 then some (.inl none, h) else gV h (.ref a0) 13 0 (fun w1 => rC h w1 3 (cI (call 160 [w1, .int x1] h) (fun y3 h2 => (if y3 = 0 then bd S call dflT E_X10_spring n 26 [some (.ref a0), some (.int x1), some (.int y3)] [] h2 else (if y3 = 1 then bd S call dflT E_X10_spring n 26 [some (.ref a0), some (.int x1), some (.int y3)] [] h2 else cI (call 161 [.int y3] h2) (fun y5 h4 => (if y5 = 0 then gV h4 (.ref a0) 13 1 (fun w6 => rC h4 w6 5 (cU (call 25 [w6, .int 3, .int x1, .int 0] h4) (fun h7 => bd S call dflT E_X10_spring n 2 [some (.ref a0), some (.int (x1 + 1)), some (.int y3)] [] h7))) else bd S call dflT E_X10_spring n 2 [some (.ref a0), some (.int (x1 + 1)), some (.int y3)] [] h4))))))))) := rfl
set_option maxRecDepth 100000 in
theorem g_X10_spring_26 (S : sT) (call : cT) (n : Nat) (a0 : Nat) (x1 : Int32) (x2 : Int32) (h : pH) : bd S call dflT E_X10_spring (n + 1) 26 [some (.ref a0), some (.int x1), some (.int x2)] [] h = (gV h (.ref a0) 13 1 (fun w1 => gV h (.ref a0) 13 2 (fun w2 => gV h (.ref a0) 13 1 (fun w3 => h8f [w2, .ref a0, .int x1, .int 3, w1] (rC h w3 5 (cI (call 23 [w3, .int 10, .int x1] h) (fun y5 h4 => rC h4 w2 4 (cA (call 183 [w2, .int y5] h4) (fun w7 h6 => rC h6 (.ref a0) 13 (cI (call 187 [.ref a0, w7, .int x1] h6) (fun y9 h8 => rC h8 w1 5 (cU (call 25 [w1, .int 3, .int x1, .int y9] h8) (fun h10 => bd S call dflT E_X10_spring n 2 [some (.ref a0), some (.int (x1 + 1)), some (.int x2)] [] h10))))))))))))) := rfl
theorem dX10_sellHarvest_0 : decode cX10_sellHarvest 0 = .ok (.aload_n 0, 1) := by decide +kernel
theorem dX10_sellHarvest_1 : decode cX10_sellHarvest 1 = .ok (.getfield 21, 3) := by decide +kernel
theorem dX10_sellHarvest_4 : decode cX10_sellHarvest 4 = .ok (.bipush 10, 2) := by decide +kernel
theorem dX10_sellHarvest_6 : decode cX10_sellHarvest 6 = .ok (.iload_n 1, 1) := by decide +kernel
theorem dX10_sellHarvest_7 : decode cX10_sellHarvest 7 = .ok (.invokevirtual 79, 3) := by decide +kernel
theorem dX10_sellHarvest_10 : decode cX10_sellHarvest 10 = .ok (.istore_n 2, 1) := by decide +kernel
theorem dX10_sellHarvest_11 : decode cX10_sellHarvest 11 = .ok (.iload_n 2, 1) := by decide +kernel
theorem dX10_sellHarvest_12 : decode cX10_sellHarvest 12 = .ok (.iconst (-1), 1) := by decide +kernel
theorem dX10_sellHarvest_13 : decode cX10_sellHarvest 13 = .ok (.if_icmp .ne 4, 3) := by decide +kernel
theorem dX10_sellHarvest_16 : decode cX10_sellHarvest 16 = .ok (.return_, 1) := by decide +kernel
theorem dX10_sellHarvest_17 : decode cX10_sellHarvest 17 = .ok (.aload_n 0, 1) := by decide +kernel
theorem dX10_sellHarvest_18 : decode cX10_sellHarvest 18 = .ok (.getfield 21, 3) := by decide +kernel
theorem dX10_sellHarvest_21 : decode cX10_sellHarvest 21 = .ok (.bipush 9, 2) := by decide +kernel
theorem dX10_sellHarvest_23 : decode cX10_sellHarvest 23 = .ok (.iload_n 1, 1) := by decide +kernel
theorem dX10_sellHarvest_24 : decode cX10_sellHarvest 24 = .ok (.invokevirtual 79, 3) := by decide +kernel
theorem dX10_sellHarvest_27 : decode cX10_sellHarvest 27 = .ok (.aload_n 0, 1) := by decide +kernel
theorem dX10_sellHarvest_28 : decode cX10_sellHarvest 28 = .ok (.getfield 9, 3) := by decide +kernel
theorem dX10_sellHarvest_31 : decode cX10_sellHarvest 31 = .ok (.aload_n 0, 1) := by decide +kernel
theorem dX10_sellHarvest_32 : decode cX10_sellHarvest 32 = .ok (.getfield 21, 3) := by decide +kernel
theorem dX10_sellHarvest_35 : decode cX10_sellHarvest 35 = .ok (.iconst 3, 1) := by decide +kernel
theorem dX10_sellHarvest_36 : decode cX10_sellHarvest 36 = .ok (.iload_n 1, 1) := by decide +kernel
theorem dX10_sellHarvest_37 : decode cX10_sellHarvest 37 = .ok (.invokevirtual 79, 3) := by decide +kernel
theorem dX10_sellHarvest_40 : decode cX10_sellHarvest 40 = .ok (.invokevirtual 101, 3) := by decide +kernel
theorem dX10_sellHarvest_43 : decode cX10_sellHarvest 43 = .ok (.imul, 1) := by decide +kernel
theorem dX10_sellHarvest_44 : decode cX10_sellHarvest 44 = .ok (.istore_n 3, 1) := by decide +kernel
theorem dX10_sellHarvest_45 : decode cX10_sellHarvest 45 = .ok (.aload_n 0, 1) := by decide +kernel
theorem dX10_sellHarvest_46 : decode cX10_sellHarvest 46 = .ok (.getfield 31, 3) := by decide +kernel
theorem dX10_sellHarvest_49 : decode cX10_sellHarvest 49 = .ok (.iload_n 3, 1) := by decide +kernel
theorem dX10_sellHarvest_50 : decode cX10_sellHarvest 50 = .ok (.invokevirtual 144, 3) := by decide +kernel
theorem dX10_sellHarvest_53 : decode cX10_sellHarvest 53 = .ok (.aload_n 0, 1) := by decide +kernel
theorem dX10_sellHarvest_54 : decode cX10_sellHarvest 54 = .ok (.getfield 26, 3) := by decide +kernel
theorem dX10_sellHarvest_57 : decode cX10_sellHarvest 57 = .ok (.iload_n 2, 1) := by decide +kernel
theorem dX10_sellHarvest_58 : decode cX10_sellHarvest 58 = .ok (.invokevirtual 147, 3) := by decide +kernel
theorem dX10_sellHarvest_61 : decode cX10_sellHarvest 61 = .ok (.ifCond .eq 17, 3) := by decide +kernel
theorem dX10_sellHarvest_64 : decode cX10_sellHarvest 64 = .ok (.aload_n 0, 1) := by decide +kernel
theorem dX10_sellHarvest_65 : decode cX10_sellHarvest 65 = .ok (.getfield 26, 3) := by decide +kernel
theorem dX10_sellHarvest_68 : decode cX10_sellHarvest 68 = .ok (.iconst 2, 1) := by decide +kernel
theorem dX10_sellHarvest_69 : decode cX10_sellHarvest 69 = .ok (.iload_n 2, 1) := by decide +kernel
theorem dX10_sellHarvest_70 : decode cX10_sellHarvest 70 = .ok (.iload_n 3, 1) := by decide +kernel
theorem dX10_sellHarvest_71 : decode cX10_sellHarvest 71 = .ok (.i2l, 1) := by decide +kernel
theorem dX10_sellHarvest_72 : decode cX10_sellHarvest 72 = .ok (.invokevirtual 150, 3) := by decide +kernel
theorem dX10_sellHarvest_75 : decode cX10_sellHarvest 75 = .ok (.goto 24, 3) := by decide +kernel
theorem dX10_sellHarvest_78 : decode cX10_sellHarvest 78 = .ok (.aload_n 0, 1) := by decide +kernel
theorem dX10_sellHarvest_79 : decode cX10_sellHarvest 79 = .ok (.getfield 31, 3) := by decide +kernel
theorem dX10_sellHarvest_82 : decode cX10_sellHarvest 82 = .ok (.iload_n 3, 1) := by decide +kernel
theorem dX10_sellHarvest_83 : decode cX10_sellHarvest 83 = .ok (.i2l, 1) := by decide +kernel
theorem dX10_sellHarvest_84 : decode cX10_sellHarvest 84 = .ok (.invokevirtual 154, 3) := by decide +kernel
theorem dX10_sellHarvest_87 : decode cX10_sellHarvest 87 = .ok (.aload_n 0, 1) := by decide +kernel
theorem dX10_sellHarvest_88 : decode cX10_sellHarvest 88 = .ok (.getfield 26, 3) := by decide +kernel
theorem dX10_sellHarvest_91 : decode cX10_sellHarvest 91 = .ok (.bipush 7, 2) := by decide +kernel
theorem dX10_sellHarvest_93 : decode cX10_sellHarvest 93 = .ok (.iload_n 2, 1) := by decide +kernel
theorem dX10_sellHarvest_94 : decode cX10_sellHarvest 94 = .ok (.iload_n 3, 1) := by decide +kernel
theorem dX10_sellHarvest_95 : decode cX10_sellHarvest 95 = .ok (.i2l, 1) := by decide +kernel
theorem dX10_sellHarvest_96 : decode cX10_sellHarvest 96 = .ok (.invokevirtual 150, 3) := by decide +kernel
theorem dX10_sellHarvest_99 : decode cX10_sellHarvest 99 = .ok (.return_, 1) := by decide +kernel
noncomputable def E_X10_sellHarvest : mE := (mX10_sellHarvest, [(43, [(0, (.aload_n 0, 1, false, false, 0, 0, 0, 0, 0, 0, [])), (1, (.getfield 21, 4, false, false, 13, 1, 1, 0, 0, 0, [])), (4, (.bipush 10, 6, false, false, 0, 0, 0, 0, 10, 0, [])), (6, (.iload_n 1, 7, false, false, 1, 0, 0, 0, 0, 0, [])), (7, (.invokevirtual 79, 10, false, false, 23, 2, 1, 5, 0, 0, [])), (10, (.istore_n 2, 11, false, false, 2, 0, 0, 0, 0, 0, [])), (11, (.iload_n 2, 12, false, false, 2, 0, 0, 0, 0, 0, [])), (12, (.iconst (-1), 13, false, false, 0, 0, 0, 0, -1, 0, [])), (13, (.if_icmp .ne 4, 16, false, false, 17, 0, 0, 0, 0, 0, [])), (16, (.return_, 17, false, false, 0, 0, 0, 0, 0, 0, [])), (17, (.aload_n 0, 18, false, false, 0, 0, 0, 0, 0, 0, [])), (18, (.getfield 21, 21, false, false, 13, 1, 1, 0, 0, 0, [])), (21, (.bipush 9, 23, false, false, 0, 0, 0, 0, 9, 0, [])), (23, (.iload_n 1, 24, false, false, 1, 0, 0, 0, 0, 0, [])), (24, (.invokevirtual 79, 27, false, false, 23, 2, 1, 5, 0, 0, [])), (27, (.aload_n 0, 28, false, false, 0, 0, 0, 0, 0, 0, [])), (28, (.getfield 9, 31, false, false, 13, 0, 1, 0, 0, 0, [])), (31, (.aload_n 0, 32, false, false, 0, 0, 0, 0, 0, 0, [])), (32, (.getfield 21, 35, false, false, 13, 1, 1, 0, 0, 0, [])), (35, (.iconst 3, 36, false, false, 0, 0, 0, 0, 3, 0, [])), (36, (.iload_n 1, 37, false, false, 1, 0, 0, 0, 0, 0, [])), (37, (.invokevirtual 79, 40, false, false, 23, 2, 1, 5, 0, 0, [])), (40, (.invokevirtual 101, 43, false, false, 184, 1, 1, 3, 0, 0, [])), (43, (.imul, 44, false, false, 0, 0, 0, 0, 0, 0, []))]),
  (87, [(44, (.istore_n 3, 45, false, false, 3, 0, 0, 0, 0, 0, [])), (45, (.aload_n 0, 46, false, false, 0, 0, 0, 0, 0, 0, [])), (46, (.getfield 31, 49, false, false, 13, 3, 1, 0, 0, 0, [])), (49, (.iload_n 3, 50, false, false, 3, 0, 0, 0, 0, 0, [])), (50, (.invokevirtual 144, 53, false, false, 190, 1, 0, 6, 0, 0, [])), (53, (.aload_n 0, 54, false, false, 0, 0, 0, 0, 0, 0, [])), (54, (.getfield 26, 57, false, false, 13, 2, 1, 0, 0, 0, [])), (57, (.iload_n 2, 58, false, false, 2, 0, 0, 0, 0, 0, [])), (58, (.invokevirtual 147, 61, false, false, 174, 1, 1, 4, 0, 0, [])), (61, (.ifCond .eq 17, 64, false, false, 78, 0, 0, 0, 0, 0, [])), (64, (.aload_n 0, 65, false, false, 0, 0, 0, 0, 0, 0, [])), (65, (.getfield 26, 68, false, false, 13, 2, 1, 0, 0, 0, [])), (68, (.iconst 2, 69, false, false, 0, 0, 0, 0, 2, 0, [])), (69, (.iload_n 2, 70, false, false, 2, 0, 0, 0, 0, 0, [])), (70, (.iload_n 3, 71, false, false, 3, 0, 0, 0, 0, 0, [])), (71, (.i2l, 72, false, false, 0, 0, 0, 0, 0, 0, [])), (72, (.invokevirtual 150, 75, false, false, 104, 3, 0, 4, 0, 0, [])), (75, (.goto 24, 78, false, false, 99, 0, 0, 0, 0, 0, [])), (78, (.aload_n 0, 79, false, false, 0, 0, 0, 0, 0, 0, [])), (79, (.getfield 31, 82, false, false, 13, 3, 1, 0, 0, 0, [])), (82, (.iload_n 3, 83, false, false, 3, 0, 0, 0, 0, 0, [])), (83, (.i2l, 84, false, false, 0, 0, 0, 0, 0, 0, [])), (84, (.invokevirtual 154, 87, false, false, 191, 1, 0, 6, 0, 0, [])), (87, (.aload_n 0, 88, false, false, 0, 0, 0, 0, 0, 0, []))]),
  (99, [(88, (.getfield 26, 91, false, false, 13, 2, 1, 0, 0, 0, [])), (91, (.bipush 7, 93, false, false, 0, 0, 0, 0, 7, 0, [])), (93, (.iload_n 2, 94, false, false, 2, 0, 0, 0, 0, 0, [])), (94, (.iload_n 3, 95, false, false, 3, 0, 0, 0, 0, 0, [])), (95, (.i2l, 96, false, false, 0, 0, 0, 0, 0, 0, [])), (96, (.invokevirtual 150, 99, false, false, 104, 3, 0, 4, 0, 0, [])), (99, (.return_, 100, false, false, 0, 0, 0, 0, 0, 0, []))])], 0, [])
set_option maxRecDepth 100000 in
theorem v_X10_sellHarvest : VE MYT dflT E_X10_sellHarvest := ⟨⟨⟨⟨⟨dX10_sellHarvest_0, rfl⟩, rfl⟩, ⟨⟨dX10_sellHarvest_1, rfl⟩, Or.inl ⟨by decide, _, _, fX10_21⟩⟩, ⟨⟨dX10_sellHarvest_4, rfl⟩, rfl⟩, ⟨⟨dX10_sellHarvest_6, rfl⟩, rfl⟩, ⟨⟨dX10_sellHarvest_7, rfl⟩, Or.inr ⟨by decide, ⟨_, my_23, sX10_79⟩, fun q => absurd q (by decide)⟩⟩, ⟨⟨dX10_sellHarvest_10, rfl⟩, rfl⟩, ⟨⟨dX10_sellHarvest_11, rfl⟩, rfl⟩, ⟨⟨dX10_sellHarvest_12, rfl⟩, rfl⟩, ⟨⟨dX10_sellHarvest_13, rfl⟩, rfl⟩, ⟨⟨dX10_sellHarvest_16, rfl⟩, rfl⟩, ⟨⟨dX10_sellHarvest_17, rfl⟩, rfl⟩, ⟨⟨dX10_sellHarvest_18, rfl⟩, Or.inl ⟨by decide, _, _, fX10_21⟩⟩, ⟨⟨dX10_sellHarvest_21, rfl⟩, rfl⟩, ⟨⟨dX10_sellHarvest_23, rfl⟩, rfl⟩, ⟨⟨dX10_sellHarvest_24, rfl⟩, Or.inr ⟨by decide, ⟨_, my_23, sX10_79⟩, fun q => absurd q (by decide)⟩⟩, ⟨⟨dX10_sellHarvest_27, rfl⟩, rfl⟩, ⟨⟨dX10_sellHarvest_28, rfl⟩, Or.inl ⟨by decide, _, _, fX10_9⟩⟩, ⟨⟨dX10_sellHarvest_31, rfl⟩, rfl⟩, ⟨⟨dX10_sellHarvest_32, rfl⟩, Or.inl ⟨by decide, _, _, fX10_21⟩⟩, ⟨⟨dX10_sellHarvest_35, rfl⟩, rfl⟩, ⟨⟨dX10_sellHarvest_36, rfl⟩, rfl⟩, ⟨⟨dX10_sellHarvest_37, rfl⟩, Or.inr ⟨by decide, ⟨_, my_23, sX10_79⟩, fun q => absurd q (by decide)⟩⟩, ⟨⟨dX10_sellHarvest_40, rfl⟩, Or.inr ⟨by decide, ⟨_, my_184, sX10_101⟩, fun q => absurd q (by decide)⟩⟩, ⟨⟨dX10_sellHarvest_43, rfl⟩, trivial⟩, trivial⟩,
  ⟨⟨⟨dX10_sellHarvest_44, rfl⟩, rfl⟩, ⟨⟨dX10_sellHarvest_45, rfl⟩, rfl⟩, ⟨⟨dX10_sellHarvest_46, rfl⟩, Or.inl ⟨by decide, _, _, fX10_31⟩⟩, ⟨⟨dX10_sellHarvest_49, rfl⟩, rfl⟩, ⟨⟨dX10_sellHarvest_50, rfl⟩, Or.inr ⟨by decide, ⟨_, my_190, sX10_144⟩, fun q => absurd q (by decide)⟩⟩, ⟨⟨dX10_sellHarvest_53, rfl⟩, rfl⟩, ⟨⟨dX10_sellHarvest_54, rfl⟩, Or.inl ⟨by decide, _, _, fX10_26⟩⟩, ⟨⟨dX10_sellHarvest_57, rfl⟩, rfl⟩, ⟨⟨dX10_sellHarvest_58, rfl⟩, Or.inr ⟨by decide, ⟨_, my_174, sX10_147⟩, fun q => absurd q (by decide)⟩⟩, ⟨⟨dX10_sellHarvest_61, rfl⟩, rfl⟩, ⟨⟨dX10_sellHarvest_64, rfl⟩, rfl⟩, ⟨⟨dX10_sellHarvest_65, rfl⟩, Or.inl ⟨by decide, _, _, fX10_26⟩⟩, ⟨⟨dX10_sellHarvest_68, rfl⟩, rfl⟩, ⟨⟨dX10_sellHarvest_69, rfl⟩, rfl⟩, ⟨⟨dX10_sellHarvest_70, rfl⟩, rfl⟩, ⟨⟨dX10_sellHarvest_71, rfl⟩, trivial⟩, ⟨⟨dX10_sellHarvest_72, rfl⟩, Or.inr ⟨by decide, ⟨_, my_104, sX10_150⟩, fun q => absurd q (by decide)⟩⟩, ⟨⟨dX10_sellHarvest_75, rfl⟩, rfl⟩, ⟨⟨dX10_sellHarvest_78, rfl⟩, rfl⟩, ⟨⟨dX10_sellHarvest_79, rfl⟩, Or.inl ⟨by decide, _, _, fX10_31⟩⟩, ⟨⟨dX10_sellHarvest_82, rfl⟩, rfl⟩, ⟨⟨dX10_sellHarvest_83, rfl⟩, trivial⟩, ⟨⟨dX10_sellHarvest_84, rfl⟩, Or.inr ⟨by decide, ⟨_, my_191, sX10_154⟩, fun q => absurd q (by decide)⟩⟩, ⟨⟨dX10_sellHarvest_87, rfl⟩, rfl⟩, trivial⟩,
  ⟨⟨⟨dX10_sellHarvest_88, rfl⟩, Or.inl ⟨by decide, _, _, fX10_26⟩⟩, ⟨⟨dX10_sellHarvest_91, rfl⟩, rfl⟩, ⟨⟨dX10_sellHarvest_93, rfl⟩, rfl⟩, ⟨⟨dX10_sellHarvest_94, rfl⟩, rfl⟩, ⟨⟨dX10_sellHarvest_95, rfl⟩, trivial⟩, ⟨⟨dX10_sellHarvest_96, rfl⟩, Or.inr ⟨by decide, ⟨_, my_104, sX10_150⟩, fun q => absurd q (by decide)⟩⟩, ⟨⟨dX10_sellHarvest_99, rfl⟩, rfl⟩, trivial⟩, trivial⟩, by decide, Or.inl ⟨rfl, by decide, rfl⟩⟩
set_option maxRecDepth 100000 in
theorem g_X10_sellHarvest_0 (S : sT) (call : cT) (n : Nat) (a0 : Nat) (x1 : Int32) (h : pH) : bd S call dflT E_X10_sellHarvest (n + 1) 0 [some (.ref a0), some (.int x1), none, none] [] h = (gV h (.ref a0) 13 1 (fun w1 => rC h w1 5 (cI (call 23 [w1, .int 10, .int x1] h) (fun y3 h2 => (if y3 = (-1) then some (.inl none, h2) else gV h2 (.ref a0) 13 1 (fun w4 => rC h2 w4 5 (cI (call 23 [w4, .int 9, .int x1] h2) (fun y6 h5 => gV h5 (.ref a0) 13 0 (fun w7 => gV h5 (.ref a0) 13 1 (fun w8 => rC h5 w8 5 (cI (call 23 [w8, .int 3, .int x1] h5) (fun y10 h9 => rC h9 w7 3 (cI (call 184 [w7, .int y10] h9) (fun y12 h11 => gV h11 (.ref a0) 13 3 (fun w13 => rC h11 w13 6 (cU (call 190 [w13, .int (y6 * y12)] h11) (fun h14 => gV h14 (.ref a0) 13 2 (fun w15 => rC h14 w15 4 (cI (call 174 [w15, .int y3] h14) (fun y17 h16 => (if y17 = 0 then gV h16 (.ref a0) 13 3 (fun w18 => rC h16 w18 6 (cU (call 191 [w18, .long (y6 * y12).toInt64] h16) (fun h19 => gV h19 (.ref a0) 13 2 (fun w20 => rC h19 w20 4 (cU (call 104 [w20, .int 7, .int y3, .long (y6 * y12).toInt64] h19) (fun h21 => some (.inl none, h21))))))) else gV h16 (.ref a0) 13 2 (fun w22 => rC h16 w22 4 (cU (call 104 [w22, .int 2, .int y3, .long (y6 * y12).toInt64] h16) (fun h23 => some (.inl none, h23))))))))))))))))))))))))) := rfl
theorem dX10_summer_0 : decode cX10_summer 0 = .ok (.aload_n 0, 1) := by decide +kernel
theorem dX10_summer_1 : decode cX10_summer 1 = .ok (.getfield 9, 3) := by decide +kernel
theorem dX10_summer_4 : decode cX10_summer 4 = .ok (.getfield 118, 3) := by decide +kernel
theorem dX10_summer_7 : decode cX10_summer 7 = .ok (.aload_n 0, 1) := by decide +kernel
theorem dX10_summer_8 : decode cX10_summer 8 = .ok (.getfield 9, 3) := by decide +kernel
theorem dX10_summer_11 : decode cX10_summer 11 = .ok (.getfield 35, 3) := by decide +kernel
theorem dX10_summer_14 : decode cX10_summer 14 = .ok (.iconst 4, 1) := by decide +kernel
theorem dX10_summer_15 : decode cX10_summer 15 = .ok (.idiv, 1) := by decide +kernel
theorem dX10_summer_16 : decode cX10_summer 16 = .ok (.invokevirtual 122, 3) := by decide +kernel
theorem dX10_summer_19 : decode cX10_summer 19 = .ok (.istore_n 1, 1) := by decide +kernel
theorem dX10_summer_20 : decode cX10_summer 20 = .ok (.iconst 0, 1) := by decide +kernel
theorem dX10_summer_21 : decode cX10_summer 21 = .ok (.istore_n 2, 1) := by decide +kernel
theorem dX10_summer_22 : decode cX10_summer 22 = .ok (.iload_n 2, 1) := by decide +kernel
theorem dX10_summer_23 : decode cX10_summer 23 = .ok (.bipush 48, 2) := by decide +kernel
theorem dX10_summer_25 : decode cX10_summer 25 = .ok (.if_icmp .ge 23, 3) := by decide +kernel
theorem dX10_summer_28 : decode cX10_summer 28 = .ok (.aload_n 0, 1) := by decide +kernel
theorem dX10_summer_29 : decode cX10_summer 29 = .ok (.getfield 21, 3) := by decide +kernel
theorem dX10_summer_32 : decode cX10_summer 32 = .ok (.iload_n 2, 1) := by decide +kernel
theorem dX10_summer_33 : decode cX10_summer 33 = .ok (.iload_n 1, 1) := by decide +kernel
theorem dX10_summer_34 : decode cX10_summer 34 = .ok (.invokevirtual 127, 3) := by decide +kernel
theorem dX10_summer_37 : decode cX10_summer 37 = .ok (.aload_n 0, 1) := by decide +kernel
theorem dX10_summer_38 : decode cX10_summer 38 = .ok (.iload_n 2, 1) := by decide +kernel
theorem dX10_summer_39 : decode cX10_summer 39 = .ok (.invokevirtual 131, 3) := by decide +kernel
theorem dX10_summer_42 : decode cX10_summer 42 = .ok (.iinc 2 1, 3) := by decide +kernel
theorem dX10_summer_45 : decode cX10_summer 45 = .ok (.goto (-23), 3) := by decide +kernel
theorem dX10_summer_48 : decode cX10_summer 48 = .ok (.aload_n 0, 1) := by decide +kernel
theorem dX10_summer_49 : decode cX10_summer 49 = .ok (.getfield 9, 3) := by decide +kernel
theorem dX10_summer_52 : decode cX10_summer 52 = .ok (.getfield 134, 3) := by decide +kernel
theorem dX10_summer_55 : decode cX10_summer 55 = .ok (.aload_n 0, 1) := by decide +kernel
theorem dX10_summer_56 : decode cX10_summer 56 = .ok (.getfield 21, 3) := by decide +kernel
theorem dX10_summer_59 : decode cX10_summer 59 = .ok (.invokevirtual 138, 3) := by decide +kernel
theorem dX10_summer_62 : decode cX10_summer 62 = .ok (.return_, 1) := by decide +kernel
noncomputable def E_X10_summer : mE := (mX10_summer, [(42, [(0, (.aload_n 0, 1, false, false, 0, 0, 0, 0, 0, 0, [])), (1, (.getfield 9, 4, false, false, 13, 0, 1, 0, 0, 0, [])), (4, (.getfield 118, 7, false, false, 3, 3, 1, 0, 0, 0, [])), (7, (.aload_n 0, 8, false, false, 0, 0, 0, 0, 0, 0, [])), (8, (.getfield 9, 11, false, false, 13, 0, 1, 0, 0, 0, [])), (11, (.getfield 35, 14, false, false, 3, 7, 0, 0, 0, 0, [])), (14, (.iconst 4, 15, false, false, 0, 0, 0, 0, 4, 0, [])), (15, (.idiv, 16, false, false, 0, 0, 0, 0, 0, 0, [])), (16, (.invokevirtual 122, 19, false, false, 39, 1, 1, 7, 0, 0, [])), (19, (.istore_n 1, 20, false, false, 1, 0, 0, 0, 0, 0, [])), (20, (.iconst 0, 21, false, false, 0, 0, 0, 0, 0, 0, [])), (21, (.istore_n 2, 22, true, false, 2, 0, 0, 0, 0, 0, [])), (22, (.iload_n 2, 23, false, false, 2, 0, 0, 0, 0, 0, [])), (23, (.bipush 48, 25, false, false, 0, 0, 0, 0, 48, 0, [])), (25, (.if_icmp .ge 23, 28, false, false, 48, 0, 0, 0, 0, 0, [])), (28, (.aload_n 0, 29, false, false, 0, 0, 0, 0, 0, 0, [])), (29, (.getfield 21, 32, false, false, 13, 1, 1, 0, 0, 0, [])), (32, (.iload_n 2, 33, false, false, 2, 0, 0, 0, 0, 0, [])), (33, (.iload_n 1, 34, false, false, 1, 0, 0, 0, 0, 0, [])), (34, (.invokevirtual 127, 37, false, false, 189, 2, 0, 5, 0, 0, [])), (37, (.aload_n 0, 38, false, false, 0, 0, 0, 0, 0, 0, [])), (38, (.iload_n 2, 39, false, false, 2, 0, 0, 0, 0, 0, [])), (39, (.invokevirtual 131, 42, false, false, 192, 1, 0, 13, 0, 0, [])), (42, (.iinc 2 1, 45, false, false, 2, 0, 0, 0, 1, 0, []))]),
  (62, [(45, (.goto (-23), 48, false, true, 22, 0, 0, 0, 0, 0, [])), (48, (.aload_n 0, 49, false, false, 0, 0, 0, 0, 0, 0, [])), (49, (.getfield 9, 52, false, false, 13, 0, 1, 0, 0, 0, [])), (52, (.getfield 134, 55, false, false, 3, 6, 1, 0, 0, 0, [])), (55, (.aload_n 0, 56, false, false, 0, 0, 0, 0, 0, 0, [])), (56, (.getfield 21, 59, false, false, 13, 1, 1, 0, 0, 0, [])), (59, (.invokevirtual 138, 62, false, false, 193, 1, 0, 10, 0, 0, [])), (62, (.return_, 63, false, false, 0, 0, 0, 0, 0, 0, []))])], 0, [])
set_option maxRecDepth 100000 in
theorem v_X10_summer : VE MYT dflT E_X10_summer := ⟨⟨⟨⟨⟨dX10_summer_0, rfl⟩, rfl⟩, ⟨⟨dX10_summer_1, rfl⟩, Or.inl ⟨by decide, _, _, fX10_9⟩⟩, ⟨⟨dX10_summer_4, rfl⟩, Or.inl ⟨by decide, _, _, fX10_118⟩⟩, ⟨⟨dX10_summer_7, rfl⟩, rfl⟩, ⟨⟨dX10_summer_8, rfl⟩, Or.inl ⟨by decide, _, _, fX10_9⟩⟩, ⟨⟨dX10_summer_11, rfl⟩, Or.inl ⟨by decide, _, _, fX10_35⟩⟩, ⟨⟨dX10_summer_14, rfl⟩, rfl⟩, ⟨⟨dX10_summer_15, rfl⟩, trivial⟩, ⟨⟨dX10_summer_16, rfl⟩, Or.inr ⟨by decide, ⟨_, my_39, sX10_122⟩, fun q => absurd q (by decide)⟩⟩, ⟨⟨dX10_summer_19, rfl⟩, rfl⟩, ⟨⟨dX10_summer_20, rfl⟩, rfl⟩, ⟨⟨dX10_summer_21, rfl⟩, rfl⟩, ⟨⟨dX10_summer_22, rfl⟩, rfl⟩, ⟨⟨dX10_summer_23, rfl⟩, rfl⟩, ⟨⟨dX10_summer_25, rfl⟩, rfl⟩, ⟨⟨dX10_summer_28, rfl⟩, rfl⟩, ⟨⟨dX10_summer_29, rfl⟩, Or.inl ⟨by decide, _, _, fX10_21⟩⟩, ⟨⟨dX10_summer_32, rfl⟩, rfl⟩, ⟨⟨dX10_summer_33, rfl⟩, rfl⟩, ⟨⟨dX10_summer_34, rfl⟩, Or.inr ⟨by decide, ⟨_, my_189, sX10_127⟩, fun q => absurd q (by decide)⟩⟩, ⟨⟨dX10_summer_37, rfl⟩, rfl⟩, ⟨⟨dX10_summer_38, rfl⟩, rfl⟩, ⟨⟨dX10_summer_39, rfl⟩, Or.inr ⟨by decide, ⟨_, my_192, sX10_131⟩, fun q => absurd q (by decide)⟩⟩, ⟨⟨dX10_summer_42, rfl⟩, ⟨rfl, rfl⟩⟩, trivial⟩,
  ⟨⟨⟨dX10_summer_45, rfl⟩, rfl⟩, ⟨⟨dX10_summer_48, rfl⟩, rfl⟩, ⟨⟨dX10_summer_49, rfl⟩, Or.inl ⟨by decide, _, _, fX10_9⟩⟩, ⟨⟨dX10_summer_52, rfl⟩, Or.inl ⟨by decide, _, _, fX10_134⟩⟩, ⟨⟨dX10_summer_55, rfl⟩, rfl⟩, ⟨⟨dX10_summer_56, rfl⟩, Or.inl ⟨by decide, _, _, fX10_21⟩⟩, ⟨⟨dX10_summer_59, rfl⟩, Or.inr ⟨by decide, ⟨_, my_193, sX10_138⟩, fun q => absurd q (by decide)⟩⟩, ⟨⟨dX10_summer_62, rfl⟩, rfl⟩, trivial⟩, trivial⟩, by decide, Or.inl ⟨rfl, by decide, rfl⟩⟩
set_option maxRecDepth 100000 in
theorem g_X10_summer_0 (S : sT) (call : cT) (n : Nat) (a0 : Nat) (h : pH) : bd S call dflT E_X10_summer (n + 1) 0 [some (.ref a0), none, none] [] h = (gV h (.ref a0) 13 0 (fun w1 => gV h w1 3 3 (fun w2 => gV h (.ref a0) 13 0 (fun w3 => gI h w3 3 7 (fun y4 => dv 4 (rC h w2 7 (cI (call 39 [w2, .int (y4 / 4)] h) (fun y6 h5 => bd S call dflT E_X10_summer n 22 [some (.ref a0), some (.int y6), some (.int 0)] [] h5)))))))) := rfl
set_option maxRecDepth 100000 in
theorem g_X10_summer_22 (S : sT) (call : cT) (n : Nat) (a0 : Nat) (x1 : Int32) (x2 : Int32) (h : pH) : bd S call dflT E_X10_summer (n + 1) 22 [some (.ref a0), some (.int x1), some (.int x2)] [] h = ((if 48 ≤ x2 then gV h (.ref a0) 13 0 (fun w1 => gV h w1 3 6 (fun w2 => gV h (.ref a0) 13 1 (fun w3 => rC h w2 10 (cU (call 193 [w2, w3] h) (fun h4 => some (.inl none, h4)))))) else gV h (.ref a0) 13 1 (fun w5 => rC h w5 5 (cU (call 189 [w5, .int x2, .int x1] h) (fun h6 => rC h6 (.ref a0) 13 (cU (call 192 [.ref a0, .int x2] h6) (fun h7 => bd S call dflT E_X10_summer n 22 [some (.ref a0), some (.int x1), some (.int (x2 + 1))] [] h7))))))) := rfl
theorem dX10_harmOfGame_0 : decode cX10_harmOfGame 0 = .ok (.aload_n 0, 1) := by decide +kernel
theorem dX10_harmOfGame_1 : decode cX10_harmOfGame 1 = .ok (.getfield 26, 3) := by decide +kernel
theorem dX10_harmOfGame_4 : decode cX10_harmOfGame 4 = .ok (.iload_n 1, 1) := by decide +kernel
theorem dX10_harmOfGame_5 : decode cX10_harmOfGame 5 = .ok (.invokevirtual 83, 3) := by decide +kernel
theorem dX10_harmOfGame_8 : decode cX10_harmOfGame 8 = .ok (.astore_n 2, 1) := by decide +kernel
theorem dX10_harmOfGame_9 : decode cX10_harmOfGame 9 = .ok (.aload_n 2, 1) := by decide +kernel
theorem dX10_harmOfGame_10 : decode cX10_harmOfGame 10 = .ok (.iconst 1, 1) := by decide +kernel
theorem dX10_harmOfGame_11 : decode cX10_harmOfGame 11 = .ok (.aload_n 2, 1) := by decide +kernel
theorem dX10_harmOfGame_12 : decode cX10_harmOfGame 12 = .ok (.bipush 30, 2) := by decide +kernel
theorem dX10_harmOfGame_14 : decode cX10_harmOfGame 14 = .ok (.iconst 0, 1) := by decide +kernel
theorem dX10_harmOfGame_15 : decode cX10_harmOfGame 15 = .ok (.invokevirtual 196, 3) := by decide +kernel
theorem dX10_harmOfGame_18 : decode cX10_harmOfGame 18 = .ok (.invokevirtual 117, 3) := by decide +kernel
theorem dX10_harmOfGame_21 : decode cX10_harmOfGame 21 = .ok (.istore_n 3, 1) := by decide +kernel
theorem dX10_harmOfGame_22 : decode cX10_harmOfGame 22 = .ok (.iconst 0, 1) := by decide +kernel
theorem dX10_harmOfGame_23 : decode cX10_harmOfGame 23 = .ok (.istore 4, 2) := by decide +kernel
theorem dX10_harmOfGame_25 : decode cX10_harmOfGame 25 = .ok (.iconst 0, 1) := by decide +kernel
theorem dX10_harmOfGame_26 : decode cX10_harmOfGame 26 = .ok (.istore 5, 2) := by decide +kernel
theorem dX10_harmOfGame_28 : decode cX10_harmOfGame 28 = .ok (.iload 5, 2) := by decide +kernel
theorem dX10_harmOfGame_30 : decode cX10_harmOfGame 30 = .ok (.bipush 48, 2) := by decide +kernel
theorem dX10_harmOfGame_32 : decode cX10_harmOfGame 32 = .ok (.if_icmp .ge 59, 3) := by decide +kernel
theorem dX10_harmOfGame_35 : decode cX10_harmOfGame 35 = .ok (.aload_n 0, 1) := by decide +kernel
theorem dX10_harmOfGame_36 : decode cX10_harmOfGame 36 = .ok (.getfield 21, 3) := by decide +kernel
theorem dX10_harmOfGame_39 : decode cX10_harmOfGame 39 = .ok (.bipush 10, 2) := by decide +kernel
theorem dX10_harmOfGame_41 : decode cX10_harmOfGame 41 = .ok (.iload 5, 2) := by decide +kernel
theorem dX10_harmOfGame_43 : decode cX10_harmOfGame 43 = .ok (.invokevirtual 79, 3) := by decide +kernel
theorem dX10_harmOfGame_46 : decode cX10_harmOfGame 46 = .ok (.iload_n 1, 1) := by decide +kernel
theorem dX10_harmOfGame_47 : decode cX10_harmOfGame 47 = .ok (.if_icmp .ne 38, 3) := by decide +kernel
theorem dX10_harmOfGame_50 : decode cX10_harmOfGame 50 = .ok (.iload 4, 2) := by decide +kernel
theorem dX10_harmOfGame_52 : decode cX10_harmOfGame 52 = .ok (.aload_n 0, 1) := by decide +kernel
theorem dX10_harmOfGame_53 : decode cX10_harmOfGame 53 = .ok (.getfield 21, 3) := by decide +kernel
theorem dX10_harmOfGame_56 : decode cX10_harmOfGame 56 = .ok (.bipush 12, 2) := by decide +kernel
theorem dX10_harmOfGame_58 : decode cX10_harmOfGame 58 = .ok (.iload 5, 2) := by decide +kernel
theorem dX10_harmOfGame_60 : decode cX10_harmOfGame 60 = .ok (.invokevirtual 79, 3) := by decide +kernel
theorem dX10_harmOfGame_63 : decode cX10_harmOfGame 63 = .ok (.aload_n 0, 1) := by decide +kernel
theorem dX10_harmOfGame_64 : decode cX10_harmOfGame 64 = .ok (.getfield 9, 3) := by decide +kernel
theorem dX10_harmOfGame_67 : decode cX10_harmOfGame 67 = .ok (.aload_n 0, 1) := by decide +kernel
theorem dX10_harmOfGame_68 : decode cX10_harmOfGame 68 = .ok (.getfield 21, 3) := by decide +kernel
theorem dX10_harmOfGame_71 : decode cX10_harmOfGame 71 = .ok (.bipush 13, 2) := by decide +kernel
theorem dX10_harmOfGame_73 : decode cX10_harmOfGame 73 = .ok (.iload 5, 2) := by decide +kernel
theorem dX10_harmOfGame_75 : decode cX10_harmOfGame 75 = .ok (.invokevirtual 79, 3) := by decide +kernel
theorem dX10_harmOfGame_78 : decode cX10_harmOfGame 78 = .ok (.invokevirtual 101, 3) := by decide +kernel
theorem dX10_harmOfGame_81 : decode cX10_harmOfGame 81 = .ok (.imul, 1) := by decide +kernel
theorem dX10_harmOfGame_82 : decode cX10_harmOfGame 82 = .ok (.iadd, 1) := by decide +kernel
theorem dX10_harmOfGame_83 : decode cX10_harmOfGame 83 = .ok (.istore 4, 2) := by decide +kernel
theorem dX10_harmOfGame_85 : decode cX10_harmOfGame 85 = .ok (.iinc 5 1, 3) := by decide +kernel
theorem dX10_harmOfGame_88 : decode cX10_harmOfGame 88 = .ok (.goto (-60), 3) := by decide +kernel
theorem dX10_harmOfGame_91 : decode cX10_harmOfGame 91 = .ok (.iload 4, 2) := by decide +kernel
theorem dX10_harmOfGame_93 : decode cX10_harmOfGame 93 = .ok (.iload_n 3, 1) := by decide +kernel
theorem dX10_harmOfGame_94 : decode cX10_harmOfGame 94 = .ok (.imul, 1) := by decide +kernel
theorem dX10_harmOfGame_95 : decode cX10_harmOfGame 95 = .ok (.bipush 100, 2) := by decide +kernel
theorem dX10_harmOfGame_97 : decode cX10_harmOfGame 97 = .ok (.idiv, 1) := by decide +kernel
theorem dX10_harmOfGame_98 : decode cX10_harmOfGame 98 = .ok (.ireturn, 1) := by decide +kernel
noncomputable def E_X10_harmOfGame : mE := (mX10_harmOfGame, [(41, [(0, (.aload_n 0, 1, false, false, 0, 0, 0, 0, 0, 0, [])), (1, (.getfield 26, 4, false, false, 13, 2, 1, 0, 0, 0, [])), (4, (.iload_n 1, 5, false, false, 1, 0, 0, 0, 0, 0, [])), (5, (.invokevirtual 83, 8, false, false, 183, 1, 3, 4, 0, 0, [])), (8, (.astore_n 2, 9, false, false, 2, 0, 0, 0, 0, 0, [])), (9, (.aload_n 2, 10, false, false, 2, 0, 0, 0, 0, 0, [])), (10, (.iconst 1, 11, false, false, 0, 0, 0, 0, 1, 0, [])), (11, (.aload_n 2, 12, false, false, 2, 0, 0, 0, 0, 0, [])), (12, (.bipush 30, 14, false, false, 0, 0, 0, 0, 30, 0, [])), (14, (.iconst 0, 15, false, false, 0, 0, 0, 0, 0, 0, [])), (15, (.invokevirtual 196, 18, false, false, 89, 2, 1, 11, 0, 0, [])), (18, (.invokevirtual 117, 21, false, false, 88, 2, 1, 11, 0, 0, [])), (21, (.istore_n 3, 22, false, false, 3, 0, 0, 0, 0, 0, [])), (22, (.iconst 0, 23, false, false, 0, 0, 0, 0, 0, 0, [])), (23, (.istore 4, 25, false, false, 4, 0, 0, 0, 0, 0, [])), (25, (.iconst 0, 26, false, false, 0, 0, 0, 0, 0, 0, [])), (26, (.istore 5, 28, true, false, 5, 0, 0, 0, 0, 0, [])), (28, (.iload 5, 30, false, false, 5, 0, 0, 0, 0, 0, [])), (30, (.bipush 48, 32, false, false, 0, 0, 0, 0, 48, 0, [])), (32, (.if_icmp .ge 59, 35, false, false, 91, 0, 0, 0, 0, 0, [])), (35, (.aload_n 0, 36, false, false, 0, 0, 0, 0, 0, 0, [])), (36, (.getfield 21, 39, false, false, 13, 1, 1, 0, 0, 0, [])), (39, (.bipush 10, 41, false, false, 0, 0, 0, 0, 10, 0, [])), (41, (.iload 5, 43, false, false, 5, 0, 0, 0, 0, 0, []))]),
  (93, [(43, (.invokevirtual 79, 46, false, false, 23, 2, 1, 5, 0, 0, [])), (46, (.iload_n 1, 47, false, false, 1, 0, 0, 0, 0, 0, [])), (47, (.if_icmp .ne 38, 50, false, false, 85, 0, 0, 0, 0, 0, [])), (50, (.iload 4, 52, false, false, 4, 0, 0, 0, 0, 0, [])), (52, (.aload_n 0, 53, false, false, 0, 0, 0, 0, 0, 0, [])), (53, (.getfield 21, 56, false, false, 13, 1, 1, 0, 0, 0, [])), (56, (.bipush 12, 58, false, false, 0, 0, 0, 0, 12, 0, [])), (58, (.iload 5, 60, false, false, 5, 0, 0, 0, 0, 0, [])), (60, (.invokevirtual 79, 63, false, false, 23, 2, 1, 5, 0, 0, [])), (63, (.aload_n 0, 64, false, false, 0, 0, 0, 0, 0, 0, [])), (64, (.getfield 9, 67, false, false, 13, 0, 1, 0, 0, 0, [])), (67, (.aload_n 0, 68, false, false, 0, 0, 0, 0, 0, 0, [])), (68, (.getfield 21, 71, false, false, 13, 1, 1, 0, 0, 0, [])), (71, (.bipush 13, 73, false, false, 0, 0, 0, 0, 13, 0, [])), (73, (.iload 5, 75, false, false, 5, 0, 0, 0, 0, 0, [])), (75, (.invokevirtual 79, 78, false, false, 23, 2, 1, 5, 0, 0, [])), (78, (.invokevirtual 101, 81, false, false, 184, 1, 1, 3, 0, 0, [])), (81, (.imul, 82, false, false, 0, 0, 0, 0, 0, 0, [])), (82, (.iadd, 83, false, false, 0, 0, 0, 0, 0, 0, [])), (83, (.istore 4, 85, false, false, 4, 0, 0, 0, 0, 0, [])), (85, (.iinc 5 1, 88, false, false, 5, 0, 0, 0, 1, 0, [])), (88, (.goto (-60), 91, false, true, 28, 0, 0, 0, 0, 0, [])), (91, (.iload 4, 93, false, false, 4, 0, 0, 0, 0, 0, [])), (93, (.iload_n 3, 94, false, false, 3, 0, 0, 0, 0, 0, []))]),
  (98, [(94, (.imul, 95, false, false, 0, 0, 0, 0, 0, 0, [])), (95, (.bipush 100, 97, false, false, 0, 0, 0, 0, 100, 0, [])), (97, (.idiv, 98, false, false, 0, 0, 0, 0, 0, 0, [])), (98, (.ireturn, 99, false, false, 0, 0, 0, 0, 0, 0, []))])], 0, [])
set_option maxRecDepth 100000 in
theorem v_X10_harmOfGame : VE MYT dflT E_X10_harmOfGame := ⟨⟨⟨⟨⟨dX10_harmOfGame_0, rfl⟩, rfl⟩, ⟨⟨dX10_harmOfGame_1, rfl⟩, Or.inl ⟨by decide, _, _, fX10_26⟩⟩, ⟨⟨dX10_harmOfGame_4, rfl⟩, rfl⟩, ⟨⟨dX10_harmOfGame_5, rfl⟩, Or.inr ⟨by decide, ⟨_, my_183, sX10_83⟩, fun q => absurd q (by decide)⟩⟩, ⟨⟨dX10_harmOfGame_8, rfl⟩, rfl⟩, ⟨⟨dX10_harmOfGame_9, rfl⟩, rfl⟩, ⟨⟨dX10_harmOfGame_10, rfl⟩, rfl⟩, ⟨⟨dX10_harmOfGame_11, rfl⟩, rfl⟩, ⟨⟨dX10_harmOfGame_12, rfl⟩, rfl⟩, ⟨⟨dX10_harmOfGame_14, rfl⟩, rfl⟩, ⟨⟨dX10_harmOfGame_15, rfl⟩, Or.inr ⟨by decide, ⟨_, my_89, sX10_196⟩, fun q => absurd q (by decide)⟩⟩, ⟨⟨dX10_harmOfGame_18, rfl⟩, Or.inr ⟨by decide, ⟨_, my_88, sX10_117⟩, fun q => absurd q (by decide)⟩⟩, ⟨⟨dX10_harmOfGame_21, rfl⟩, rfl⟩, ⟨⟨dX10_harmOfGame_22, rfl⟩, rfl⟩, ⟨⟨dX10_harmOfGame_23, rfl⟩, rfl⟩, ⟨⟨dX10_harmOfGame_25, rfl⟩, rfl⟩, ⟨⟨dX10_harmOfGame_26, rfl⟩, rfl⟩, ⟨⟨dX10_harmOfGame_28, rfl⟩, rfl⟩, ⟨⟨dX10_harmOfGame_30, rfl⟩, rfl⟩, ⟨⟨dX10_harmOfGame_32, rfl⟩, rfl⟩, ⟨⟨dX10_harmOfGame_35, rfl⟩, rfl⟩, ⟨⟨dX10_harmOfGame_36, rfl⟩, Or.inl ⟨by decide, _, _, fX10_21⟩⟩, ⟨⟨dX10_harmOfGame_39, rfl⟩, rfl⟩, ⟨⟨dX10_harmOfGame_41, rfl⟩, rfl⟩, trivial⟩,
  ⟨⟨⟨dX10_harmOfGame_43, rfl⟩, Or.inr ⟨by decide, ⟨_, my_23, sX10_79⟩, fun q => absurd q (by decide)⟩⟩, ⟨⟨dX10_harmOfGame_46, rfl⟩, rfl⟩, ⟨⟨dX10_harmOfGame_47, rfl⟩, rfl⟩, ⟨⟨dX10_harmOfGame_50, rfl⟩, rfl⟩, ⟨⟨dX10_harmOfGame_52, rfl⟩, rfl⟩, ⟨⟨dX10_harmOfGame_53, rfl⟩, Or.inl ⟨by decide, _, _, fX10_21⟩⟩, ⟨⟨dX10_harmOfGame_56, rfl⟩, rfl⟩, ⟨⟨dX10_harmOfGame_58, rfl⟩, rfl⟩, ⟨⟨dX10_harmOfGame_60, rfl⟩, Or.inr ⟨by decide, ⟨_, my_23, sX10_79⟩, fun q => absurd q (by decide)⟩⟩, ⟨⟨dX10_harmOfGame_63, rfl⟩, rfl⟩, ⟨⟨dX10_harmOfGame_64, rfl⟩, Or.inl ⟨by decide, _, _, fX10_9⟩⟩, ⟨⟨dX10_harmOfGame_67, rfl⟩, rfl⟩, ⟨⟨dX10_harmOfGame_68, rfl⟩, Or.inl ⟨by decide, _, _, fX10_21⟩⟩, ⟨⟨dX10_harmOfGame_71, rfl⟩, rfl⟩, ⟨⟨dX10_harmOfGame_73, rfl⟩, rfl⟩, ⟨⟨dX10_harmOfGame_75, rfl⟩, Or.inr ⟨by decide, ⟨_, my_23, sX10_79⟩, fun q => absurd q (by decide)⟩⟩, ⟨⟨dX10_harmOfGame_78, rfl⟩, Or.inr ⟨by decide, ⟨_, my_184, sX10_101⟩, fun q => absurd q (by decide)⟩⟩, ⟨⟨dX10_harmOfGame_81, rfl⟩, trivial⟩, ⟨⟨dX10_harmOfGame_82, rfl⟩, trivial⟩, ⟨⟨dX10_harmOfGame_83, rfl⟩, rfl⟩, ⟨⟨dX10_harmOfGame_85, rfl⟩, ⟨rfl, rfl⟩⟩, ⟨⟨dX10_harmOfGame_88, rfl⟩, rfl⟩, ⟨⟨dX10_harmOfGame_91, rfl⟩, rfl⟩, ⟨⟨dX10_harmOfGame_93, rfl⟩, rfl⟩, trivial⟩,
  ⟨⟨⟨dX10_harmOfGame_94, rfl⟩, trivial⟩, ⟨⟨dX10_harmOfGame_95, rfl⟩, rfl⟩, ⟨⟨dX10_harmOfGame_97, rfl⟩, trivial⟩, ⟨⟨dX10_harmOfGame_98, rfl⟩, Or.inl ⟨rfl, rfl⟩⟩, trivial⟩, trivial⟩, by decide, Or.inl ⟨rfl, by decide, rfl⟩⟩
set_option maxRecDepth 100000 in
theorem g_X10_harmOfGame_0 (S : sT) (call : cT) (n : Nat) (a0 : Nat) (x1 : Int32) (h : pH) : bd S call dflT E_X10_harmOfGame (n + 1) 0 [some (.ref a0), some (.int x1), none, none, none, none] [] h = (gV h (.ref a0) 13 2 (fun w1 => rC h w1 4 (cA (call 183 [w1, .int x1] h) (fun w3 h2 => iA w3 (iA w3 (iA w3 (rC h2 w3 11 (cI (call 89 [w3, .int 30, .int 0] h2) (fun y5 h4 => rC h4 w3 11 (cI (call 88 [w3, .int 1, .int y5] h4) (fun y7 h6 => nl w3 (bd S call dflT E_X10_harmOfGame n 28 [some (.ref a0), some (.int x1), some (w3), some (.int y7), some (.int 0), some (.int 0)] [] h6)))))))))))) := rfl
set_option maxRecDepth 100000 in
theorem g_X10_harmOfGame_28 (S : sT) (call : cT) (n : Nat) (a0 : Nat) (x1 : Int32) (v2 : Value) (x3 : Int32) (x4 : Int32) (x5 : Int32) (h : pH) : bd S call dflT E_X10_harmOfGame (n + 1) 28 [some (.ref a0), some (.int x1), some (v2), some (.int x3), some (.int x4), some (.int x5)] [] h = ((if 48 ≤ x5 then dv 100 (some (.inl (some (.int ((x4 * x3) / 100))), h)) else gV h (.ref a0) 13 1 (fun w1 => rC h w1 5 (cI (call 23 [w1, .int 10, .int x5] h) (fun y3 h2 => (if y3 = x1 then gV h2 (.ref a0) 13 1 (fun w4 => rC h2 w4 5 (cI (call 23 [w4, .int 12, .int x5] h2) (fun y6 h5 => gV h5 (.ref a0) 13 0 (fun w7 => gV h5 (.ref a0) 13 1 (fun w8 => rC h5 w8 5 (cI (call 23 [w8, .int 13, .int x5] h5) (fun y10 h9 => rC h9 w7 3 (cI (call 184 [w7, .int y10] h9) (fun y12 h11 => bd S call dflT E_X10_harmOfGame n 28 [some (.ref a0), some (.int x1), some (v2), some (.int x3), some (.int (x4 + (y6 * y12))), some (.int (x5 + 1))] [] h11))))))))) else bd S call dflT E_X10_harmOfGame n 28 [some (.ref a0), some (.int x1), some (v2), some (.int x3), some (.int x4), some (.int (x5 + 1))] [] h2)))))) := rfl
theorem dX10_hundredthsPut_0 : decode cX10_hundredthsPut 0 = .ok (.aload_n 0, 1) := by decide +kernel
theorem dX10_hundredthsPut_1 : decode cX10_hundredthsPut 1 = .ok (.getfield 9, 3) := by decide +kernel
theorem dX10_hundredthsPut_4 : decode cX10_hundredthsPut 4 = .ok (.iload_n 1, 1) := by decide +kernel
theorem dX10_hundredthsPut_5 : decode cX10_hundredthsPut 5 = .ok (.invokevirtual 199, 3) := by decide +kernel
theorem dX10_hundredthsPut_8 : decode cX10_hundredthsPut 8 = .ok (.aload_n 0, 1) := by decide +kernel
theorem dX10_hundredthsPut_9 : decode cX10_hundredthsPut 9 = .ok (.getfield 26, 3) := by decide +kernel
theorem dX10_hundredthsPut_12 : decode cX10_hundredthsPut 12 = .ok (.iload_n 1, 1) := by decide +kernel
theorem dX10_hundredthsPut_13 : decode cX10_hundredthsPut 13 = .ok (.invokevirtual 83, 3) := by decide +kernel
theorem dX10_hundredthsPut_16 : decode cX10_hundredthsPut 16 = .ok (.astore_n 2, 1) := by decide +kernel
theorem dX10_hundredthsPut_17 : decode cX10_hundredthsPut 17 = .ok (.iconst (-1), 1) := by decide +kernel
theorem dX10_hundredthsPut_18 : decode cX10_hundredthsPut 18 = .ok (.istore_n 3, 1) := by decide +kernel
theorem dX10_hundredthsPut_19 : decode cX10_hundredthsPut 19 = .ok (.iconst 0, 1) := by decide +kernel
theorem dX10_hundredthsPut_20 : decode cX10_hundredthsPut 20 = .ok (.istore 4, 2) := by decide +kernel
theorem dX10_hundredthsPut_22 : decode cX10_hundredthsPut 22 = .ok (.iload 4, 2) := by decide +kernel
theorem dX10_hundredthsPut_24 : decode cX10_hundredthsPut 24 = .ok (.aload_n 2, 1) := by decide +kernel
theorem dX10_hundredthsPut_25 : decode cX10_hundredthsPut 25 = .ok (.getfield 112, 3) := by decide +kernel
theorem dX10_hundredthsPut_28 : decode cX10_hundredthsPut 28 = .ok (.if_icmp .ge 49, 3) := by decide +kernel
theorem dX10_hundredthsPut_31 : decode cX10_hundredthsPut 31 = .ok (.aload_n 2, 1) := by decide +kernel
theorem dX10_hundredthsPut_32 : decode cX10_hundredthsPut 32 = .ok (.iconst 0, 1) := by decide +kernel
theorem dX10_hundredthsPut_33 : decode cX10_hundredthsPut 33 = .ok (.iload 4, 2) := by decide +kernel
theorem dX10_hundredthsPut_35 : decode cX10_hundredthsPut 35 = .ok (.invokevirtual 117, 3) := by decide +kernel
theorem dX10_hundredthsPut_38 : decode cX10_hundredthsPut 38 = .ok (.bipush 29, 2) := by decide +kernel
theorem dX10_hundredthsPut_40 : decode cX10_hundredthsPut 40 = .ok (.if_icmp .ne 31, 3) := by decide +kernel
theorem dX10_hundredthsPut_43 : decode cX10_hundredthsPut 43 = .ok (.aload_n 2, 1) := by decide +kernel
theorem dX10_hundredthsPut_44 : decode cX10_hundredthsPut 44 = .ok (.iload 4, 2) := by decide +kernel
theorem dX10_hundredthsPut_46 : decode cX10_hundredthsPut 46 = .ok (.aload_n 0, 1) := by decide +kernel
theorem dX10_hundredthsPut_47 : decode cX10_hundredthsPut 47 = .ok (.getfield 9, 3) := by decide +kernel
theorem dX10_hundredthsPut_50 : decode cX10_hundredthsPut 50 = .ok (.getfield 202, 3) := by decide +kernel
theorem dX10_hundredthsPut_53 : decode cX10_hundredthsPut 53 = .ok (.invokevirtual 206, 3) := by decide +kernel
theorem dX10_hundredthsPut_56 : decode cX10_hundredthsPut 56 = .ok (.ifCond .eq 15, 3) := by decide +kernel
theorem dX10_hundredthsPut_59 : decode cX10_hundredthsPut 59 = .ok (.iload_n 3, 1) := by decide +kernel
theorem dX10_hundredthsPut_60 : decode cX10_hundredthsPut 60 = .ok (.aload_n 2, 1) := by decide +kernel
theorem dX10_hundredthsPut_61 : decode cX10_hundredthsPut 61 = .ok (.iconst 1, 1) := by decide +kernel
theorem dX10_hundredthsPut_62 : decode cX10_hundredthsPut 62 = .ok (.iload 4, 2) := by decide +kernel
theorem dX10_hundredthsPut_64 : decode cX10_hundredthsPut 64 = .ok (.invokevirtual 117, 3) := by decide +kernel
theorem dX10_hundredthsPut_67 : decode cX10_hundredthsPut 67 = .ok (.invokestatic 177, 3) := by decide +kernel
theorem dX10_hundredthsPut_70 : decode cX10_hundredthsPut 70 = .ok (.istore_n 3, 1) := by decide +kernel
theorem dX10_hundredthsPut_71 : decode cX10_hundredthsPut 71 = .ok (.iinc 4 1, 3) := by decide +kernel
theorem dX10_hundredthsPut_74 : decode cX10_hundredthsPut 74 = .ok (.goto (-52), 3) := by decide +kernel
theorem dX10_hundredthsPut_77 : decode cX10_hundredthsPut 77 = .ok (.iload_n 3, 1) := by decide +kernel
theorem dX10_hundredthsPut_78 : decode cX10_hundredthsPut 78 = .ok (.ireturn, 1) := by decide +kernel
noncomputable def E_X10_hundredthsPut : mE := (mX10_hundredthsPut, [(43, [(0, (.aload_n 0, 1, false, false, 0, 0, 0, 0, 0, 0, [])), (1, (.getfield 9, 4, false, false, 13, 0, 1, 0, 0, 0, [])), (4, (.iload_n 1, 5, false, false, 1, 0, 0, 0, 0, 0, [])), (5, (.invokevirtual 199, 8, false, false, 197, 1, 0, 3, 0, 0, [])), (8, (.aload_n 0, 9, false, false, 0, 0, 0, 0, 0, 0, [])), (9, (.getfield 26, 12, false, false, 13, 2, 1, 0, 0, 0, [])), (12, (.iload_n 1, 13, false, false, 1, 0, 0, 0, 0, 0, [])), (13, (.invokevirtual 83, 16, false, false, 183, 1, 3, 4, 0, 0, [])), (16, (.astore_n 2, 17, false, false, 2, 0, 0, 0, 0, 0, [])), (17, (.iconst (-1), 18, false, false, 0, 0, 0, 0, -1, 0, [])), (18, (.istore_n 3, 19, false, false, 3, 0, 0, 0, 0, 0, [])), (19, (.iconst 0, 20, false, false, 0, 0, 0, 0, 0, 0, [])), (20, (.istore 4, 22, true, false, 4, 0, 0, 0, 0, 0, [])), (22, (.iload 4, 24, false, false, 4, 0, 0, 0, 0, 0, [])), (24, (.aload_n 2, 25, false, false, 2, 0, 0, 0, 0, 0, [])), (25, (.getfield 112, 28, false, false, 11, 0, 0, 0, 0, 0, [])), (28, (.if_icmp .ge 49, 31, false, false, 77, 0, 0, 0, 0, 0, [])), (31, (.aload_n 2, 32, false, false, 2, 0, 0, 0, 0, 0, [])), (32, (.iconst 0, 33, false, false, 0, 0, 0, 0, 0, 0, [])), (33, (.iload 4, 35, false, false, 4, 0, 0, 0, 0, 0, [])), (35, (.invokevirtual 117, 38, false, false, 88, 2, 1, 11, 0, 0, [])), (38, (.bipush 29, 40, false, false, 0, 0, 0, 0, 29, 0, [])), (40, (.if_icmp .ne 31, 43, false, false, 71, 0, 0, 0, 0, 0, [])), (43, (.aload_n 2, 44, false, false, 2, 0, 0, 0, 0, 0, []))]),
  (78, [(44, (.iload 4, 46, false, false, 4, 0, 0, 0, 0, 0, [])), (46, (.aload_n 0, 47, false, false, 0, 0, 0, 0, 0, 0, [])), (47, (.getfield 9, 50, false, false, 13, 0, 1, 0, 0, 0, [])), (50, (.getfield 202, 53, false, false, 3, 9, 1, 0, 0, 0, [])), (53, (.invokevirtual 206, 56, false, false, 199, 2, 1, 11, 0, 0, [])), (56, (.ifCond .eq 15, 59, false, false, 71, 0, 0, 0, 0, 0, [])), (59, (.iload_n 3, 60, false, false, 3, 0, 0, 0, 0, 0, [])), (60, (.aload_n 2, 61, false, false, 2, 0, 0, 0, 0, 0, [])), (61, (.iconst 1, 62, false, false, 0, 0, 0, 0, 1, 0, [])), (62, (.iload 4, 64, false, false, 4, 0, 0, 0, 0, 0, [])), (64, (.invokevirtual 117, 67, false, false, 88, 2, 1, 11, 0, 0, [])), (67, (.invokestatic 177, 70, false, false, 0, 2, 1, 5, 0, 0, [])), (70, (.istore_n 3, 71, false, false, 3, 0, 0, 0, 0, 0, [])), (71, (.iinc 4 1, 74, false, false, 4, 0, 0, 0, 1, 0, [])), (74, (.goto (-52), 77, false, true, 22, 0, 0, 0, 0, 0, [])), (77, (.iload_n 3, 78, false, false, 3, 0, 0, 0, 0, 0, [])), (78, (.ireturn, 79, false, false, 0, 0, 0, 0, 0, 0, []))])], 0, [])
set_option maxRecDepth 100000 in
theorem v_X10_hundredthsPut : VE MYT dflT E_X10_hundredthsPut := ⟨⟨⟨⟨⟨dX10_hundredthsPut_0, rfl⟩, rfl⟩, ⟨⟨dX10_hundredthsPut_1, rfl⟩, Or.inl ⟨by decide, _, _, fX10_9⟩⟩, ⟨⟨dX10_hundredthsPut_4, rfl⟩, rfl⟩, ⟨⟨dX10_hundredthsPut_5, rfl⟩, Or.inr ⟨by decide, ⟨_, my_197, sX10_199⟩, fun q => absurd q (by decide)⟩⟩, ⟨⟨dX10_hundredthsPut_8, rfl⟩, rfl⟩, ⟨⟨dX10_hundredthsPut_9, rfl⟩, Or.inl ⟨by decide, _, _, fX10_26⟩⟩, ⟨⟨dX10_hundredthsPut_12, rfl⟩, rfl⟩, ⟨⟨dX10_hundredthsPut_13, rfl⟩, Or.inr ⟨by decide, ⟨_, my_183, sX10_83⟩, fun q => absurd q (by decide)⟩⟩, ⟨⟨dX10_hundredthsPut_16, rfl⟩, rfl⟩, ⟨⟨dX10_hundredthsPut_17, rfl⟩, rfl⟩, ⟨⟨dX10_hundredthsPut_18, rfl⟩, rfl⟩, ⟨⟨dX10_hundredthsPut_19, rfl⟩, rfl⟩, ⟨⟨dX10_hundredthsPut_20, rfl⟩, rfl⟩, ⟨⟨dX10_hundredthsPut_22, rfl⟩, rfl⟩, ⟨⟨dX10_hundredthsPut_24, rfl⟩, rfl⟩, ⟨⟨dX10_hundredthsPut_25, rfl⟩, Or.inl ⟨by decide, _, _, fX10_112⟩⟩, ⟨⟨dX10_hundredthsPut_28, rfl⟩, rfl⟩, ⟨⟨dX10_hundredthsPut_31, rfl⟩, rfl⟩, ⟨⟨dX10_hundredthsPut_32, rfl⟩, rfl⟩, ⟨⟨dX10_hundredthsPut_33, rfl⟩, rfl⟩, ⟨⟨dX10_hundredthsPut_35, rfl⟩, Or.inr ⟨by decide, ⟨_, my_88, sX10_117⟩, fun q => absurd q (by decide)⟩⟩, ⟨⟨dX10_hundredthsPut_38, rfl⟩, rfl⟩, ⟨⟨dX10_hundredthsPut_40, rfl⟩, rfl⟩, ⟨⟨dX10_hundredthsPut_43, rfl⟩, rfl⟩, trivial⟩,
  ⟨⟨⟨dX10_hundredthsPut_44, rfl⟩, rfl⟩, ⟨⟨dX10_hundredthsPut_46, rfl⟩, rfl⟩, ⟨⟨dX10_hundredthsPut_47, rfl⟩, Or.inl ⟨by decide, _, _, fX10_9⟩⟩, ⟨⟨dX10_hundredthsPut_50, rfl⟩, Or.inl ⟨by decide, _, _, fX10_202⟩⟩, ⟨⟨dX10_hundredthsPut_53, rfl⟩, Or.inr ⟨by decide, ⟨_, my_199, sX10_206⟩, fun q => absurd q (by decide)⟩⟩, ⟨⟨dX10_hundredthsPut_56, rfl⟩, rfl⟩, ⟨⟨dX10_hundredthsPut_59, rfl⟩, rfl⟩, ⟨⟨dX10_hundredthsPut_60, rfl⟩, rfl⟩, ⟨⟨dX10_hundredthsPut_61, rfl⟩, rfl⟩, ⟨⟨dX10_hundredthsPut_62, rfl⟩, rfl⟩, ⟨⟨dX10_hundredthsPut_64, rfl⟩, Or.inr ⟨by decide, ⟨_, my_88, sX10_117⟩, fun q => absurd q (by decide)⟩⟩, ⟨⟨dX10_hundredthsPut_67, rfl⟩, Or.inr (Or.inr (Or.inr (Or.inr (Or.inl ⟨rfl, sX10_177⟩))))⟩, ⟨⟨dX10_hundredthsPut_70, rfl⟩, rfl⟩, ⟨⟨dX10_hundredthsPut_71, rfl⟩, ⟨rfl, rfl⟩⟩, ⟨⟨dX10_hundredthsPut_74, rfl⟩, rfl⟩, ⟨⟨dX10_hundredthsPut_77, rfl⟩, rfl⟩, ⟨⟨dX10_hundredthsPut_78, rfl⟩, Or.inl ⟨rfl, rfl⟩⟩, trivial⟩, trivial⟩, by decide, Or.inl ⟨rfl, by decide, rfl⟩⟩
set_option maxRecDepth 100000 in
theorem g_X10_hundredthsPut_0 (S : sT) (call : cT) (n : Nat) (a0 : Nat) (x1 : Int32) (h : pH) : bd S call dflT E_X10_hundredthsPut (n + 1) 0 [some (.ref a0), some (.int x1), none, none, none] [] h = (gV h (.ref a0) 13 0 (fun w1 => rC h w1 3 (cU (call 197 [w1, .int x1] h) (fun h2 => gV h2 (.ref a0) 13 2 (fun w3 => rC h2 w3 4 (cA (call 183 [w3, .int x1] h2) (fun w5 h4 => iA w5 (nl w5 (bd S call dflT E_X10_hundredthsPut n 22 [some (.ref a0), some (.int x1), some (w5), some (.int (-1)), some (.int 0)] [] h4))))))))) := rfl
set_option maxRecDepth 100000 in
theorem g_X10_hundredthsPut_22 (S : sT) (call : cT) (n : Nat) (a0 : Nat) (x1 : Int32) (v2 : Value) (x3 : Int32) (x4 : Int32) (h : pH) : bd S call dflT E_X10_hundredthsPut (n + 1) 22 [some (.ref a0), some (.int x1), some (v2), some (.int x3), some (.int x4)] [] h = (iA v2 (gI h v2 11 0 (fun y1 => (if y1 ≤ x4 then some (.inl (some (.int x3)), h) else iA v2 (rC h v2 11 (cI (call 88 [v2, .int 0, .int x4] h) (fun y3 h2 => (if y3 = 29 then iA v2 (gV h2 (.ref a0) 13 0 (fun w4 => gV h2 w4 3 9 (fun w5 => rC h2 v2 11 (cI (call 199 [v2, .int x4, w5] h2) (fun y7 h6 => (if y7 = 0 then bd S call dflT E_X10_hundredthsPut n 22 [some (.ref a0), some (.int x1), some (v2), some (.int x3), some (.int (x4 + 1))] [] h6 else iA v2 (rC h6 v2 11 (cI (call 88 [v2, .int 1, .int x4] h6) (fun y9 h8 => nl v2 (bd S call dflT E_X10_hundredthsPut n 22 [some (.ref a0), some (.int x1), some (v2), some (.int (if x3 < y9 then y9 else x3)), some (.int (x4 + 1))] [] h8)))))))))) else bd S call dflT E_X10_hundredthsPut n 22 [some (.ref a0), some (.int x1), some (v2), some (.int x3), some (.int (x4 + 1))] [] h2)))))))) := rfl
theorem dX10_receive_0 : decode cX10_receive 0 = .ok (.aload_n 0, 1) := by decide +kernel
theorem dX10_receive_1 : decode cX10_receive 1 = .ok (.getfield 26, 3) := by decide +kernel
theorem dX10_receive_4 : decode cX10_receive 4 = .ok (.bipush 7, 2) := by decide +kernel
theorem dX10_receive_6 : decode cX10_receive 6 = .ok (.iload_n 1, 1) := by decide +kernel
theorem dX10_receive_7 : decode cX10_receive 7 = .ok (.iload_n 2, 1) := by decide +kernel
theorem dX10_receive_8 : decode cX10_receive 8 = .ok (.i2l, 1) := by decide +kernel
theorem dX10_receive_9 : decode cX10_receive 9 = .ok (.invokevirtual 150, 3) := by decide +kernel
theorem dX10_receive_12 : decode cX10_receive 12 = .ok (.aload_n 0, 1) := by decide +kernel
theorem dX10_receive_13 : decode cX10_receive 13 = .ok (.getfield 31, 3) := by decide +kernel
theorem dX10_receive_16 : decode cX10_receive 16 = .ok (.iload_n 2, 1) := by decide +kernel
theorem dX10_receive_17 : decode cX10_receive 17 = .ok (.i2l, 1) := by decide +kernel
theorem dX10_receive_18 : decode cX10_receive 18 = .ok (.invokevirtual 154, 3) := by decide +kernel
theorem dX10_receive_21 : decode cX10_receive 21 = .ok (.return_, 1) := by decide +kernel
noncomputable def E_X10_receive : mE := (mX10_receive, [(21, [(0, (.aload_n 0, 1, false, false, 0, 0, 0, 0, 0, 0, [])), (1, (.getfield 26, 4, false, false, 13, 2, 1, 0, 0, 0, [])), (4, (.bipush 7, 6, false, false, 0, 0, 0, 0, 7, 0, [])), (6, (.iload_n 1, 7, false, false, 1, 0, 0, 0, 0, 0, [])), (7, (.iload_n 2, 8, false, false, 2, 0, 0, 0, 0, 0, [])), (8, (.i2l, 9, false, false, 0, 0, 0, 0, 0, 0, [])), (9, (.invokevirtual 150, 12, false, false, 104, 3, 0, 4, 0, 0, [])), (12, (.aload_n 0, 13, false, false, 0, 0, 0, 0, 0, 0, [])), (13, (.getfield 31, 16, false, false, 13, 3, 1, 0, 0, 0, [])), (16, (.iload_n 2, 17, false, false, 2, 0, 0, 0, 0, 0, [])), (17, (.i2l, 18, false, false, 0, 0, 0, 0, 0, 0, [])), (18, (.invokevirtual 154, 21, false, false, 191, 1, 0, 6, 0, 0, [])), (21, (.return_, 22, false, false, 0, 0, 0, 0, 0, 0, []))])], 0, [])
set_option maxRecDepth 100000 in
theorem v_X10_receive : VE MYT dflT E_X10_receive := ⟨⟨⟨⟨⟨dX10_receive_0, rfl⟩, rfl⟩, ⟨⟨dX10_receive_1, rfl⟩, Or.inl ⟨by decide, _, _, fX10_26⟩⟩, ⟨⟨dX10_receive_4, rfl⟩, rfl⟩, ⟨⟨dX10_receive_6, rfl⟩, rfl⟩, ⟨⟨dX10_receive_7, rfl⟩, rfl⟩, ⟨⟨dX10_receive_8, rfl⟩, trivial⟩, ⟨⟨dX10_receive_9, rfl⟩, Or.inr ⟨by decide, ⟨_, my_104, sX10_150⟩, fun q => absurd q (by decide)⟩⟩, ⟨⟨dX10_receive_12, rfl⟩, rfl⟩, ⟨⟨dX10_receive_13, rfl⟩, Or.inl ⟨by decide, _, _, fX10_31⟩⟩, ⟨⟨dX10_receive_16, rfl⟩, rfl⟩, ⟨⟨dX10_receive_17, rfl⟩, trivial⟩, ⟨⟨dX10_receive_18, rfl⟩, Or.inr ⟨by decide, ⟨_, my_191, sX10_154⟩, fun q => absurd q (by decide)⟩⟩, ⟨⟨dX10_receive_21, rfl⟩, rfl⟩, trivial⟩, trivial⟩, by decide, Or.inl ⟨rfl, by decide, rfl⟩⟩
set_option maxRecDepth 100000 in
theorem g_X10_receive_0 (S : sT) (call : cT) (n : Nat) (a0 : Nat) (x1 : Int32) (x2 : Int32) (h : pH) : bd S call dflT E_X10_receive (n + 1) 0 [some (.ref a0), some (.int x1), some (.int x2)] [] h = (gV h (.ref a0) 13 2 (fun w1 => rC h w1 4 (cU (call 104 [w1, .int 7, .int x1, .long x2.toInt64] h) (fun h2 => gV h2 (.ref a0) 13 3 (fun w3 => rC h2 w3 6 (cU (call 191 [w3, .long x2.toInt64] h2) (fun h4 => some (.inl none, h4)))))))) := rfl
theorem dX10_takeRent_0 : decode cX10_takeRent 0 = .ok (.iconst 0, 1) := by decide +kernel
theorem dX10_takeRent_1 : decode cX10_takeRent 1 = .ok (.aload_n 0, 1) := by decide +kernel
theorem dX10_takeRent_2 : decode cX10_takeRent 2 = .ok (.getfield 9, 3) := by decide +kernel
theorem dX10_takeRent_5 : decode cX10_takeRent 5 = .ok (.iload_n 1, 1) := by decide +kernel
theorem dX10_takeRent_6 : decode cX10_takeRent 6 = .ok (.invokevirtual 171, 3) := by decide +kernel
theorem dX10_takeRent_9 : decode cX10_takeRent 9 = .ok (.aload_n 0, 1) := by decide +kernel
theorem dX10_takeRent_10 : decode cX10_takeRent 10 = .ok (.iload_n 1, 1) := by decide +kernel
theorem dX10_takeRent_11 : decode cX10_takeRent 11 = .ok (.invokevirtual 174, 3) := by decide +kernel
theorem dX10_takeRent_14 : decode cX10_takeRent 14 = .ok (.isub, 1) := by decide +kernel
theorem dX10_takeRent_15 : decode cX10_takeRent 15 = .ok (.invokestatic 177, 3) := by decide +kernel
theorem dX10_takeRent_18 : decode cX10_takeRent 18 = .ok (.i2l, 1) := by decide +kernel
theorem dX10_takeRent_19 : decode cX10_takeRent 19 = .ok (.lstore_n 2, 1) := by decide +kernel
theorem dX10_takeRent_20 : decode cX10_takeRent 20 = .ok (.aload_n 0, 1) := by decide +kernel
theorem dX10_takeRent_21 : decode cX10_takeRent 21 = .ok (.iload_n 1, 1) := by decide +kernel
theorem dX10_takeRent_22 : decode cX10_takeRent 22 = .ok (.invokevirtual 182, 3) := by decide +kernel
theorem dX10_takeRent_25 : decode cX10_takeRent 25 = .ok (.istore 4, 2) := by decide +kernel
theorem dX10_takeRent_27 : decode cX10_takeRent 27 = .ok (.iload 4, 2) := by decide +kernel
theorem dX10_takeRent_29 : decode cX10_takeRent 29 = .ok (.iconst (-1), 1) := by decide +kernel
theorem dX10_takeRent_30 : decode cX10_takeRent 30 = .ok (.if_icmp .ne 30, 3) := by decide +kernel
theorem dX10_takeRent_33 : decode cX10_takeRent 33 = .ok (.lload_n 2, 1) := by decide +kernel
theorem dX10_takeRent_34 : decode cX10_takeRent 34 = .ok (.aload_n 0, 1) := by decide +kernel
theorem dX10_takeRent_35 : decode cX10_takeRent 35 = .ok (.getfield 26, 3) := by decide +kernel
theorem dX10_takeRent_38 : decode cX10_takeRent 38 = .ok (.iconst 4, 1) := by decide +kernel
theorem dX10_takeRent_39 : decode cX10_takeRent 39 = .ok (.iload_n 1, 1) := by decide +kernel
theorem dX10_takeRent_40 : decode cX10_takeRent 40 = .ok (.invokevirtual 167, 3) := by decide +kernel
theorem dX10_takeRent_43 : decode cX10_takeRent 43 = .ok (.i2l, 1) := by decide +kernel
theorem dX10_takeRent_44 : decode cX10_takeRent 44 = .ok (.ladd, 1) := by decide +kernel
theorem dX10_takeRent_45 : decode cX10_takeRent 45 = .ok (.lstore 5, 2) := by decide +kernel
theorem dX10_takeRent_47 : decode cX10_takeRent 47 = .ok (.aload_n 0, 1) := by decide +kernel
theorem dX10_takeRent_48 : decode cX10_takeRent 48 = .ok (.getfield 26, 3) := by decide +kernel
theorem dX10_takeRent_51 : decode cX10_takeRent 51 = .ok (.iconst 4, 1) := by decide +kernel
theorem dX10_takeRent_52 : decode cX10_takeRent 52 = .ok (.iload_n 1, 1) := by decide +kernel
theorem dX10_takeRent_53 : decode cX10_takeRent 53 = .ok (.iconst 0, 1) := by decide +kernel
theorem dX10_takeRent_54 : decode cX10_takeRent 54 = .ok (.invokevirtual 185, 3) := by decide +kernel
theorem dX10_takeRent_57 : decode cX10_takeRent 57 = .ok (.goto 31, 3) := by decide +kernel
theorem dX10_takeRent_60 : decode cX10_takeRent 60 = .ok (.lload_n 2, 1) := by decide +kernel
theorem dX10_takeRent_61 : decode cX10_takeRent 61 = .ok (.iload 4, 2) := by decide +kernel
theorem dX10_takeRent_63 : decode cX10_takeRent 63 = .ok (.i2l, 1) := by decide +kernel
theorem dX10_takeRent_64 : decode cX10_takeRent 64 = .ok (.lmul, 1) := by decide +kernel
theorem dX10_takeRent_65 : decode cX10_takeRent 65 = .ok (.ldc2_w 186, 3) := by decide +kernel
theorem dX10_takeRent_68 : decode cX10_takeRent 68 = .ok (.ldiv, 1) := by decide +kernel
theorem dX10_takeRent_69 : decode cX10_takeRent 69 = .ok (.lstore 7, 2) := by decide +kernel
theorem dX10_takeRent_71 : decode cX10_takeRent 71 = .ok (.lload_n 2, 1) := by decide +kernel
theorem dX10_takeRent_72 : decode cX10_takeRent 72 = .ok (.lload 7, 2) := by decide +kernel
theorem dX10_takeRent_74 : decode cX10_takeRent 74 = .ok (.lsub, 1) := by decide +kernel
theorem dX10_takeRent_75 : decode cX10_takeRent 75 = .ok (.lstore 5, 2) := by decide +kernel
theorem dX10_takeRent_77 : decode cX10_takeRent 77 = .ok (.aload_n 0, 1) := by decide +kernel
theorem dX10_takeRent_78 : decode cX10_takeRent 78 = .ok (.getfield 26, 3) := by decide +kernel
theorem dX10_takeRent_81 : decode cX10_takeRent 81 = .ok (.iconst 4, 1) := by decide +kernel
theorem dX10_takeRent_82 : decode cX10_takeRent 82 = .ok (.iload_n 1, 1) := by decide +kernel
theorem dX10_takeRent_83 : decode cX10_takeRent 83 = .ok (.lload 7, 2) := by decide +kernel
theorem dX10_takeRent_85 : decode cX10_takeRent 85 = .ok (.invokevirtual 150, 3) := by decide +kernel
theorem dX10_takeRent_88 : decode cX10_takeRent 88 = .ok (.aload_n 0, 1) := by decide +kernel
theorem dX10_takeRent_89 : decode cX10_takeRent 89 = .ok (.getfield 26, 3) := by decide +kernel
theorem dX10_takeRent_92 : decode cX10_takeRent 92 = .ok (.iconst 3, 1) := by decide +kernel
theorem dX10_takeRent_93 : decode cX10_takeRent 93 = .ok (.iload_n 1, 1) := by decide +kernel
theorem dX10_takeRent_94 : decode cX10_takeRent 94 = .ok (.invokevirtual 167, 3) := by decide +kernel
theorem dX10_takeRent_97 : decode cX10_takeRent 97 = .ok (.i2l, 1) := by decide +kernel
theorem dX10_takeRent_98 : decode cX10_takeRent 98 = .ok (.lload 5, 2) := by decide +kernel
theorem dX10_takeRent_100 : decode cX10_takeRent 100 = .ok (.ladd, 1) := by decide +kernel
theorem dX10_takeRent_101 : decode cX10_takeRent 101 = .ok (.lstore 7, 2) := by decide +kernel
theorem dX10_takeRent_103 : decode cX10_takeRent 103 = .ok (.lload 7, 2) := by decide +kernel
theorem dX10_takeRent_105 : decode cX10_takeRent 105 = .ok (.iconst 0, 1) := by decide +kernel
theorem dX10_takeRent_106 : decode cX10_takeRent 106 = .ok (.aload_n 0, 1) := by decide +kernel
theorem dX10_takeRent_107 : decode cX10_takeRent 107 = .ok (.getfield 26, 3) := by decide +kernel
theorem dX10_takeRent_110 : decode cX10_takeRent 110 = .ok (.iconst 2, 1) := by decide +kernel
theorem dX10_takeRent_111 : decode cX10_takeRent 111 = .ok (.iload_n 1, 1) := by decide +kernel
theorem dX10_takeRent_112 : decode cX10_takeRent 112 = .ok (.invokevirtual 167, 3) := by decide +kernel
theorem dX10_takeRent_115 : decode cX10_takeRent 115 = .ok (.invokestatic 177, 3) := by decide +kernel
theorem dX10_takeRent_118 : decode cX10_takeRent 118 = .ok (.i2l, 1) := by decide +kernel
theorem dX10_takeRent_119 : decode cX10_takeRent 119 = .ok (.invokestatic 188, 3) := by decide +kernel
theorem dX10_takeRent_122 : decode cX10_takeRent 122 = .ok (.l2i, 1) := by decide +kernel
theorem dX10_takeRent_123 : decode cX10_takeRent 123 = .ok (.istore 9, 2) := by decide +kernel
theorem dX10_takeRent_125 : decode cX10_takeRent 125 = .ok (.aload_n 0, 1) := by decide +kernel
theorem dX10_takeRent_126 : decode cX10_takeRent 126 = .ok (.getfield 26, 3) := by decide +kernel
theorem dX10_takeRent_129 : decode cX10_takeRent 129 = .ok (.iconst 2, 1) := by decide +kernel
theorem dX10_takeRent_130 : decode cX10_takeRent 130 = .ok (.iload_n 1, 1) := by decide +kernel
theorem dX10_takeRent_131 : decode cX10_takeRent 131 = .ok (.iload 9, 2) := by decide +kernel
theorem dX10_takeRent_133 : decode cX10_takeRent 133 = .ok (.ineg, 1) := by decide +kernel
theorem dX10_takeRent_134 : decode cX10_takeRent 134 = .ok (.i2l, 1) := by decide +kernel
theorem dX10_takeRent_135 : decode cX10_takeRent 135 = .ok (.invokevirtual 150, 3) := by decide +kernel
theorem dX10_takeRent_138 : decode cX10_takeRent 138 = .ok (.aload_n 0, 1) := by decide +kernel
theorem dX10_takeRent_139 : decode cX10_takeRent 139 = .ok (.getfield 26, 3) := by decide +kernel
theorem dX10_takeRent_142 : decode cX10_takeRent 142 = .ok (.iconst 3, 1) := by decide +kernel
theorem dX10_takeRent_143 : decode cX10_takeRent 143 = .ok (.iload_n 1, 1) := by decide +kernel
theorem dX10_takeRent_144 : decode cX10_takeRent 144 = .ok (.lload 7, 2) := by decide +kernel
theorem dX10_takeRent_146 : decode cX10_takeRent 146 = .ok (.iload 9, 2) := by decide +kernel
theorem dX10_takeRent_148 : decode cX10_takeRent 148 = .ok (.i2l, 1) := by decide +kernel
theorem dX10_takeRent_149 : decode cX10_takeRent 149 = .ok (.lsub, 1) := by decide +kernel
theorem dX10_takeRent_150 : decode cX10_takeRent 150 = .ok (.invokestatic 192, 3) := by decide +kernel
theorem dX10_takeRent_153 : decode cX10_takeRent 153 = .ok (.invokevirtual 185, 3) := by decide +kernel
theorem dX10_takeRent_156 : decode cX10_takeRent 156 = .ok (.aload_n 0, 1) := by decide +kernel
theorem dX10_takeRent_157 : decode cX10_takeRent 157 = .ok (.iload_n 1, 1) := by decide +kernel
theorem dX10_takeRent_158 : decode cX10_takeRent 158 = .ok (.iload 9, 2) := by decide +kernel
theorem dX10_takeRent_160 : decode cX10_takeRent 160 = .ok (.invokevirtual 168, 3) := by decide +kernel
theorem dX10_takeRent_163 : decode cX10_takeRent 163 = .ok (.return_, 1) := by decide +kernel
noncomputable def E_X10_takeRent : mE := (mX10_takeRent, [(39, [(0, (.iconst 0, 1, false, false, 0, 0, 0, 0, 0, 0, [])), (1, (.aload_n 0, 2, false, false, 0, 0, 0, 0, 0, 0, [])), (2, (.getfield 9, 5, false, false, 13, 0, 1, 0, 0, 0, [])), (5, (.iload_n 1, 6, false, false, 1, 0, 0, 0, 0, 0, [])), (6, (.invokevirtual 171, 9, false, false, 201, 1, 1, 3, 0, 0, [])), (9, (.aload_n 0, 10, false, false, 0, 0, 0, 0, 0, 0, [])), (10, (.iload_n 1, 11, false, false, 1, 0, 0, 0, 0, 0, [])), (11, (.invokevirtual 174, 14, false, false, 202, 1, 1, 13, 0, 0, [])), (14, (.isub, 15, false, false, 0, 0, 0, 0, 0, 0, [])), (15, (.invokestatic 177, 18, false, false, 0, 2, 1, 5, 0, 0, [])), (18, (.i2l, 19, false, false, 0, 0, 0, 0, 0, 0, [])), (19, (.lstore_n 2, 20, false, false, 2, 3, 0, 0, 0, 0, [])), (20, (.aload_n 0, 21, false, false, 0, 0, 0, 0, 0, 0, [])), (21, (.iload_n 1, 22, false, false, 1, 0, 0, 0, 0, 0, [])), (22, (.invokevirtual 182, 25, false, false, 203, 1, 1, 13, 0, 0, [])), (25, (.istore 4, 27, false, false, 4, 0, 0, 0, 0, 0, [])), (27, (.iload 4, 29, false, false, 4, 0, 0, 0, 0, 0, [])), (29, (.iconst (-1), 30, false, false, 0, 0, 0, 0, -1, 0, [])), (30, (.if_icmp .ne 30, 33, false, false, 60, 0, 0, 0, 0, 0, [])), (33, (.lload_n 2, 34, false, false, 2, 0, 0, 0, 0, 0, [])), (34, (.aload_n 0, 35, false, false, 0, 0, 0, 0, 0, 0, [])), (35, (.getfield 26, 38, false, false, 13, 2, 1, 0, 0, 0, [])), (38, (.iconst 4, 39, false, false, 0, 0, 0, 0, 4, 0, [])), (39, (.iload_n 1, 40, false, false, 1, 0, 0, 0, 0, 0, []))]),
  (78, [(40, (.invokevirtual 167, 43, false, false, 102, 2, 1, 4, 0, 0, [])), (43, (.i2l, 44, false, false, 0, 0, 0, 0, 0, 0, [])), (44, (.ladd, 45, false, false, 0, 0, 0, 0, 0, 0, [])), (45, (.lstore 5, 47, false, false, 5, 6, 0, 0, 0, 0, [])), (47, (.aload_n 0, 48, false, false, 0, 0, 0, 0, 0, 0, [])), (48, (.getfield 26, 51, false, false, 13, 2, 1, 0, 0, 0, [])), (51, (.iconst 4, 52, false, false, 0, 0, 0, 0, 4, 0, [])), (52, (.iload_n 1, 53, false, false, 1, 0, 0, 0, 0, 0, [])), (53, (.iconst 0, 54, false, false, 0, 0, 0, 0, 0, 0, [])), (54, (.invokevirtual 185, 57, false, false, 100, 3, 0, 4, 0, 0, [])), (57, (.goto 31, 60, false, true, 88, 0, 0, 0, 0, 0, [])), (60, (.lload_n 2, 61, false, false, 2, 0, 0, 0, 0, 0, [])), (61, (.iload 4, 63, false, false, 4, 0, 0, 0, 0, 0, [])), (63, (.i2l, 64, false, false, 0, 0, 0, 0, 0, 0, [])), (64, (.lmul, 65, false, false, 0, 0, 0, 0, 0, 0, [])), (65, (.ldc2_w 186, 68, false, false, 0, 0, 0, 0, 0, 100, [])), (68, (.ldiv, 69, false, false, 0, 0, 0, 0, 0, 0, [])), (69, (.lstore 7, 71, false, false, 7, 8, 0, 0, 0, 0, [])), (71, (.lload_n 2, 72, false, false, 2, 0, 0, 0, 0, 0, [])), (72, (.lload 7, 74, false, false, 7, 0, 0, 0, 0, 0, [])), (74, (.lsub, 75, false, false, 0, 0, 0, 0, 0, 0, [])), (75, (.lstore 5, 77, false, false, 5, 6, 0, 0, 0, 0, [])), (77, (.aload_n 0, 78, false, false, 0, 0, 0, 0, 0, 0, [])), (78, (.getfield 26, 81, false, false, 13, 2, 1, 0, 0, 0, []))]),
  (122, [(81, (.iconst 4, 82, false, false, 0, 0, 0, 0, 4, 0, [])), (82, (.iload_n 1, 83, false, false, 1, 0, 0, 0, 0, 0, [])), (83, (.lload 7, 85, false, false, 7, 0, 0, 0, 0, 0, [])), (85, (.invokevirtual 150, 88, true, false, 104, 3, 0, 4, 0, 0, [])), (88, (.aload_n 0, 89, false, false, 0, 0, 0, 0, 0, 0, [])), (89, (.getfield 26, 92, false, false, 13, 2, 1, 0, 0, 0, [])), (92, (.iconst 3, 93, false, false, 0, 0, 0, 0, 3, 0, [])), (93, (.iload_n 1, 94, false, false, 1, 0, 0, 0, 0, 0, [])), (94, (.invokevirtual 167, 97, false, false, 102, 2, 1, 4, 0, 0, [])), (97, (.i2l, 98, false, false, 0, 0, 0, 0, 0, 0, [])), (98, (.lload 5, 100, false, false, 5, 0, 0, 0, 0, 0, [])), (100, (.ladd, 101, false, false, 0, 0, 0, 0, 0, 0, [])), (101, (.lstore 7, 103, false, false, 7, 8, 0, 0, 0, 0, [])), (103, (.lload 7, 105, false, false, 7, 0, 0, 0, 0, 0, [])), (105, (.iconst 0, 106, false, false, 0, 0, 0, 0, 0, 0, [])), (106, (.aload_n 0, 107, false, false, 0, 0, 0, 0, 0, 0, [])), (107, (.getfield 26, 110, false, false, 13, 2, 1, 0, 0, 0, [])), (110, (.iconst 2, 111, false, false, 0, 0, 0, 0, 2, 0, [])), (111, (.iload_n 1, 112, false, false, 1, 0, 0, 0, 0, 0, [])), (112, (.invokevirtual 167, 115, false, false, 102, 2, 1, 4, 0, 0, [])), (115, (.invokestatic 177, 118, false, false, 0, 2, 1, 5, 0, 0, [])), (118, (.i2l, 119, false, false, 0, 0, 0, 0, 0, 0, [])), (119, (.invokestatic 188, 122, false, false, 0, 2, 2, 8, 0, 0, [])), (122, (.l2i, 123, false, false, 0, 0, 0, 0, 0, 0, []))]),
  (163, [(123, (.istore 9, 125, false, false, 9, 0, 0, 0, 0, 0, [])), (125, (.aload_n 0, 126, false, false, 0, 0, 0, 0, 0, 0, [])), (126, (.getfield 26, 129, false, false, 13, 2, 1, 0, 0, 0, [])), (129, (.iconst 2, 130, false, false, 0, 0, 0, 0, 2, 0, [])), (130, (.iload_n 1, 131, false, false, 1, 0, 0, 0, 0, 0, [])), (131, (.iload 9, 133, false, false, 9, 0, 0, 0, 0, 0, [])), (133, (.ineg, 134, false, false, 0, 0, 0, 0, 0, 0, [])), (134, (.i2l, 135, false, false, 0, 0, 0, 0, 0, 0, [])), (135, (.invokevirtual 150, 138, false, false, 104, 3, 0, 4, 0, 0, [])), (138, (.aload_n 0, 139, false, false, 0, 0, 0, 0, 0, 0, [])), (139, (.getfield 26, 142, false, false, 13, 2, 1, 0, 0, 0, [])), (142, (.iconst 3, 143, false, false, 0, 0, 0, 0, 3, 0, [])), (143, (.iload_n 1, 144, false, false, 1, 0, 0, 0, 0, 0, [])), (144, (.lload 7, 146, false, false, 7, 0, 0, 0, 0, 0, [])), (146, (.iload 9, 148, false, false, 9, 0, 0, 0, 0, 0, [])), (148, (.i2l, 149, false, false, 0, 0, 0, 0, 0, 0, [])), (149, (.lsub, 150, false, false, 0, 0, 0, 0, 0, 0, [])), (150, (.invokestatic 192, 153, false, false, 103, 1, 1, 1, 0, 0, [])), (153, (.invokevirtual 185, 156, false, false, 100, 3, 0, 4, 0, 0, [])), (156, (.aload_n 0, 157, false, false, 0, 0, 0, 0, 0, 0, [])), (157, (.iload_n 1, 158, false, false, 1, 0, 0, 0, 0, 0, [])), (158, (.iload 9, 160, false, false, 9, 0, 0, 0, 0, 0, [])), (160, (.invokevirtual 168, 163, false, false, 204, 2, 0, 13, 0, 0, [])), (163, (.return_, 164, false, false, 0, 0, 0, 0, 0, 0, []))])], 0, [])
set_option maxRecDepth 100000 in
theorem v_X10_takeRent : VE MYT dflT E_X10_takeRent := ⟨⟨⟨⟨⟨dX10_takeRent_0, rfl⟩, rfl⟩, ⟨⟨dX10_takeRent_1, rfl⟩, rfl⟩, ⟨⟨dX10_takeRent_2, rfl⟩, Or.inl ⟨by decide, _, _, fX10_9⟩⟩, ⟨⟨dX10_takeRent_5, rfl⟩, rfl⟩, ⟨⟨dX10_takeRent_6, rfl⟩, Or.inr ⟨by decide, ⟨_, my_201, sX10_171⟩, fun q => absurd q (by decide)⟩⟩, ⟨⟨dX10_takeRent_9, rfl⟩, rfl⟩, ⟨⟨dX10_takeRent_10, rfl⟩, rfl⟩, ⟨⟨dX10_takeRent_11, rfl⟩, Or.inr ⟨by decide, ⟨_, my_202, sX10_174⟩, fun q => absurd q (by decide)⟩⟩, ⟨⟨dX10_takeRent_14, rfl⟩, trivial⟩, ⟨⟨dX10_takeRent_15, rfl⟩, Or.inr (Or.inr (Or.inr (Or.inr (Or.inl ⟨rfl, sX10_177⟩))))⟩, ⟨⟨dX10_takeRent_18, rfl⟩, trivial⟩, ⟨⟨dX10_takeRent_19, rfl⟩, ⟨rfl, rfl⟩⟩, ⟨⟨dX10_takeRent_20, rfl⟩, rfl⟩, ⟨⟨dX10_takeRent_21, rfl⟩, rfl⟩, ⟨⟨dX10_takeRent_22, rfl⟩, Or.inr ⟨by decide, ⟨_, my_203, sX10_182⟩, fun q => absurd q (by decide)⟩⟩, ⟨⟨dX10_takeRent_25, rfl⟩, rfl⟩, ⟨⟨dX10_takeRent_27, rfl⟩, rfl⟩, ⟨⟨dX10_takeRent_29, rfl⟩, rfl⟩, ⟨⟨dX10_takeRent_30, rfl⟩, rfl⟩, ⟨⟨dX10_takeRent_33, rfl⟩, rfl⟩, ⟨⟨dX10_takeRent_34, rfl⟩, rfl⟩, ⟨⟨dX10_takeRent_35, rfl⟩, Or.inl ⟨by decide, _, _, fX10_26⟩⟩, ⟨⟨dX10_takeRent_38, rfl⟩, rfl⟩, ⟨⟨dX10_takeRent_39, rfl⟩, rfl⟩, trivial⟩,
  ⟨⟨⟨dX10_takeRent_40, rfl⟩, Or.inr ⟨by decide, ⟨_, my_102, sX10_167⟩, fun q => absurd q (by decide)⟩⟩, ⟨⟨dX10_takeRent_43, rfl⟩, trivial⟩, ⟨⟨dX10_takeRent_44, rfl⟩, trivial⟩, ⟨⟨dX10_takeRent_45, rfl⟩, ⟨rfl, rfl⟩⟩, ⟨⟨dX10_takeRent_47, rfl⟩, rfl⟩, ⟨⟨dX10_takeRent_48, rfl⟩, Or.inl ⟨by decide, _, _, fX10_26⟩⟩, ⟨⟨dX10_takeRent_51, rfl⟩, rfl⟩, ⟨⟨dX10_takeRent_52, rfl⟩, rfl⟩, ⟨⟨dX10_takeRent_53, rfl⟩, rfl⟩, ⟨⟨dX10_takeRent_54, rfl⟩, Or.inr ⟨by decide, ⟨_, my_100, sX10_185⟩, fun q => absurd q (by decide)⟩⟩, ⟨⟨dX10_takeRent_57, rfl⟩, rfl⟩, ⟨⟨dX10_takeRent_60, rfl⟩, rfl⟩, ⟨⟨dX10_takeRent_61, rfl⟩, rfl⟩, ⟨⟨dX10_takeRent_63, rfl⟩, trivial⟩, ⟨⟨dX10_takeRent_64, rfl⟩, trivial⟩, ⟨⟨dX10_takeRent_65, rfl⟩, kX10_186⟩, ⟨⟨dX10_takeRent_68, rfl⟩, trivial⟩, ⟨⟨dX10_takeRent_69, rfl⟩, ⟨rfl, rfl⟩⟩, ⟨⟨dX10_takeRent_71, rfl⟩, rfl⟩, ⟨⟨dX10_takeRent_72, rfl⟩, rfl⟩, ⟨⟨dX10_takeRent_74, rfl⟩, trivial⟩, ⟨⟨dX10_takeRent_75, rfl⟩, ⟨rfl, rfl⟩⟩, ⟨⟨dX10_takeRent_77, rfl⟩, rfl⟩, ⟨⟨dX10_takeRent_78, rfl⟩, Or.inl ⟨by decide, _, _, fX10_26⟩⟩, trivial⟩,
  ⟨⟨⟨dX10_takeRent_81, rfl⟩, rfl⟩, ⟨⟨dX10_takeRent_82, rfl⟩, rfl⟩, ⟨⟨dX10_takeRent_83, rfl⟩, rfl⟩, ⟨⟨dX10_takeRent_85, rfl⟩, Or.inr ⟨by decide, ⟨_, my_104, sX10_150⟩, fun q => absurd q (by decide)⟩⟩, ⟨⟨dX10_takeRent_88, rfl⟩, rfl⟩, ⟨⟨dX10_takeRent_89, rfl⟩, Or.inl ⟨by decide, _, _, fX10_26⟩⟩, ⟨⟨dX10_takeRent_92, rfl⟩, rfl⟩, ⟨⟨dX10_takeRent_93, rfl⟩, rfl⟩, ⟨⟨dX10_takeRent_94, rfl⟩, Or.inr ⟨by decide, ⟨_, my_102, sX10_167⟩, fun q => absurd q (by decide)⟩⟩, ⟨⟨dX10_takeRent_97, rfl⟩, trivial⟩, ⟨⟨dX10_takeRent_98, rfl⟩, rfl⟩, ⟨⟨dX10_takeRent_100, rfl⟩, trivial⟩, ⟨⟨dX10_takeRent_101, rfl⟩, ⟨rfl, rfl⟩⟩, ⟨⟨dX10_takeRent_103, rfl⟩, rfl⟩, ⟨⟨dX10_takeRent_105, rfl⟩, rfl⟩, ⟨⟨dX10_takeRent_106, rfl⟩, rfl⟩, ⟨⟨dX10_takeRent_107, rfl⟩, Or.inl ⟨by decide, _, _, fX10_26⟩⟩, ⟨⟨dX10_takeRent_110, rfl⟩, rfl⟩, ⟨⟨dX10_takeRent_111, rfl⟩, rfl⟩, ⟨⟨dX10_takeRent_112, rfl⟩, Or.inr ⟨by decide, ⟨_, my_102, sX10_167⟩, fun q => absurd q (by decide)⟩⟩, ⟨⟨dX10_takeRent_115, rfl⟩, Or.inr (Or.inr (Or.inr (Or.inr (Or.inl ⟨rfl, sX10_177⟩))))⟩, ⟨⟨dX10_takeRent_118, rfl⟩, trivial⟩, ⟨⟨dX10_takeRent_119, rfl⟩, Or.inr (Or.inr (Or.inr (Or.inr (Or.inr (Or.inr (Or.inr ⟨rfl, sX10_188⟩))))))⟩, ⟨⟨dX10_takeRent_122, rfl⟩, trivial⟩, trivial⟩,
  ⟨⟨⟨dX10_takeRent_123, rfl⟩, rfl⟩, ⟨⟨dX10_takeRent_125, rfl⟩, rfl⟩, ⟨⟨dX10_takeRent_126, rfl⟩, Or.inl ⟨by decide, _, _, fX10_26⟩⟩, ⟨⟨dX10_takeRent_129, rfl⟩, rfl⟩, ⟨⟨dX10_takeRent_130, rfl⟩, rfl⟩, ⟨⟨dX10_takeRent_131, rfl⟩, rfl⟩, ⟨⟨dX10_takeRent_133, rfl⟩, trivial⟩, ⟨⟨dX10_takeRent_134, rfl⟩, trivial⟩, ⟨⟨dX10_takeRent_135, rfl⟩, Or.inr ⟨by decide, ⟨_, my_104, sX10_150⟩, fun q => absurd q (by decide)⟩⟩, ⟨⟨dX10_takeRent_138, rfl⟩, rfl⟩, ⟨⟨dX10_takeRent_139, rfl⟩, Or.inl ⟨by decide, _, _, fX10_26⟩⟩, ⟨⟨dX10_takeRent_142, rfl⟩, rfl⟩, ⟨⟨dX10_takeRent_143, rfl⟩, rfl⟩, ⟨⟨dX10_takeRent_144, rfl⟩, rfl⟩, ⟨⟨dX10_takeRent_146, rfl⟩, rfl⟩, ⟨⟨dX10_takeRent_148, rfl⟩, trivial⟩, ⟨⟨dX10_takeRent_149, rfl⟩, trivial⟩, ⟨⟨dX10_takeRent_150, rfl⟩, Or.inr (Or.inl ⟨rfl, 3, _, my_103, sX10_192⟩)⟩, ⟨⟨dX10_takeRent_153, rfl⟩, Or.inr ⟨by decide, ⟨_, my_100, sX10_185⟩, fun q => absurd q (by decide)⟩⟩, ⟨⟨dX10_takeRent_156, rfl⟩, rfl⟩, ⟨⟨dX10_takeRent_157, rfl⟩, rfl⟩, ⟨⟨dX10_takeRent_158, rfl⟩, rfl⟩, ⟨⟨dX10_takeRent_160, rfl⟩, Or.inr ⟨by decide, ⟨_, my_204, sX10_168⟩, fun q => absurd q (by decide)⟩⟩, ⟨⟨dX10_takeRent_163, rfl⟩, rfl⟩, trivial⟩, trivial⟩, by decide, Or.inl ⟨rfl, by decide, rfl⟩⟩
set_option maxRecDepth 100000 in
theorem g_X10_takeRent_0 (S : sT) (call : cT) (n : Nat) (a0 : Nat) (x1 : Int32) (h : pH) : bd S call dflT E_X10_takeRent (n + 1) 0 [some (.ref a0), some (.int x1), none, none, none, none, none, none, none, none] [] h = (gV h (.ref a0) 13 0 (fun w1 => rC h w1 3 (cI (call 201 [w1, .int x1] h) (fun y3 h2 => rC h2 (.ref a0) 13 (cI (call 202 [.ref a0, .int x1] h2) (fun y5 h4 => rC h4 (.ref a0) 13 (cI (call 203 [.ref a0, .int x1] h4) (fun y7 h6 => (if y7 = (-1) then gV h6 (.ref a0) 13 2 (fun w10 => rC h6 w10 4 (cI (call 102 [w10, .int 4, .int x1] h6) (fun y12 h11 => gV h11 (.ref a0) 13 2 (fun w13 => rC h11 w13 4 (cU (call 100 [w13, .int 4, .int x1, .int 0] h11) (fun h14 => bd S call dflT E_X10_takeRent n 88 [some (.ref a0), some (.int x1), some (.long (if (0 : Int32) < (y3 - y5) then (y3 - y5) else (0 : Int32)).toInt64), none, some (.int y7), some (.long ((if (0 : Int32) < (y3 - y5) then (y3 - y5) else (0 : Int32)).toInt64 + y12.toInt64)), none, none, none, none] [] h14)))))) else dvJ 100 (gV h6 (.ref a0) 13 2 (fun w8 => rC h6 w8 4 (cU (call 104 [w8, .int 4, .int x1, .long (((if (0 : Int32) < (y3 - y5) then (y3 - y5) else (0 : Int32)).toInt64 * y7.toInt64) / 100)] h6) (fun h9 => bd S call dflT E_X10_takeRent n 88 [some (.ref a0), some (.int x1), some (.long (if (0 : Int32) < (y3 - y5) then (y3 - y5) else (0 : Int32)).toInt64), none, some (.int y7), some (.long ((if (0 : Int32) < (y3 - y5) then (y3 - y5) else (0 : Int32)).toInt64 - (((if (0 : Int32) < (y3 - y5) then (y3 - y5) else (0 : Int32)).toInt64 * y7.toInt64) / 100))), none, some (.long (((if (0 : Int32) < (y3 - y5) then (y3 - y5) else (0 : Int32)).toInt64 * y7.toInt64) / 100)), none, none] [] h9))))))))))))) := rfl
set_option maxRecDepth 100000 in
theorem g_X10_takeRent_88 (S : sT) (call : cT) (n : Nat) (a0 : Nat) (x1 : Int32) (j2 : Int64) (x4 : Int32) (j5 : Int64) (o7 : Option Value) (o8 : Option Value) (o9 : Option Value) (h : pH) : bd S call dflT E_X10_takeRent (n + 1) 88 [some (.ref a0), some (.int x1), some (.long j2), none, some (.int x4), some (.long j5), none, o7, o8, o9] [] h = (gV h (.ref a0) 13 2 (fun w1 => rC h w1 4 (cI (call 102 [w1, .int 3, .int x1] h) (fun y3 h2 => gV h2 (.ref a0) 13 2 (fun w4 => rC h2 w4 4 (cI (call 102 [w4, .int 2, .int x1] h2) (fun y6 h5 => gV h5 (.ref a0) 13 2 (fun w7 => rC h5 w7 4 (cU (call 104 [w7, .int 2, .int x1, .long (-(if (if (0 : Int32) < y6 then y6 else (0 : Int32)).toInt64 < (y3.toInt64 + j5) then (if (0 : Int32) < y6 then y6 else (0 : Int32)).toInt64 else (y3.toInt64 + j5)).toInt32).toInt64] h5) (fun h8 => gV h8 (.ref a0) 13 2 (fun w9 => cIx tN (call 103 [.long ((y3.toInt64 + j5) - ((if (if (0 : Int32) < y6 then y6 else (0 : Int32)).toInt64 < (y3.toInt64 + j5) then (if (0 : Int32) < y6 then y6 else (0 : Int32)).toInt64 else (y3.toInt64 + j5)).toInt32).toInt64)] h8) (fun y11 h10 => rC h10 w9 4 (cU (call 100 [w9, .int 3, .int x1, .int y11] h10) (fun h12 => rC h12 (.ref a0) 13 (cU (call 204 [.ref a0, .int x1, .int (if (if (0 : Int32) < y6 then y6 else (0 : Int32)).toInt64 < (y3.toInt64 + j5) then (if (0 : Int32) < y6 then y6 else (0 : Int32)).toInt64 else (y3.toInt64 + j5)).toInt32] h12) (fun h13 => some (.inl none, h13))))))))))))))))) := rfl
theorem dX10_autumn_0 : decode cX10_autumn 0 = .ok (.iconst 0, 1) := by decide +kernel
theorem dX10_autumn_1 : decode cX10_autumn 1 = .ok (.istore_n 1, 1) := by decide +kernel
theorem dX10_autumn_2 : decode cX10_autumn 2 = .ok (.iload_n 1, 1) := by decide +kernel
theorem dX10_autumn_3 : decode cX10_autumn 3 = .ok (.aload_n 0, 1) := by decide +kernel
theorem dX10_autumn_4 : decode cX10_autumn 4 = .ok (.getfield 26, 3) := by decide +kernel
theorem dX10_autumn_7 : decode cX10_autumn 7 = .ok (.getfield 158, 3) := by decide +kernel
theorem dX10_autumn_10 : decode cX10_autumn 10 = .ok (.if_icmp .ge 78, 3) := by decide +kernel
theorem dX10_autumn_13 : decode cX10_autumn 13 = .ok (.aload_n 0, 1) := by decide +kernel
theorem dX10_autumn_14 : decode cX10_autumn 14 = .ok (.getfield 26, 3) := by decide +kernel
theorem dX10_autumn_17 : decode cX10_autumn 17 = .ok (.iload_n 1, 1) := by decide +kernel
theorem dX10_autumn_18 : decode cX10_autumn 18 = .ok (.invokevirtual 161, 3) := by decide +kernel
theorem dX10_autumn_21 : decode cX10_autumn 21 = .ok (.ifCond .ne 22, 3) := by decide +kernel
theorem dX10_autumn_24 : decode cX10_autumn 24 = .ok (.aload_n 0, 1) := by decide +kernel
theorem dX10_autumn_25 : decode cX10_autumn 25 = .ok (.getfield 26, 3) := by decide +kernel
theorem dX10_autumn_28 : decode cX10_autumn 28 = .ok (.iload_n 1, 1) := by decide +kernel
theorem dX10_autumn_29 : decode cX10_autumn 29 = .ok (.invokevirtual 147, 3) := by decide +kernel
theorem dX10_autumn_32 : decode cX10_autumn 32 = .ok (.ifCond .eq 11, 3) := by decide +kernel
theorem dX10_autumn_35 : decode cX10_autumn 35 = .ok (.aload_n 0, 1) := by decide +kernel
theorem dX10_autumn_36 : decode cX10_autumn 36 = .ok (.iload_n 1, 1) := by decide +kernel
theorem dX10_autumn_37 : decode cX10_autumn 37 = .ok (.invokevirtual 164, 3) := by decide +kernel
theorem dX10_autumn_40 : decode cX10_autumn 40 = .ok (.goto 42, 3) := by decide +kernel
theorem dX10_autumn_43 : decode cX10_autumn 43 = .ok (.aload_n 0, 1) := by decide +kernel
theorem dX10_autumn_44 : decode cX10_autumn 44 = .ok (.getfield 26, 3) := by decide +kernel
theorem dX10_autumn_47 : decode cX10_autumn 47 = .ok (.iload_n 1, 1) := by decide +kernel
theorem dX10_autumn_48 : decode cX10_autumn 48 = .ok (.invokevirtual 161, 3) := by decide +kernel
theorem dX10_autumn_51 : decode cX10_autumn 51 = .ok (.ifCond .ne 31, 3) := by decide +kernel
theorem dX10_autumn_54 : decode cX10_autumn 54 = .ok (.aload_n 0, 1) := by decide +kernel
theorem dX10_autumn_55 : decode cX10_autumn 55 = .ok (.getfield 26, 3) := by decide +kernel
theorem dX10_autumn_58 : decode cX10_autumn 58 = .ok (.iconst 0, 1) := by decide +kernel
theorem dX10_autumn_59 : decode cX10_autumn 59 = .ok (.iload_n 1, 1) := by decide +kernel
theorem dX10_autumn_60 : decode cX10_autumn 60 = .ok (.invokevirtual 167, 3) := by decide +kernel
theorem dX10_autumn_63 : decode cX10_autumn 63 = .ok (.iconst 5, 1) := by decide +kernel
theorem dX10_autumn_64 : decode cX10_autumn 64 = .ok (.if_icmp .ne 18, 3) := by decide +kernel
theorem dX10_autumn_67 : decode cX10_autumn 67 = .ok (.aload_n 0, 1) := by decide +kernel
theorem dX10_autumn_68 : decode cX10_autumn 68 = .ok (.iload_n 1, 1) := by decide +kernel
theorem dX10_autumn_69 : decode cX10_autumn 69 = .ok (.aload_n 0, 1) := by decide +kernel
theorem dX10_autumn_70 : decode cX10_autumn 70 = .ok (.getfield 26, 3) := by decide +kernel
theorem dX10_autumn_73 : decode cX10_autumn 73 = .ok (.bipush 11, 2) := by decide +kernel
theorem dX10_autumn_75 : decode cX10_autumn 75 = .ok (.iload_n 1, 1) := by decide +kernel
theorem dX10_autumn_76 : decode cX10_autumn 76 = .ok (.invokevirtual 167, 3) := by decide +kernel
theorem dX10_autumn_79 : decode cX10_autumn 79 = .ok (.invokevirtual 168, 3) := by decide +kernel
theorem dX10_autumn_82 : decode cX10_autumn 82 = .ok (.iinc 1 1, 3) := by decide +kernel
theorem dX10_autumn_85 : decode cX10_autumn 85 = .ok (.goto (-83), 3) := by decide +kernel
theorem dX10_autumn_88 : decode cX10_autumn 88 = .ok (.return_, 1) := by decide +kernel
noncomputable def E_X10_autumn : mE := (mX10_autumn, [(47, [(0, (.iconst 0, 1, false, false, 0, 0, 0, 0, 0, 0, [])), (1, (.istore_n 1, 2, true, false, 1, 0, 0, 0, 0, 0, [])), (2, (.iload_n 1, 3, false, false, 1, 0, 0, 0, 0, 0, [])), (3, (.aload_n 0, 4, false, false, 0, 0, 0, 0, 0, 0, [])), (4, (.getfield 26, 7, false, false, 13, 2, 1, 0, 0, 0, [])), (7, (.getfield 158, 10, false, false, 4, 0, 0, 0, 0, 0, [])), (10, (.if_icmp .ge 78, 13, false, false, 88, 0, 0, 0, 0, 0, [])), (13, (.aload_n 0, 14, false, false, 0, 0, 0, 0, 0, 0, [])), (14, (.getfield 26, 17, false, false, 13, 2, 1, 0, 0, 0, [])), (17, (.iload_n 1, 18, false, false, 1, 0, 0, 0, 0, 0, [])), (18, (.invokevirtual 161, 21, false, false, 195, 1, 1, 4, 0, 0, [])), (21, (.ifCond .ne 22, 24, false, true, 43, 0, 0, 0, 0, 0, [])), (24, (.aload_n 0, 25, false, false, 0, 0, 0, 0, 0, 0, [])), (25, (.getfield 26, 28, false, false, 13, 2, 1, 0, 0, 0, [])), (28, (.iload_n 1, 29, false, false, 1, 0, 0, 0, 0, 0, [])), (29, (.invokevirtual 147, 32, false, false, 174, 1, 1, 4, 0, 0, [])), (32, (.ifCond .eq 11, 35, false, true, 43, 0, 0, 0, 0, 0, [])), (35, (.aload_n 0, 36, false, false, 0, 0, 0, 0, 0, 0, [])), (36, (.iload_n 1, 37, false, false, 1, 0, 0, 0, 0, 0, [])), (37, (.invokevirtual 164, 40, false, false, 205, 1, 0, 13, 0, 0, [])), (40, (.goto 42, 43, false, false, 82, 0, 0, 0, 0, 0, [])), (43, (.aload_n 0, 44, false, false, 0, 0, 0, 0, 0, 0, [])), (44, (.getfield 26, 47, false, false, 13, 2, 1, 0, 0, 0, [])), (47, (.iload_n 1, 48, false, false, 1, 0, 0, 0, 0, 0, []))]),
  (88, [(48, (.invokevirtual 161, 51, false, false, 195, 1, 1, 4, 0, 0, [])), (51, (.ifCond .ne 31, 54, false, false, 82, 0, 0, 0, 0, 0, [])), (54, (.aload_n 0, 55, false, false, 0, 0, 0, 0, 0, 0, [])), (55, (.getfield 26, 58, false, false, 13, 2, 1, 0, 0, 0, [])), (58, (.iconst 0, 59, false, false, 0, 0, 0, 0, 0, 0, [])), (59, (.iload_n 1, 60, false, false, 1, 0, 0, 0, 0, 0, [])), (60, (.invokevirtual 167, 63, false, false, 102, 2, 1, 4, 0, 0, [])), (63, (.iconst 5, 64, false, false, 0, 0, 0, 0, 5, 0, [])), (64, (.if_icmp .ne 18, 67, false, false, 82, 0, 0, 0, 0, 0, [])), (67, (.aload_n 0, 68, false, false, 0, 0, 0, 0, 0, 0, [])), (68, (.iload_n 1, 69, false, false, 1, 0, 0, 0, 0, 0, [])), (69, (.aload_n 0, 70, false, false, 0, 0, 0, 0, 0, 0, [])), (70, (.getfield 26, 73, false, false, 13, 2, 1, 0, 0, 0, [])), (73, (.bipush 11, 75, false, false, 0, 0, 0, 0, 11, 0, [])), (75, (.iload_n 1, 76, false, false, 1, 0, 0, 0, 0, 0, [])), (76, (.invokevirtual 167, 79, false, false, 102, 2, 1, 4, 0, 0, [])), (79, (.invokevirtual 168, 82, false, false, 204, 2, 0, 13, 0, 0, [])), (82, (.iinc 1 1, 85, false, false, 1, 0, 0, 0, 1, 0, [])), (85, (.goto (-83), 88, false, true, 2, 0, 0, 0, 0, 0, [])), (88, (.return_, 89, false, false, 0, 0, 0, 0, 0, 0, []))])], 0, [])
set_option maxRecDepth 100000 in
theorem v_X10_autumn : VE MYT dflT E_X10_autumn := ⟨⟨⟨⟨⟨dX10_autumn_0, rfl⟩, rfl⟩, ⟨⟨dX10_autumn_1, rfl⟩, rfl⟩, ⟨⟨dX10_autumn_2, rfl⟩, rfl⟩, ⟨⟨dX10_autumn_3, rfl⟩, rfl⟩, ⟨⟨dX10_autumn_4, rfl⟩, Or.inl ⟨by decide, _, _, fX10_26⟩⟩, ⟨⟨dX10_autumn_7, rfl⟩, Or.inl ⟨by decide, _, _, fX10_158⟩⟩, ⟨⟨dX10_autumn_10, rfl⟩, rfl⟩, ⟨⟨dX10_autumn_13, rfl⟩, rfl⟩, ⟨⟨dX10_autumn_14, rfl⟩, Or.inl ⟨by decide, _, _, fX10_26⟩⟩, ⟨⟨dX10_autumn_17, rfl⟩, rfl⟩, ⟨⟨dX10_autumn_18, rfl⟩, Or.inr ⟨by decide, ⟨_, my_195, sX10_161⟩, fun q => absurd q (by decide)⟩⟩, ⟨⟨dX10_autumn_21, rfl⟩, rfl⟩, ⟨⟨dX10_autumn_24, rfl⟩, rfl⟩, ⟨⟨dX10_autumn_25, rfl⟩, Or.inl ⟨by decide, _, _, fX10_26⟩⟩, ⟨⟨dX10_autumn_28, rfl⟩, rfl⟩, ⟨⟨dX10_autumn_29, rfl⟩, Or.inr ⟨by decide, ⟨_, my_174, sX10_147⟩, fun q => absurd q (by decide)⟩⟩, ⟨⟨dX10_autumn_32, rfl⟩, rfl⟩, ⟨⟨dX10_autumn_35, rfl⟩, rfl⟩, ⟨⟨dX10_autumn_36, rfl⟩, rfl⟩, ⟨⟨dX10_autumn_37, rfl⟩, Or.inr ⟨by decide, ⟨_, my_205, sX10_164⟩, fun q => absurd q (by decide)⟩⟩, ⟨⟨dX10_autumn_40, rfl⟩, rfl⟩, ⟨⟨dX10_autumn_43, rfl⟩, rfl⟩, ⟨⟨dX10_autumn_44, rfl⟩, Or.inl ⟨by decide, _, _, fX10_26⟩⟩, ⟨⟨dX10_autumn_47, rfl⟩, rfl⟩, trivial⟩,
  ⟨⟨⟨dX10_autumn_48, rfl⟩, Or.inr ⟨by decide, ⟨_, my_195, sX10_161⟩, fun q => absurd q (by decide)⟩⟩, ⟨⟨dX10_autumn_51, rfl⟩, rfl⟩, ⟨⟨dX10_autumn_54, rfl⟩, rfl⟩, ⟨⟨dX10_autumn_55, rfl⟩, Or.inl ⟨by decide, _, _, fX10_26⟩⟩, ⟨⟨dX10_autumn_58, rfl⟩, rfl⟩, ⟨⟨dX10_autumn_59, rfl⟩, rfl⟩, ⟨⟨dX10_autumn_60, rfl⟩, Or.inr ⟨by decide, ⟨_, my_102, sX10_167⟩, fun q => absurd q (by decide)⟩⟩, ⟨⟨dX10_autumn_63, rfl⟩, rfl⟩, ⟨⟨dX10_autumn_64, rfl⟩, rfl⟩, ⟨⟨dX10_autumn_67, rfl⟩, rfl⟩, ⟨⟨dX10_autumn_68, rfl⟩, rfl⟩, ⟨⟨dX10_autumn_69, rfl⟩, rfl⟩, ⟨⟨dX10_autumn_70, rfl⟩, Or.inl ⟨by decide, _, _, fX10_26⟩⟩, ⟨⟨dX10_autumn_73, rfl⟩, rfl⟩, ⟨⟨dX10_autumn_75, rfl⟩, rfl⟩, ⟨⟨dX10_autumn_76, rfl⟩, Or.inr ⟨by decide, ⟨_, my_102, sX10_167⟩, fun q => absurd q (by decide)⟩⟩, ⟨⟨dX10_autumn_79, rfl⟩, Or.inr ⟨by decide, ⟨_, my_204, sX10_168⟩, fun q => absurd q (by decide)⟩⟩, ⟨⟨dX10_autumn_82, rfl⟩, ⟨rfl, rfl⟩⟩, ⟨⟨dX10_autumn_85, rfl⟩, rfl⟩, ⟨⟨dX10_autumn_88, rfl⟩, rfl⟩, trivial⟩, trivial⟩, by decide, Or.inl ⟨rfl, by decide, rfl⟩⟩
set_option maxRecDepth 100000 in
theorem g_X10_autumn_0 (S : sT) (call : cT) (n : Nat) (a0 : Nat) (h : pH) : bd S call dflT E_X10_autumn (n + 1) 0 [some (.ref a0), none] [] h = (bd S call dflT E_X10_autumn n 2 [some (.ref a0), some (.int 0)] [] h) := rfl
set_option maxRecDepth 100000 in
theorem g_X10_autumn_2 (S : sT) (call : cT) (n : Nat) (a0 : Nat) (x1 : Int32) (h : pH) : bd S call dflT E_X10_autumn (n + 1) 2 [some (.ref a0), some (.int x1)] [] h = (gV h (.ref a0) 13 2 (fun w1 => gI h w1 4 0 (fun y2 => (if y2 ≤ x1 then some (.inl none, h) else gV h (.ref a0) 13 2 (fun w3 => rC h w3 4 (cI (call 195 [w3, .int x1] h) (fun y5 h4 => (if y5 = 0 then gV h4 (.ref a0) 13 2 (fun w6 => rC h4 w6 4 (cI (call 174 [w6, .int x1] h4) (fun y8 h7 => (if y8 = 0 then bd S call dflT E_X10_autumn n 43 [some (.ref a0), some (.int x1)] [] h7 else rC h7 (.ref a0) 13 (cU (call 205 [.ref a0, .int x1] h7) (fun h9 => bd S call dflT E_X10_autumn n 2 [some (.ref a0), some (.int (x1 + 1))] [] h9)))))) else bd S call dflT E_X10_autumn n 43 [some (.ref a0), some (.int x1)] [] h4)))))))) := rfl
set_option maxRecDepth 100000 in
theorem g_X10_autumn_43 (S : sT) (call : cT) (n : Nat) (a0 : Nat) (x1 : Int32) (h : pH) : bd S call dflT E_X10_autumn (n + 1) 43 [some (.ref a0), some (.int x1)] [] h = (gV h (.ref a0) 13 2 (fun w1 => rC h w1 4 (cI (call 195 [w1, .int x1] h) (fun y3 h2 => (if y3 = 0 then gV h2 (.ref a0) 13 2 (fun w4 => rC h2 w4 4 (cI (call 102 [w4, .int 0, .int x1] h2) (fun y6 h5 => (if y6 = 5 then gV h5 (.ref a0) 13 2 (fun w7 => rC h5 w7 4 (cI (call 102 [w7, .int 11, .int x1] h5) (fun y9 h8 => rC h8 (.ref a0) 13 (cU (call 204 [.ref a0, .int x1, .int y9] h8) (fun h10 => bd S call dflT E_X10_autumn n 2 [some (.ref a0), some (.int (x1 + 1))] [] h10))))) else bd S call dflT E_X10_autumn n 2 [some (.ref a0), some (.int (x1 + 1))] [] h5)))) else bd S call dflT E_X10_autumn n 2 [some (.ref a0), some (.int (x1 + 1))] [] h2))))) := rfl
theorem dX10_isBesideWood_0 : decode cX10_isBesideWood 0 = .ok (.iconst 0, 1) := by decide +kernel
theorem dX10_isBesideWood_1 : decode cX10_isBesideWood 1 = .ok (.istore_n 2, 1) := by decide +kernel
theorem dX10_isBesideWood_2 : decode cX10_isBesideWood 2 = .ok (.iload_n 2, 1) := by decide +kernel
theorem dX10_isBesideWood_3 : decode cX10_isBesideWood 3 = .ok (.iconst 4, 1) := by decide +kernel
theorem dX10_isBesideWood_4 : decode cX10_isBesideWood 4 = .ok (.if_icmp .ge 34, 3) := by decide +kernel
theorem dX10_isBesideWood_7 : decode cX10_isBesideWood 7 = .ok (.iload_n 1, 1) := by decide +kernel
theorem dX10_isBesideWood_8 : decode cX10_isBesideWood 8 = .ok (.iload_n 2, 1) := by decide +kernel
theorem dX10_isBesideWood_9 : decode cX10_isBesideWood 9 = .ok (.invokestatic 218, 3) := by decide +kernel
theorem dX10_isBesideWood_12 : decode cX10_isBesideWood 12 = .ok (.istore_n 3, 1) := by decide +kernel
theorem dX10_isBesideWood_13 : decode cX10_isBesideWood 13 = .ok (.iload_n 3, 1) := by decide +kernel
theorem dX10_isBesideWood_14 : decode cX10_isBesideWood 14 = .ok (.iconst (-1), 1) := by decide +kernel
theorem dX10_isBesideWood_15 : decode cX10_isBesideWood 15 = .ok (.if_icmp .eq 17, 3) := by decide +kernel
theorem dX10_isBesideWood_18 : decode cX10_isBesideWood 18 = .ok (.aload_n 0, 1) := by decide +kernel
theorem dX10_isBesideWood_19 : decode cX10_isBesideWood 19 = .ok (.getfield 9, 3) := by decide +kernel
theorem dX10_isBesideWood_22 : decode cX10_isBesideWood 22 = .ok (.iload_n 3, 1) := by decide +kernel
theorem dX10_isBesideWood_23 : decode cX10_isBesideWood 23 = .ok (.invokevirtual 73, 3) := by decide +kernel
theorem dX10_isBesideWood_26 : decode cX10_isBesideWood 26 = .ok (.iconst 3, 1) := by decide +kernel
theorem dX10_isBesideWood_27 : decode cX10_isBesideWood 27 = .ok (.if_icmp .ne 5, 3) := by decide +kernel
theorem dX10_isBesideWood_30 : decode cX10_isBesideWood 30 = .ok (.iconst 1, 1) := by decide +kernel
theorem dX10_isBesideWood_31 : decode cX10_isBesideWood 31 = .ok (.ireturn, 1) := by decide +kernel
theorem dX10_isBesideWood_32 : decode cX10_isBesideWood 32 = .ok (.iinc 2 1, 3) := by decide +kernel
theorem dX10_isBesideWood_35 : decode cX10_isBesideWood 35 = .ok (.goto (-33), 3) := by decide +kernel
theorem dX10_isBesideWood_38 : decode cX10_isBesideWood 38 = .ok (.iconst 0, 1) := by decide +kernel
theorem dX10_isBesideWood_39 : decode cX10_isBesideWood 39 = .ok (.ireturn, 1) := by decide +kernel
noncomputable def E_X10_isBesideWood : mE := (mX10_isBesideWood, [(39, [(0, (.iconst 0, 1, false, false, 0, 0, 0, 0, 0, 0, [])), (1, (.istore_n 2, 2, true, false, 2, 0, 0, 0, 0, 0, [])), (2, (.iload_n 2, 3, false, false, 2, 0, 0, 0, 0, 0, [])), (3, (.iconst 4, 4, false, false, 0, 0, 0, 0, 4, 0, [])), (4, (.if_icmp .ge 34, 7, false, false, 38, 0, 0, 0, 0, 0, [])), (7, (.iload_n 1, 8, false, false, 1, 0, 0, 0, 0, 0, [])), (8, (.iload_n 2, 9, false, false, 2, 0, 0, 0, 0, 0, [])), (9, (.invokestatic 218, 12, false, false, 207, 2, 1, 0, 0, 0, [])), (12, (.istore_n 3, 13, false, false, 3, 0, 0, 0, 0, 0, [])), (13, (.iload_n 3, 14, false, false, 3, 0, 0, 0, 0, 0, [])), (14, (.iconst (-1), 15, false, false, 0, 0, 0, 0, -1, 0, [])), (15, (.if_icmp .eq 17, 18, false, false, 32, 0, 0, 0, 0, 0, [])), (18, (.aload_n 0, 19, false, false, 0, 0, 0, 0, 0, 0, [])), (19, (.getfield 9, 22, false, false, 13, 0, 1, 0, 0, 0, [])), (22, (.iload_n 3, 23, false, false, 3, 0, 0, 0, 0, 0, [])), (23, (.invokevirtual 73, 26, false, false, 160, 1, 1, 3, 0, 0, [])), (26, (.iconst 3, 27, false, false, 0, 0, 0, 0, 3, 0, [])), (27, (.if_icmp .ne 5, 30, false, false, 32, 0, 0, 0, 0, 0, [])), (30, (.iconst 1, 31, false, false, 0, 0, 0, 0, 1, 0, [])), (31, (.ireturn, 32, false, false, 0, 0, 1, 0, 0, 0, [])), (32, (.iinc 2 1, 35, false, false, 2, 0, 0, 0, 1, 0, [])), (35, (.goto (-33), 38, false, true, 2, 0, 0, 0, 0, 0, [])), (38, (.iconst 0, 39, false, false, 0, 0, 0, 0, 0, 0, [])), (39, (.ireturn, 40, false, false, 0, 0, 1, 0, 0, 0, []))])], 0, [])
set_option maxRecDepth 100000 in
theorem v_X10_isBesideWood : VE MYT dflT E_X10_isBesideWood := ⟨⟨⟨⟨⟨dX10_isBesideWood_0, rfl⟩, rfl⟩, ⟨⟨dX10_isBesideWood_1, rfl⟩, rfl⟩, ⟨⟨dX10_isBesideWood_2, rfl⟩, rfl⟩, ⟨⟨dX10_isBesideWood_3, rfl⟩, rfl⟩, ⟨⟨dX10_isBesideWood_4, rfl⟩, rfl⟩, ⟨⟨dX10_isBesideWood_7, rfl⟩, rfl⟩, ⟨⟨dX10_isBesideWood_8, rfl⟩, rfl⟩, ⟨⟨dX10_isBesideWood_9, rfl⟩, Or.inl ⟨rfl, _, my_207, sX10_218⟩⟩, ⟨⟨dX10_isBesideWood_12, rfl⟩, rfl⟩, ⟨⟨dX10_isBesideWood_13, rfl⟩, rfl⟩, ⟨⟨dX10_isBesideWood_14, rfl⟩, rfl⟩, ⟨⟨dX10_isBesideWood_15, rfl⟩, rfl⟩, ⟨⟨dX10_isBesideWood_18, rfl⟩, rfl⟩, ⟨⟨dX10_isBesideWood_19, rfl⟩, Or.inl ⟨by decide, _, _, fX10_9⟩⟩, ⟨⟨dX10_isBesideWood_22, rfl⟩, rfl⟩, ⟨⟨dX10_isBesideWood_23, rfl⟩, Or.inr ⟨by decide, ⟨_, my_160, sX10_73⟩, fun q => absurd q (by decide)⟩⟩, ⟨⟨dX10_isBesideWood_26, rfl⟩, rfl⟩, ⟨⟨dX10_isBesideWood_27, rfl⟩, rfl⟩, ⟨⟨dX10_isBesideWood_30, rfl⟩, rfl⟩, ⟨⟨dX10_isBesideWood_31, rfl⟩, Or.inr (Or.inl ⟨rfl, rfl⟩)⟩, ⟨⟨dX10_isBesideWood_32, rfl⟩, ⟨rfl, rfl⟩⟩, ⟨⟨dX10_isBesideWood_35, rfl⟩, rfl⟩, ⟨⟨dX10_isBesideWood_38, rfl⟩, rfl⟩, ⟨⟨dX10_isBesideWood_39, rfl⟩, Or.inr (Or.inl ⟨rfl, rfl⟩)⟩, trivial⟩, trivial⟩, by decide, Or.inl ⟨rfl, by decide, rfl⟩⟩
set_option maxRecDepth 100000 in
theorem g_X10_isBesideWood_0 (S : sT) (call : cT) (n : Nat) (a0 : Nat) (x1 : Int32) (h : pH) : bd S call dflT E_X10_isBesideWood (n + 1) 0 [some (.ref a0), some (.int x1), none, none] [] h = (bd S call dflT E_X10_isBesideWood n 2 [some (.ref a0), some (.int x1), some (.int 0), none] [] h) := rfl
set_option maxRecDepth 100000 in
theorem g_X10_isBesideWood_2 (S : sT) (call : cT) (n : Nat) (a0 : Nat) (x1 : Int32) (x2 : Int32) (o3 : Option Value) (h : pH) : bd S call dflT E_X10_isBesideWood (n + 1) 2 [some (.ref a0), some (.int x1), some (.int x2), o3] [] h = ((if 4 ≤ x2 then zR 0 (some (.inl (some (.int 0)), h)) else cI (call 207 [.int x1, .int x2] h) (fun y2 h1 => (if y2 = (-1) then bd S call dflT E_X10_isBesideWood n 2 [some (.ref a0), some (.int x1), some (.int (x2 + 1)), some (.int y2)] [] h1 else gV h1 (.ref a0) 13 0 (fun w3 => rC h1 w3 3 (cI (call 160 [w3, .int y2] h1) (fun y5 h4 => (if y5 = 3 then zR 1 (some (.inl (some (.int 1)), h4)) else bd S call dflT E_X10_isBesideWood n 2 [some (.ref a0), some (.int x1), some (.int (x2 + 1)), some (.int y2)] [] h4)))))))) := rfl
theorem dX10_breedGame_0 : decode cX10_breedGame 0 = .ok (.iconst 0, 1) := by decide +kernel
theorem dX10_breedGame_1 : decode cX10_breedGame 1 = .ok (.istore_n 1, 1) := by decide +kernel
theorem dX10_breedGame_2 : decode cX10_breedGame 2 = .ok (.iload_n 1, 1) := by decide +kernel
theorem dX10_breedGame_3 : decode cX10_breedGame 3 = .ok (.bipush 48, 2) := by decide +kernel
theorem dX10_breedGame_5 : decode cX10_breedGame 5 = .ok (.if_icmp .ge 94, 3) := by decide +kernel
theorem dX10_breedGame_8 : decode cX10_breedGame 8 = .ok (.aload_n 0, 1) := by decide +kernel
theorem dX10_breedGame_9 : decode cX10_breedGame 9 = .ok (.getfield 21, 3) := by decide +kernel
theorem dX10_breedGame_12 : decode cX10_breedGame 12 = .ok (.bipush 6, 2) := by decide +kernel
theorem dX10_breedGame_14 : decode cX10_breedGame 14 = .ok (.iload_n 1, 1) := by decide +kernel
theorem dX10_breedGame_15 : decode cX10_breedGame 15 = .ok (.invokevirtual 79, 3) := by decide +kernel
theorem dX10_breedGame_18 : decode cX10_breedGame 18 = .ok (.istore_n 2, 1) := by decide +kernel
theorem dX10_breedGame_19 : decode cX10_breedGame 19 = .ok (.aload_n 0, 1) := by decide +kernel
theorem dX10_breedGame_20 : decode cX10_breedGame 20 = .ok (.getfield 9, 3) := by decide +kernel
theorem dX10_breedGame_23 : decode cX10_breedGame 23 = .ok (.iload_n 1, 1) := by decide +kernel
theorem dX10_breedGame_24 : decode cX10_breedGame 24 = .ok (.invokevirtual 73, 3) := by decide +kernel
theorem dX10_breedGame_27 : decode cX10_breedGame 27 = .ok (.iconst 3, 1) := by decide +kernel
theorem dX10_breedGame_28 : decode cX10_breedGame 28 = .ok (.if_icmp .ne 28, 3) := by decide +kernel
theorem dX10_breedGame_31 : decode cX10_breedGame 31 = .ok (.aload_n 0, 1) := by decide +kernel
theorem dX10_breedGame_32 : decode cX10_breedGame 32 = .ok (.getfield 21, 3) := by decide +kernel
theorem dX10_breedGame_35 : decode cX10_breedGame 35 = .ok (.bipush 6, 2) := by decide +kernel
theorem dX10_breedGame_37 : decode cX10_breedGame 37 = .ok (.iload_n 1, 1) := by decide +kernel
theorem dX10_breedGame_38 : decode cX10_breedGame 38 = .ok (.bipush 99, 2) := by decide +kernel
theorem dX10_breedGame_40 : decode cX10_breedGame 40 = .ok (.iload_n 2, 1) := by decide +kernel
theorem dX10_breedGame_41 : decode cX10_breedGame 41 = .ok (.iload_n 2, 1) := by decide +kernel
theorem dX10_breedGame_42 : decode cX10_breedGame 42 = .ok (.iconst 1, 1) := by decide +kernel
theorem dX10_breedGame_43 : decode cX10_breedGame 43 = .ok (.iadd, 1) := by decide +kernel
theorem dX10_breedGame_44 : decode cX10_breedGame 44 = .ok (.iconst 2, 1) := by decide +kernel
theorem dX10_breedGame_45 : decode cX10_breedGame 45 = .ok (.idiv, 1) := by decide +kernel
theorem dX10_breedGame_46 : decode cX10_breedGame 46 = .ok (.iadd, 1) := by decide +kernel
theorem dX10_breedGame_47 : decode cX10_breedGame 47 = .ok (.invokestatic 210, 3) := by decide +kernel
theorem dX10_breedGame_50 : decode cX10_breedGame 50 = .ok (.invokevirtual 93, 3) := by decide +kernel
theorem dX10_breedGame_53 : decode cX10_breedGame 53 = .ok (.goto 40, 3) := by decide +kernel
theorem dX10_breedGame_56 : decode cX10_breedGame 56 = .ok (.aload_n 0, 1) := by decide +kernel
theorem dX10_breedGame_57 : decode cX10_breedGame 57 = .ok (.iload_n 1, 1) := by decide +kernel
theorem dX10_breedGame_58 : decode cX10_breedGame 58 = .ok (.invokevirtual 212, 3) := by decide +kernel
theorem dX10_breedGame_61 : decode cX10_breedGame 61 = .ok (.ifCond .eq 32, 3) := by decide +kernel
theorem dX10_breedGame_64 : decode cX10_breedGame 64 = .ok (.aload_n 0, 1) := by decide +kernel
theorem dX10_breedGame_65 : decode cX10_breedGame 65 = .ok (.getfield 21, 3) := by decide +kernel
theorem dX10_breedGame_68 : decode cX10_breedGame 68 = .ok (.iload_n 1, 1) := by decide +kernel
theorem dX10_breedGame_69 : decode cX10_breedGame 69 = .ok (.invokevirtual 215, 3) := by decide +kernel
theorem dX10_breedGame_72 : decode cX10_breedGame 72 = .ok (.ifCond .ne 21, 3) := by decide +kernel
theorem dX10_breedGame_75 : decode cX10_breedGame 75 = .ok (.aload_n 0, 1) := by decide +kernel
theorem dX10_breedGame_76 : decode cX10_breedGame 76 = .ok (.getfield 21, 3) := by decide +kernel
theorem dX10_breedGame_79 : decode cX10_breedGame 79 = .ok (.bipush 6, 2) := by decide +kernel
theorem dX10_breedGame_81 : decode cX10_breedGame 81 = .ok (.iload_n 1, 1) := by decide +kernel
theorem dX10_breedGame_82 : decode cX10_breedGame 82 = .ok (.bipush 99, 2) := by decide +kernel
theorem dX10_breedGame_84 : decode cX10_breedGame 84 = .ok (.iload_n 2, 1) := by decide +kernel
theorem dX10_breedGame_85 : decode cX10_breedGame 85 = .ok (.iconst 1, 1) := by decide +kernel
theorem dX10_breedGame_86 : decode cX10_breedGame 86 = .ok (.iadd, 1) := by decide +kernel
theorem dX10_breedGame_87 : decode cX10_breedGame 87 = .ok (.invokestatic 210, 3) := by decide +kernel
theorem dX10_breedGame_90 : decode cX10_breedGame 90 = .ok (.invokevirtual 93, 3) := by decide +kernel
theorem dX10_breedGame_93 : decode cX10_breedGame 93 = .ok (.iinc 1 1, 3) := by decide +kernel
theorem dX10_breedGame_96 : decode cX10_breedGame 96 = .ok (.goto (-94), 3) := by decide +kernel
theorem dX10_breedGame_99 : decode cX10_breedGame 99 = .ok (.return_, 1) := by decide +kernel
noncomputable def E_X10_breedGame : mE := (mX10_breedGame, [(41, [(0, (.iconst 0, 1, false, false, 0, 0, 0, 0, 0, 0, [])), (1, (.istore_n 1, 2, true, false, 1, 0, 0, 0, 0, 0, [])), (2, (.iload_n 1, 3, false, false, 1, 0, 0, 0, 0, 0, [])), (3, (.bipush 48, 5, false, false, 0, 0, 0, 0, 48, 0, [])), (5, (.if_icmp .ge 94, 8, false, false, 99, 0, 0, 0, 0, 0, [])), (8, (.aload_n 0, 9, false, false, 0, 0, 0, 0, 0, 0, [])), (9, (.getfield 21, 12, false, false, 13, 1, 1, 0, 0, 0, [])), (12, (.bipush 6, 14, false, false, 0, 0, 0, 0, 6, 0, [])), (14, (.iload_n 1, 15, false, false, 1, 0, 0, 0, 0, 0, [])), (15, (.invokevirtual 79, 18, false, false, 23, 2, 1, 5, 0, 0, [])), (18, (.istore_n 2, 19, false, false, 2, 0, 0, 0, 0, 0, [])), (19, (.aload_n 0, 20, false, false, 0, 0, 0, 0, 0, 0, [])), (20, (.getfield 9, 23, false, false, 13, 0, 1, 0, 0, 0, [])), (23, (.iload_n 1, 24, false, false, 1, 0, 0, 0, 0, 0, [])), (24, (.invokevirtual 73, 27, false, false, 160, 1, 1, 3, 0, 0, [])), (27, (.iconst 3, 28, false, false, 0, 0, 0, 0, 3, 0, [])), (28, (.if_icmp .ne 28, 31, false, false, 56, 0, 0, 0, 0, 0, [])), (31, (.aload_n 0, 32, false, false, 0, 0, 0, 0, 0, 0, [])), (32, (.getfield 21, 35, false, false, 13, 1, 1, 0, 0, 0, [])), (35, (.bipush 6, 37, false, false, 0, 0, 0, 0, 6, 0, [])), (37, (.iload_n 1, 38, false, false, 1, 0, 0, 0, 0, 0, [])), (38, (.bipush 99, 40, false, false, 0, 0, 0, 0, 99, 0, [])), (40, (.iload_n 2, 41, false, false, 2, 0, 0, 0, 0, 0, [])), (41, (.iload_n 2, 42, false, false, 2, 0, 0, 0, 0, 0, []))]),
  (85, [(42, (.iconst 1, 43, false, false, 0, 0, 0, 0, 1, 0, [])), (43, (.iadd, 44, false, false, 0, 0, 0, 0, 0, 0, [])), (44, (.iconst 2, 45, false, false, 0, 0, 0, 0, 2, 0, [])), (45, (.idiv, 46, false, false, 0, 0, 0, 0, 0, 0, [])), (46, (.iadd, 47, false, false, 0, 0, 0, 0, 0, 0, [])), (47, (.invokestatic 210, 50, false, false, 0, 2, 1, 6, 0, 0, [])), (50, (.invokevirtual 93, 53, false, false, 25, 3, 0, 5, 0, 0, [])), (53, (.goto 40, 56, false, false, 93, 0, 0, 0, 0, 0, [])), (56, (.aload_n 0, 57, false, false, 0, 0, 0, 0, 0, 0, [])), (57, (.iload_n 1, 58, false, false, 1, 0, 0, 0, 0, 0, [])), (58, (.invokevirtual 212, 61, false, false, 208, 1, 1, 13, 0, 0, [])), (61, (.ifCond .eq 32, 64, false, false, 93, 0, 0, 0, 0, 0, [])), (64, (.aload_n 0, 65, false, false, 0, 0, 0, 0, 0, 0, [])), (65, (.getfield 21, 68, false, false, 13, 1, 1, 0, 0, 0, [])), (68, (.iload_n 1, 69, false, false, 1, 0, 0, 0, 0, 0, [])), (69, (.invokevirtual 215, 72, false, false, 24, 1, 1, 5, 0, 0, [])), (72, (.ifCond .ne 21, 75, false, false, 93, 0, 0, 0, 0, 0, [])), (75, (.aload_n 0, 76, false, false, 0, 0, 0, 0, 0, 0, [])), (76, (.getfield 21, 79, false, false, 13, 1, 1, 0, 0, 0, [])), (79, (.bipush 6, 81, false, false, 0, 0, 0, 0, 6, 0, [])), (81, (.iload_n 1, 82, false, false, 1, 0, 0, 0, 0, 0, [])), (82, (.bipush 99, 84, false, false, 0, 0, 0, 0, 99, 0, [])), (84, (.iload_n 2, 85, false, false, 2, 0, 0, 0, 0, 0, [])), (85, (.iconst 1, 86, false, false, 0, 0, 0, 0, 1, 0, []))]),
  (99, [(86, (.iadd, 87, false, false, 0, 0, 0, 0, 0, 0, [])), (87, (.invokestatic 210, 90, false, false, 0, 2, 1, 6, 0, 0, [])), (90, (.invokevirtual 93, 93, false, false, 25, 3, 0, 5, 0, 0, [])), (93, (.iinc 1 1, 96, false, false, 1, 0, 0, 0, 1, 0, [])), (96, (.goto (-94), 99, false, true, 2, 0, 0, 0, 0, 0, [])), (99, (.return_, 100, false, false, 0, 0, 0, 0, 0, 0, []))])], 0, [])
set_option maxRecDepth 100000 in
theorem v_X10_breedGame : VE MYT dflT E_X10_breedGame := ⟨⟨⟨⟨⟨dX10_breedGame_0, rfl⟩, rfl⟩, ⟨⟨dX10_breedGame_1, rfl⟩, rfl⟩, ⟨⟨dX10_breedGame_2, rfl⟩, rfl⟩, ⟨⟨dX10_breedGame_3, rfl⟩, rfl⟩, ⟨⟨dX10_breedGame_5, rfl⟩, rfl⟩, ⟨⟨dX10_breedGame_8, rfl⟩, rfl⟩, ⟨⟨dX10_breedGame_9, rfl⟩, Or.inl ⟨by decide, _, _, fX10_21⟩⟩, ⟨⟨dX10_breedGame_12, rfl⟩, rfl⟩, ⟨⟨dX10_breedGame_14, rfl⟩, rfl⟩, ⟨⟨dX10_breedGame_15, rfl⟩, Or.inr ⟨by decide, ⟨_, my_23, sX10_79⟩, fun q => absurd q (by decide)⟩⟩, ⟨⟨dX10_breedGame_18, rfl⟩, rfl⟩, ⟨⟨dX10_breedGame_19, rfl⟩, rfl⟩, ⟨⟨dX10_breedGame_20, rfl⟩, Or.inl ⟨by decide, _, _, fX10_9⟩⟩, ⟨⟨dX10_breedGame_23, rfl⟩, rfl⟩, ⟨⟨dX10_breedGame_24, rfl⟩, Or.inr ⟨by decide, ⟨_, my_160, sX10_73⟩, fun q => absurd q (by decide)⟩⟩, ⟨⟨dX10_breedGame_27, rfl⟩, rfl⟩, ⟨⟨dX10_breedGame_28, rfl⟩, rfl⟩, ⟨⟨dX10_breedGame_31, rfl⟩, rfl⟩, ⟨⟨dX10_breedGame_32, rfl⟩, Or.inl ⟨by decide, _, _, fX10_21⟩⟩, ⟨⟨dX10_breedGame_35, rfl⟩, rfl⟩, ⟨⟨dX10_breedGame_37, rfl⟩, rfl⟩, ⟨⟨dX10_breedGame_38, rfl⟩, rfl⟩, ⟨⟨dX10_breedGame_40, rfl⟩, rfl⟩, ⟨⟨dX10_breedGame_41, rfl⟩, rfl⟩, trivial⟩,
  ⟨⟨⟨dX10_breedGame_42, rfl⟩, rfl⟩, ⟨⟨dX10_breedGame_43, rfl⟩, trivial⟩, ⟨⟨dX10_breedGame_44, rfl⟩, rfl⟩, ⟨⟨dX10_breedGame_45, rfl⟩, trivial⟩, ⟨⟨dX10_breedGame_46, rfl⟩, trivial⟩, ⟨⟨dX10_breedGame_47, rfl⟩, Or.inr (Or.inr (Or.inr (Or.inr (Or.inr (Or.inl ⟨rfl, sX10_210⟩)))))⟩, ⟨⟨dX10_breedGame_50, rfl⟩, Or.inr ⟨by decide, ⟨_, my_25, sX10_93⟩, fun q => absurd q (by decide)⟩⟩, ⟨⟨dX10_breedGame_53, rfl⟩, rfl⟩, ⟨⟨dX10_breedGame_56, rfl⟩, rfl⟩, ⟨⟨dX10_breedGame_57, rfl⟩, rfl⟩, ⟨⟨dX10_breedGame_58, rfl⟩, Or.inr ⟨by decide, ⟨_, my_208, sX10_212⟩, fun q => absurd q (by decide)⟩⟩, ⟨⟨dX10_breedGame_61, rfl⟩, rfl⟩, ⟨⟨dX10_breedGame_64, rfl⟩, rfl⟩, ⟨⟨dX10_breedGame_65, rfl⟩, Or.inl ⟨by decide, _, _, fX10_21⟩⟩, ⟨⟨dX10_breedGame_68, rfl⟩, rfl⟩, ⟨⟨dX10_breedGame_69, rfl⟩, Or.inr ⟨by decide, ⟨_, my_24, sX10_215⟩, fun q => absurd q (by decide)⟩⟩, ⟨⟨dX10_breedGame_72, rfl⟩, rfl⟩, ⟨⟨dX10_breedGame_75, rfl⟩, rfl⟩, ⟨⟨dX10_breedGame_76, rfl⟩, Or.inl ⟨by decide, _, _, fX10_21⟩⟩, ⟨⟨dX10_breedGame_79, rfl⟩, rfl⟩, ⟨⟨dX10_breedGame_81, rfl⟩, rfl⟩, ⟨⟨dX10_breedGame_82, rfl⟩, rfl⟩, ⟨⟨dX10_breedGame_84, rfl⟩, rfl⟩, ⟨⟨dX10_breedGame_85, rfl⟩, rfl⟩, trivial⟩,
  ⟨⟨⟨dX10_breedGame_86, rfl⟩, trivial⟩, ⟨⟨dX10_breedGame_87, rfl⟩, Or.inr (Or.inr (Or.inr (Or.inr (Or.inr (Or.inl ⟨rfl, sX10_210⟩)))))⟩, ⟨⟨dX10_breedGame_90, rfl⟩, Or.inr ⟨by decide, ⟨_, my_25, sX10_93⟩, fun q => absurd q (by decide)⟩⟩, ⟨⟨dX10_breedGame_93, rfl⟩, ⟨rfl, rfl⟩⟩, ⟨⟨dX10_breedGame_96, rfl⟩, rfl⟩, ⟨⟨dX10_breedGame_99, rfl⟩, rfl⟩, trivial⟩, trivial⟩, by decide, Or.inl ⟨rfl, by decide, rfl⟩⟩
set_option maxRecDepth 100000 in
theorem g_X10_breedGame_0 (S : sT) (call : cT) (n : Nat) (a0 : Nat) (h : pH) : bd S call dflT E_X10_breedGame (n + 1) 0 [some (.ref a0), none, none] [] h = (bd S call dflT E_X10_breedGame n 2 [some (.ref a0), some (.int 0), none] [] h) := rfl
set_option maxRecDepth 100000 in
theorem g_X10_breedGame_2 (S : sT) (call : cT) (n : Nat) (a0 : Nat) (x1 : Int32) (o2 : Option Value) (h : pH) : bd S call dflT E_X10_breedGame (n + 1) 2 [some (.ref a0), some (.int x1), o2] [] h = ((if 48 ≤ x1 then some (.inl none, h) else gV h (.ref a0) 13 1 (fun w1 => rC h w1 5 (cI (call 23 [w1, .int 6, .int x1] h) (fun y3 h2 => gV h2 (.ref a0) 13 0 (fun w4 => rC h2 w4 3 (cI (call 160 [w4, .int x1] h2) (fun y6 h5 => (if y6 = 3 then gV h5 (.ref a0) 13 1 (fun w14 => dv 2 (rC h5 w14 5 (cU (call 25 [w14, .int 6, .int x1, .int (if (y3 + ((y3 + 1) / 2)) < (99 : Int32) then (y3 + ((y3 + 1) / 2)) else (99 : Int32))] h5) (fun h15 => bd S call dflT E_X10_breedGame n 2 [some (.ref a0), some (.int (x1 + 1)), some (.int y3)] [] h15)))) else rC h5 (.ref a0) 13 (cI (call 208 [.ref a0, .int x1] h5) (fun y8 h7 => (if y8 = 0 then bd S call dflT E_X10_breedGame n 2 [some (.ref a0), some (.int (x1 + 1)), some (.int y3)] [] h7 else gV h7 (.ref a0) 13 1 (fun w9 => rC h7 w9 5 (cI (call 24 [w9, .int x1] h7) (fun y11 h10 => (if y11 = 0 then gV h10 (.ref a0) 13 1 (fun w12 => rC h10 w12 5 (cU (call 25 [w12, .int 6, .int x1, .int (if (y3 + 1) < (99 : Int32) then (y3 + 1) else (99 : Int32))] h10) (fun h13 => bd S call dflT E_X10_breedGame n 2 [some (.ref a0), some (.int (x1 + 1)), some (.int y3)] [] h13))) else bd S call dflT E_X10_breedGame n 2 [some (.ref a0), some (.int (x1 + 1)), some (.int y3)] [] h10)))))))))))))))) := rfl
theorem dX10_growOlder_0 : decode cX10_growOlder 0 = .ok (.iconst 0, 1) := by decide +kernel
theorem dX10_growOlder_1 : decode cX10_growOlder 1 = .ok (.istore_n 1, 1) := by decide +kernel
theorem dX10_growOlder_2 : decode cX10_growOlder 2 = .ok (.iload_n 1, 1) := by decide +kernel
theorem dX10_growOlder_3 : decode cX10_growOlder 3 = .ok (.bipush 48, 2) := by decide +kernel
theorem dX10_growOlder_5 : decode cX10_growOlder 5 = .ok (.if_icmp .ge 108, 3) := by decide +kernel
theorem dX10_growOlder_8 : decode cX10_growOlder 8 = .ok (.aload_n 0, 1) := by decide +kernel
theorem dX10_growOlder_9 : decode cX10_growOlder 9 = .ok (.getfield 21, 3) := by decide +kernel
theorem dX10_growOlder_12 : decode cX10_growOlder 12 = .ok (.iload_n 1, 1) := by decide +kernel
theorem dX10_growOlder_13 : decode cX10_growOlder 13 = .ok (.invokevirtual 215, 3) := by decide +kernel
theorem dX10_growOlder_16 : decode cX10_growOlder 16 = .ok (.ifCond .ne 91, 3) := by decide +kernel
theorem dX10_growOlder_19 : decode cX10_growOlder 19 = .ok (.aload_n 0, 1) := by decide +kernel
theorem dX10_growOlder_20 : decode cX10_growOlder 20 = .ok (.getfield 9, 3) := by decide +kernel
theorem dX10_growOlder_23 : decode cX10_growOlder 23 = .ok (.iload_n 1, 1) := by decide +kernel
theorem dX10_growOlder_24 : decode cX10_growOlder 24 = .ok (.invokevirtual 73, 3) := by decide +kernel
theorem dX10_growOlder_27 : decode cX10_growOlder 27 = .ok (.iconst 3, 1) := by decide +kernel
theorem dX10_growOlder_28 : decode cX10_growOlder 28 = .ok (.if_icmp .ne 7, 3) := by decide +kernel
theorem dX10_growOlder_31 : decode cX10_growOlder 31 = .ok (.iconst 1, 1) := by decide +kernel
theorem dX10_growOlder_32 : decode cX10_growOlder 32 = .ok (.goto 4, 3) := by decide +kernel
theorem dX10_growOlder_35 : decode cX10_growOlder 35 = .ok (.iconst 0, 1) := by decide +kernel
theorem dX10_growOlder_36 : decode cX10_growOlder 36 = .ok (.istore_n 2, 1) := by decide +kernel
theorem dX10_growOlder_37 : decode cX10_growOlder 37 = .ok (.aload_n 0, 1) := by decide +kernel
theorem dX10_growOlder_38 : decode cX10_growOlder 38 = .ok (.getfield 21, 3) := by decide +kernel
theorem dX10_growOlder_41 : decode cX10_growOlder 41 = .ok (.bipush 7, 2) := by decide +kernel
theorem dX10_growOlder_43 : decode cX10_growOlder 43 = .ok (.iload_n 1, 1) := by decide +kernel
theorem dX10_growOlder_44 : decode cX10_growOlder 44 = .ok (.aload_n 0, 1) := by decide +kernel
theorem dX10_growOlder_45 : decode cX10_growOlder 45 = .ok (.getfield 21, 3) := by decide +kernel
theorem dX10_growOlder_48 : decode cX10_growOlder 48 = .ok (.bipush 7, 2) := by decide +kernel
theorem dX10_growOlder_50 : decode cX10_growOlder 50 = .ok (.iload_n 1, 1) := by decide +kernel
theorem dX10_growOlder_51 : decode cX10_growOlder 51 = .ok (.invokevirtual 79, 3) := by decide +kernel
theorem dX10_growOlder_54 : decode cX10_growOlder 54 = .ok (.iload_n 2, 1) := by decide +kernel
theorem dX10_growOlder_55 : decode cX10_growOlder 55 = .ok (.iadd, 1) := by decide +kernel
theorem dX10_growOlder_56 : decode cX10_growOlder 56 = .ok (.invokevirtual 93, 3) := by decide +kernel
theorem dX10_growOlder_59 : decode cX10_growOlder 59 = .ok (.aload_n 0, 1) := by decide +kernel
theorem dX10_growOlder_60 : decode cX10_growOlder 60 = .ok (.getfield 21, 3) := by decide +kernel
theorem dX10_growOlder_63 : decode cX10_growOlder 63 = .ok (.iconst 4, 1) := by decide +kernel
theorem dX10_growOlder_64 : decode cX10_growOlder 64 = .ok (.iload_n 1, 1) := by decide +kernel
theorem dX10_growOlder_65 : decode cX10_growOlder 65 = .ok (.iconst 0, 1) := by decide +kernel
theorem dX10_growOlder_66 : decode cX10_growOlder 66 = .ok (.aload_n 0, 1) := by decide +kernel
theorem dX10_growOlder_67 : decode cX10_growOlder 67 = .ok (.getfield 21, 3) := by decide +kernel
theorem dX10_growOlder_70 : decode cX10_growOlder 70 = .ok (.iconst 4, 1) := by decide +kernel
theorem dX10_growOlder_71 : decode cX10_growOlder 71 = .ok (.iload_n 1, 1) := by decide +kernel
theorem dX10_growOlder_72 : decode cX10_growOlder 72 = .ok (.invokevirtual 79, 3) := by decide +kernel
theorem dX10_growOlder_75 : decode cX10_growOlder 75 = .ok (.iconst 1, 1) := by decide +kernel
theorem dX10_growOlder_76 : decode cX10_growOlder 76 = .ok (.isub, 1) := by decide +kernel
theorem dX10_growOlder_77 : decode cX10_growOlder 77 = .ok (.invokestatic 177, 3) := by decide +kernel
theorem dX10_growOlder_80 : decode cX10_growOlder 80 = .ok (.invokevirtual 93, 3) := by decide +kernel
theorem dX10_growOlder_83 : decode cX10_growOlder 83 = .ok (.aload_n 0, 1) := by decide +kernel
theorem dX10_growOlder_84 : decode cX10_growOlder 84 = .ok (.getfield 21, 3) := by decide +kernel
theorem dX10_growOlder_87 : decode cX10_growOlder 87 = .ok (.iconst 5, 1) := by decide +kernel
theorem dX10_growOlder_88 : decode cX10_growOlder 88 = .ok (.iload_n 1, 1) := by decide +kernel
theorem dX10_growOlder_89 : decode cX10_growOlder 89 = .ok (.iconst 0, 1) := by decide +kernel
theorem dX10_growOlder_90 : decode cX10_growOlder 90 = .ok (.aload_n 0, 1) := by decide +kernel
theorem dX10_growOlder_91 : decode cX10_growOlder 91 = .ok (.getfield 21, 3) := by decide +kernel
theorem dX10_growOlder_94 : decode cX10_growOlder 94 = .ok (.iconst 5, 1) := by decide +kernel
theorem dX10_growOlder_95 : decode cX10_growOlder 95 = .ok (.iload_n 1, 1) := by decide +kernel
theorem dX10_growOlder_96 : decode cX10_growOlder 96 = .ok (.invokevirtual 79, 3) := by decide +kernel
theorem dX10_growOlder_99 : decode cX10_growOlder 99 = .ok (.iconst 1, 1) := by decide +kernel
theorem dX10_growOlder_100 : decode cX10_growOlder 100 = .ok (.isub, 1) := by decide +kernel
theorem dX10_growOlder_101 : decode cX10_growOlder 101 = .ok (.invokestatic 177, 3) := by decide +kernel
theorem dX10_growOlder_104 : decode cX10_growOlder 104 = .ok (.invokevirtual 93, 3) := by decide +kernel
theorem dX10_growOlder_107 : decode cX10_growOlder 107 = .ok (.iinc 1 1, 3) := by decide +kernel
theorem dX10_growOlder_110 : decode cX10_growOlder 110 = .ok (.goto (-108), 3) := by decide +kernel
theorem dX10_growOlder_113 : decode cX10_growOlder 113 = .ok (.return_, 1) := by decide +kernel
noncomputable def E_X10_growOlder : mE := (mX10_growOlder, [(43, [(0, (.iconst 0, 1, false, false, 0, 0, 0, 0, 0, 0, [])), (1, (.istore_n 1, 2, true, false, 1, 0, 0, 0, 0, 0, [])), (2, (.iload_n 1, 3, false, false, 1, 0, 0, 0, 0, 0, [])), (3, (.bipush 48, 5, false, false, 0, 0, 0, 0, 48, 0, [])), (5, (.if_icmp .ge 108, 8, false, false, 113, 0, 0, 0, 0, 0, [])), (8, (.aload_n 0, 9, false, false, 0, 0, 0, 0, 0, 0, [])), (9, (.getfield 21, 12, false, false, 13, 1, 1, 0, 0, 0, [])), (12, (.iload_n 1, 13, false, false, 1, 0, 0, 0, 0, 0, [])), (13, (.invokevirtual 215, 16, false, false, 24, 1, 1, 5, 0, 0, [])), (16, (.ifCond .ne 91, 19, false, false, 107, 0, 0, 0, 0, 0, [])), (19, (.aload_n 0, 20, false, false, 0, 0, 0, 0, 0, 0, [])), (20, (.getfield 9, 23, false, false, 13, 0, 1, 0, 0, 0, [])), (23, (.iload_n 1, 24, false, false, 1, 0, 0, 0, 0, 0, [])), (24, (.invokevirtual 73, 27, false, false, 160, 1, 1, 3, 0, 0, [])), (27, (.iconst 3, 28, false, false, 0, 0, 0, 0, 3, 0, [])), (28, (.if_icmp .ne 7, 31, false, false, 35, 0, 0, 0, 0, 0, [])), (31, (.iconst 1, 32, false, false, 0, 0, 0, 0, 1, 0, [])), (32, (.goto 4, 35, false, true, 36, 0, 0, 0, 0, 0, [])), (35, (.iconst 0, 36, true, false, 0, 0, 0, 0, 0, 0, [])), (36, (.istore_n 2, 37, false, false, 2, 0, 0, 0, 0, 0, [])), (37, (.aload_n 0, 38, false, false, 0, 0, 0, 0, 0, 0, [])), (38, (.getfield 21, 41, false, false, 13, 1, 1, 0, 0, 0, [])), (41, (.bipush 7, 43, false, false, 0, 0, 0, 0, 7, 0, [])), (43, (.iload_n 1, 44, false, false, 1, 0, 0, 0, 0, 0, []))]),
  (84, [(44, (.aload_n 0, 45, false, false, 0, 0, 0, 0, 0, 0, [])), (45, (.getfield 21, 48, false, false, 13, 1, 1, 0, 0, 0, [])), (48, (.bipush 7, 50, false, false, 0, 0, 0, 0, 7, 0, [])), (50, (.iload_n 1, 51, false, false, 1, 0, 0, 0, 0, 0, [])), (51, (.invokevirtual 79, 54, false, false, 23, 2, 1, 5, 0, 0, [])), (54, (.iload_n 2, 55, false, false, 2, 0, 0, 0, 0, 0, [])), (55, (.iadd, 56, false, false, 0, 0, 0, 0, 0, 0, [])), (56, (.invokevirtual 93, 59, false, false, 25, 3, 0, 5, 0, 0, [])), (59, (.aload_n 0, 60, false, false, 0, 0, 0, 0, 0, 0, [])), (60, (.getfield 21, 63, false, false, 13, 1, 1, 0, 0, 0, [])), (63, (.iconst 4, 64, false, false, 0, 0, 0, 0, 4, 0, [])), (64, (.iload_n 1, 65, false, false, 1, 0, 0, 0, 0, 0, [])), (65, (.iconst 0, 66, false, false, 0, 0, 0, 0, 0, 0, [])), (66, (.aload_n 0, 67, false, false, 0, 0, 0, 0, 0, 0, [])), (67, (.getfield 21, 70, false, false, 13, 1, 1, 0, 0, 0, [])), (70, (.iconst 4, 71, false, false, 0, 0, 0, 0, 4, 0, [])), (71, (.iload_n 1, 72, false, false, 1, 0, 0, 0, 0, 0, [])), (72, (.invokevirtual 79, 75, false, false, 23, 2, 1, 5, 0, 0, [])), (75, (.iconst 1, 76, false, false, 0, 0, 0, 0, 1, 0, [])), (76, (.isub, 77, false, false, 0, 0, 0, 0, 0, 0, [])), (77, (.invokestatic 177, 80, false, false, 0, 2, 1, 5, 0, 0, [])), (80, (.invokevirtual 93, 83, false, false, 25, 3, 0, 5, 0, 0, [])), (83, (.aload_n 0, 84, false, false, 0, 0, 0, 0, 0, 0, [])), (84, (.getfield 21, 87, false, false, 13, 1, 1, 0, 0, 0, []))]),
  (113, [(87, (.iconst 5, 88, false, false, 0, 0, 0, 0, 5, 0, [])), (88, (.iload_n 1, 89, false, false, 1, 0, 0, 0, 0, 0, [])), (89, (.iconst 0, 90, false, false, 0, 0, 0, 0, 0, 0, [])), (90, (.aload_n 0, 91, false, false, 0, 0, 0, 0, 0, 0, [])), (91, (.getfield 21, 94, false, false, 13, 1, 1, 0, 0, 0, [])), (94, (.iconst 5, 95, false, false, 0, 0, 0, 0, 5, 0, [])), (95, (.iload_n 1, 96, false, false, 1, 0, 0, 0, 0, 0, [])), (96, (.invokevirtual 79, 99, false, false, 23, 2, 1, 5, 0, 0, [])), (99, (.iconst 1, 100, false, false, 0, 0, 0, 0, 1, 0, [])), (100, (.isub, 101, false, false, 0, 0, 0, 0, 0, 0, [])), (101, (.invokestatic 177, 104, false, false, 0, 2, 1, 5, 0, 0, [])), (104, (.invokevirtual 93, 107, false, false, 25, 3, 0, 5, 0, 0, [])), (107, (.iinc 1 1, 110, false, false, 1, 0, 0, 0, 1, 0, [])), (110, (.goto (-108), 113, false, true, 2, 0, 0, 0, 0, 0, [])), (113, (.return_, 114, false, false, 0, 0, 0, 0, 0, 0, []))])], 0, [])
set_option maxRecDepth 100000 in
theorem v_X10_growOlder : VE MYT dflT E_X10_growOlder := ⟨⟨⟨⟨⟨dX10_growOlder_0, rfl⟩, rfl⟩, ⟨⟨dX10_growOlder_1, rfl⟩, rfl⟩, ⟨⟨dX10_growOlder_2, rfl⟩, rfl⟩, ⟨⟨dX10_growOlder_3, rfl⟩, rfl⟩, ⟨⟨dX10_growOlder_5, rfl⟩, rfl⟩, ⟨⟨dX10_growOlder_8, rfl⟩, rfl⟩, ⟨⟨dX10_growOlder_9, rfl⟩, Or.inl ⟨by decide, _, _, fX10_21⟩⟩, ⟨⟨dX10_growOlder_12, rfl⟩, rfl⟩, ⟨⟨dX10_growOlder_13, rfl⟩, Or.inr ⟨by decide, ⟨_, my_24, sX10_215⟩, fun q => absurd q (by decide)⟩⟩, ⟨⟨dX10_growOlder_16, rfl⟩, rfl⟩, ⟨⟨dX10_growOlder_19, rfl⟩, rfl⟩, ⟨⟨dX10_growOlder_20, rfl⟩, Or.inl ⟨by decide, _, _, fX10_9⟩⟩, ⟨⟨dX10_growOlder_23, rfl⟩, rfl⟩, ⟨⟨dX10_growOlder_24, rfl⟩, Or.inr ⟨by decide, ⟨_, my_160, sX10_73⟩, fun q => absurd q (by decide)⟩⟩, ⟨⟨dX10_growOlder_27, rfl⟩, rfl⟩, ⟨⟨dX10_growOlder_28, rfl⟩, rfl⟩, ⟨⟨dX10_growOlder_31, rfl⟩, rfl⟩, ⟨⟨dX10_growOlder_32, rfl⟩, rfl⟩, ⟨⟨dX10_growOlder_35, rfl⟩, rfl⟩, ⟨⟨dX10_growOlder_36, rfl⟩, rfl⟩, ⟨⟨dX10_growOlder_37, rfl⟩, rfl⟩, ⟨⟨dX10_growOlder_38, rfl⟩, Or.inl ⟨by decide, _, _, fX10_21⟩⟩, ⟨⟨dX10_growOlder_41, rfl⟩, rfl⟩, ⟨⟨dX10_growOlder_43, rfl⟩, rfl⟩, trivial⟩,
  ⟨⟨⟨dX10_growOlder_44, rfl⟩, rfl⟩, ⟨⟨dX10_growOlder_45, rfl⟩, Or.inl ⟨by decide, _, _, fX10_21⟩⟩, ⟨⟨dX10_growOlder_48, rfl⟩, rfl⟩, ⟨⟨dX10_growOlder_50, rfl⟩, rfl⟩, ⟨⟨dX10_growOlder_51, rfl⟩, Or.inr ⟨by decide, ⟨_, my_23, sX10_79⟩, fun q => absurd q (by decide)⟩⟩, ⟨⟨dX10_growOlder_54, rfl⟩, rfl⟩, ⟨⟨dX10_growOlder_55, rfl⟩, trivial⟩, ⟨⟨dX10_growOlder_56, rfl⟩, Or.inr ⟨by decide, ⟨_, my_25, sX10_93⟩, fun q => absurd q (by decide)⟩⟩, ⟨⟨dX10_growOlder_59, rfl⟩, rfl⟩, ⟨⟨dX10_growOlder_60, rfl⟩, Or.inl ⟨by decide, _, _, fX10_21⟩⟩, ⟨⟨dX10_growOlder_63, rfl⟩, rfl⟩, ⟨⟨dX10_growOlder_64, rfl⟩, rfl⟩, ⟨⟨dX10_growOlder_65, rfl⟩, rfl⟩, ⟨⟨dX10_growOlder_66, rfl⟩, rfl⟩, ⟨⟨dX10_growOlder_67, rfl⟩, Or.inl ⟨by decide, _, _, fX10_21⟩⟩, ⟨⟨dX10_growOlder_70, rfl⟩, rfl⟩, ⟨⟨dX10_growOlder_71, rfl⟩, rfl⟩, ⟨⟨dX10_growOlder_72, rfl⟩, Or.inr ⟨by decide, ⟨_, my_23, sX10_79⟩, fun q => absurd q (by decide)⟩⟩, ⟨⟨dX10_growOlder_75, rfl⟩, rfl⟩, ⟨⟨dX10_growOlder_76, rfl⟩, trivial⟩, ⟨⟨dX10_growOlder_77, rfl⟩, Or.inr (Or.inr (Or.inr (Or.inr (Or.inl ⟨rfl, sX10_177⟩))))⟩, ⟨⟨dX10_growOlder_80, rfl⟩, Or.inr ⟨by decide, ⟨_, my_25, sX10_93⟩, fun q => absurd q (by decide)⟩⟩, ⟨⟨dX10_growOlder_83, rfl⟩, rfl⟩, ⟨⟨dX10_growOlder_84, rfl⟩, Or.inl ⟨by decide, _, _, fX10_21⟩⟩, trivial⟩,
  ⟨⟨⟨dX10_growOlder_87, rfl⟩, rfl⟩, ⟨⟨dX10_growOlder_88, rfl⟩, rfl⟩, ⟨⟨dX10_growOlder_89, rfl⟩, rfl⟩, ⟨⟨dX10_growOlder_90, rfl⟩, rfl⟩, ⟨⟨dX10_growOlder_91, rfl⟩, Or.inl ⟨by decide, _, _, fX10_21⟩⟩, ⟨⟨dX10_growOlder_94, rfl⟩, rfl⟩, ⟨⟨dX10_growOlder_95, rfl⟩, rfl⟩, ⟨⟨dX10_growOlder_96, rfl⟩, Or.inr ⟨by decide, ⟨_, my_23, sX10_79⟩, fun q => absurd q (by decide)⟩⟩, ⟨⟨dX10_growOlder_99, rfl⟩, rfl⟩, ⟨⟨dX10_growOlder_100, rfl⟩, trivial⟩, ⟨⟨dX10_growOlder_101, rfl⟩, Or.inr (Or.inr (Or.inr (Or.inr (Or.inl ⟨rfl, sX10_177⟩))))⟩, ⟨⟨dX10_growOlder_104, rfl⟩, Or.inr ⟨by decide, ⟨_, my_25, sX10_93⟩, fun q => absurd q (by decide)⟩⟩, ⟨⟨dX10_growOlder_107, rfl⟩, ⟨rfl, rfl⟩⟩, ⟨⟨dX10_growOlder_110, rfl⟩, rfl⟩, ⟨⟨dX10_growOlder_113, rfl⟩, rfl⟩, trivial⟩, trivial⟩, by decide, Or.inl ⟨rfl, by decide, rfl⟩⟩
set_option maxRecDepth 100000 in
theorem g_X10_growOlder_0 (S : sT) (call : cT) (n : Nat) (a0 : Nat) (h : pH) : bd S call dflT E_X10_growOlder (n + 1) 0 [some (.ref a0), none, none] [] h = (bd S call dflT E_X10_growOlder n 2 [some (.ref a0), some (.int 0), none] [] h) := rfl
set_option maxRecDepth 100000 in
theorem g_X10_growOlder_2 (S : sT) (call : cT) (n : Nat) (a0 : Nat) (x1 : Int32) (o2 : Option Value) (h : pH) : bd S call dflT E_X10_growOlder (n + 1) 2 [some (.ref a0), some (.int x1), o2] [] h = ((if 48 ≤ x1 then some (.inl none, h) else gV h (.ref a0) 13 1 (fun w1 => rC h w1 5 (cI (call 24 [w1, .int x1] h) (fun y3 h2 => (if y3 = 0 then gV h2 (.ref a0) 13 0 (fun w4 => rC h2 w4 3 (cI (call 160 [w4, .int x1] h2) (fun y6 h5 => (if y6 = 3 then bd S call dflT E_X10_growOlder n 36 [some (.ref a0), some (.int x1), o2] [.int 1] h5 else bd S call dflT E_X10_growOlder n 36 [some (.ref a0), some (.int x1), o2] [.int 0] h5)))) else bd S call dflT E_X10_growOlder n 2 [some (.ref a0), some (.int (x1 + 1)), o2] [] h2)))))) := rfl
set_option maxRecDepth 100000 in
theorem g_X10_growOlder_36 (S : sT) (call : cT) (n : Nat) (a0 : Nat) (x1 : Int32) (o2 : Option Value) (y0 : Int32) (h : pH) : bd S call dflT E_X10_growOlder (n + 1) 36 [some (.ref a0), some (.int x1), o2] [.int y0] h = (gV h (.ref a0) 13 1 (fun w1 => gV h (.ref a0) 13 1 (fun w2 => rC h w2 5 (cI (call 23 [w2, .int 7, .int x1] h) (fun y4 h3 => rC h3 w1 5 (cU (call 25 [w1, .int 7, .int x1, .int (y4 + y0)] h3) (fun h5 => gV h5 (.ref a0) 13 1 (fun w6 => gV h5 (.ref a0) 13 1 (fun w7 => rC h5 w7 5 (cI (call 23 [w7, .int 4, .int x1] h5) (fun y9 h8 => rC h8 w6 5 (cU (call 25 [w6, .int 4, .int x1, .int (if (0 : Int32) < (y9 - 1) then (y9 - 1) else (0 : Int32))] h8) (fun h10 => gV h10 (.ref a0) 13 1 (fun w11 => gV h10 (.ref a0) 13 1 (fun w12 => rC h10 w12 5 (cI (call 23 [w12, .int 5, .int x1] h10) (fun y14 h13 => rC h13 w11 5 (cU (call 25 [w11, .int 5, .int x1, .int (if (0 : Int32) < (y14 - 1) then (y14 - 1) else (0 : Int32))] h13) (fun h15 => bd S call dflT E_X10_growOlder n 2 [some (.ref a0), some (.int (x1 + 1)), some (.int y0)] [] h15))))))))))))))))))) := rfl
theorem dX10_sink_0 : decode cX10_sink 0 = .ok (.iconst 0, 1) := by decide +kernel
theorem dX10_sink_1 : decode cX10_sink 1 = .ok (.istore_n 3, 1) := by decide +kernel
theorem dX10_sink_2 : decode cX10_sink 2 = .ok (.iconst 0, 1) := by decide +kernel
theorem dX10_sink_3 : decode cX10_sink 3 = .ok (.istore 4, 2) := by decide +kernel
theorem dX10_sink_5 : decode cX10_sink 5 = .ok (.iload 4, 2) := by decide +kernel
theorem dX10_sink_7 : decode cX10_sink 7 = .ok (.bipush 48, 2) := by decide +kernel
theorem dX10_sink_9 : decode cX10_sink 9 = .ok (.if_icmp .ge 61, 3) := by decide +kernel
theorem dX10_sink_12 : decode cX10_sink 12 = .ok (.aload_n 0, 1) := by decide +kernel
theorem dX10_sink_13 : decode cX10_sink 13 = .ok (.getfield 21, 3) := by decide +kernel
theorem dX10_sink_16 : decode cX10_sink 16 = .ok (.bipush 10, 2) := by decide +kernel
theorem dX10_sink_18 : decode cX10_sink 18 = .ok (.iload 4, 2) := by decide +kernel
theorem dX10_sink_20 : decode cX10_sink 20 = .ok (.invokevirtual 79, 3) := by decide +kernel
theorem dX10_sink_23 : decode cX10_sink 23 = .ok (.iload_n 1, 1) := by decide +kernel
theorem dX10_sink_24 : decode cX10_sink 24 = .ok (.if_icmp .ne 40, 3) := by decide +kernel
theorem dX10_sink_27 : decode cX10_sink 27 = .ok (.iload_n 3, 1) := by decide +kernel
theorem dX10_sink_28 : decode cX10_sink 28 = .ok (.iload_n 2, 1) := by decide +kernel
theorem dX10_sink_29 : decode cX10_sink 29 = .ok (.if_icmp .ne 32, 3) := by decide +kernel
theorem dX10_sink_32 : decode cX10_sink 32 = .ok (.aload_n 0, 1) := by decide +kernel
theorem dX10_sink_33 : decode cX10_sink 33 = .ok (.getfield 21, 3) := by decide +kernel
theorem dX10_sink_36 : decode cX10_sink 36 = .ok (.bipush 8, 2) := by decide +kernel
theorem dX10_sink_38 : decode cX10_sink 38 = .ok (.iload 4, 2) := by decide +kernel
theorem dX10_sink_40 : decode cX10_sink 40 = .ok (.bipush 9, 2) := by decide +kernel
theorem dX10_sink_42 : decode cX10_sink 42 = .ok (.aload_n 0, 1) := by decide +kernel
theorem dX10_sink_43 : decode cX10_sink 43 = .ok (.getfield 21, 3) := by decide +kernel
theorem dX10_sink_46 : decode cX10_sink 46 = .ok (.bipush 8, 2) := by decide +kernel
theorem dX10_sink_48 : decode cX10_sink 48 = .ok (.iload 4, 2) := by decide +kernel
theorem dX10_sink_50 : decode cX10_sink 50 = .ok (.invokevirtual 79, 3) := by decide +kernel
theorem dX10_sink_53 : decode cX10_sink 53 = .ok (.iconst 1, 1) := by decide +kernel
theorem dX10_sink_54 : decode cX10_sink 54 = .ok (.iadd, 1) := by decide +kernel
theorem dX10_sink_55 : decode cX10_sink 55 = .ok (.invokestatic 210, 3) := by decide +kernel
theorem dX10_sink_58 : decode cX10_sink 58 = .ok (.invokevirtual 93, 3) := by decide +kernel
theorem dX10_sink_61 : decode cX10_sink 61 = .ok (.iinc 3 1, 3) := by decide +kernel
theorem dX10_sink_64 : decode cX10_sink 64 = .ok (.iinc 4 1, 3) := by decide +kernel
theorem dX10_sink_67 : decode cX10_sink 67 = .ok (.goto (-62), 3) := by decide +kernel
theorem dX10_sink_70 : decode cX10_sink 70 = .ok (.return_, 1) := by decide +kernel
noncomputable def E_X10_sink : mE := (mX10_sink, [(43, [(0, (.iconst 0, 1, false, false, 0, 0, 0, 0, 0, 0, [])), (1, (.istore_n 3, 2, false, false, 3, 0, 0, 0, 0, 0, [])), (2, (.iconst 0, 3, false, false, 0, 0, 0, 0, 0, 0, [])), (3, (.istore 4, 5, true, false, 4, 0, 0, 0, 0, 0, [])), (5, (.iload 4, 7, false, false, 4, 0, 0, 0, 0, 0, [])), (7, (.bipush 48, 9, false, false, 0, 0, 0, 0, 48, 0, [])), (9, (.if_icmp .ge 61, 12, false, false, 70, 0, 0, 0, 0, 0, [])), (12, (.aload_n 0, 13, false, false, 0, 0, 0, 0, 0, 0, [])), (13, (.getfield 21, 16, false, false, 13, 1, 1, 0, 0, 0, [])), (16, (.bipush 10, 18, false, false, 0, 0, 0, 0, 10, 0, [])), (18, (.iload 4, 20, false, false, 4, 0, 0, 0, 0, 0, [])), (20, (.invokevirtual 79, 23, false, false, 23, 2, 1, 5, 0, 0, [])), (23, (.iload_n 1, 24, false, false, 1, 0, 0, 0, 0, 0, [])), (24, (.if_icmp .ne 40, 27, false, false, 64, 0, 0, 0, 0, 0, [])), (27, (.iload_n 3, 28, false, false, 3, 0, 0, 0, 0, 0, [])), (28, (.iload_n 2, 29, false, false, 2, 0, 0, 0, 0, 0, [])), (29, (.if_icmp .ne 32, 32, false, false, 61, 0, 0, 0, 0, 0, [])), (32, (.aload_n 0, 33, false, false, 0, 0, 0, 0, 0, 0, [])), (33, (.getfield 21, 36, false, false, 13, 1, 1, 0, 0, 0, [])), (36, (.bipush 8, 38, false, false, 0, 0, 0, 0, 8, 0, [])), (38, (.iload 4, 40, false, false, 4, 0, 0, 0, 0, 0, [])), (40, (.bipush 9, 42, false, false, 0, 0, 0, 0, 9, 0, [])), (42, (.aload_n 0, 43, false, false, 0, 0, 0, 0, 0, 0, [])), (43, (.getfield 21, 46, false, false, 13, 1, 1, 0, 0, 0, []))]),
  (70, [(46, (.bipush 8, 48, false, false, 0, 0, 0, 0, 8, 0, [])), (48, (.iload 4, 50, false, false, 4, 0, 0, 0, 0, 0, [])), (50, (.invokevirtual 79, 53, false, false, 23, 2, 1, 5, 0, 0, [])), (53, (.iconst 1, 54, false, false, 0, 0, 0, 0, 1, 0, [])), (54, (.iadd, 55, false, false, 0, 0, 0, 0, 0, 0, [])), (55, (.invokestatic 210, 58, false, false, 0, 2, 1, 6, 0, 0, [])), (58, (.invokevirtual 93, 61, false, false, 25, 3, 0, 5, 0, 0, [])), (61, (.iinc 3 1, 64, false, false, 3, 0, 0, 0, 1, 0, [])), (64, (.iinc 4 1, 67, false, false, 4, 0, 0, 0, 1, 0, [])), (67, (.goto (-62), 70, false, true, 5, 0, 0, 0, 0, 0, [])), (70, (.return_, 71, false, false, 0, 0, 0, 0, 0, 0, []))])], 0, [])
set_option maxRecDepth 100000 in
theorem v_X10_sink : VE MYT dflT E_X10_sink := ⟨⟨⟨⟨⟨dX10_sink_0, rfl⟩, rfl⟩, ⟨⟨dX10_sink_1, rfl⟩, rfl⟩, ⟨⟨dX10_sink_2, rfl⟩, rfl⟩, ⟨⟨dX10_sink_3, rfl⟩, rfl⟩, ⟨⟨dX10_sink_5, rfl⟩, rfl⟩, ⟨⟨dX10_sink_7, rfl⟩, rfl⟩, ⟨⟨dX10_sink_9, rfl⟩, rfl⟩, ⟨⟨dX10_sink_12, rfl⟩, rfl⟩, ⟨⟨dX10_sink_13, rfl⟩, Or.inl ⟨by decide, _, _, fX10_21⟩⟩, ⟨⟨dX10_sink_16, rfl⟩, rfl⟩, ⟨⟨dX10_sink_18, rfl⟩, rfl⟩, ⟨⟨dX10_sink_20, rfl⟩, Or.inr ⟨by decide, ⟨_, my_23, sX10_79⟩, fun q => absurd q (by decide)⟩⟩, ⟨⟨dX10_sink_23, rfl⟩, rfl⟩, ⟨⟨dX10_sink_24, rfl⟩, rfl⟩, ⟨⟨dX10_sink_27, rfl⟩, rfl⟩, ⟨⟨dX10_sink_28, rfl⟩, rfl⟩, ⟨⟨dX10_sink_29, rfl⟩, rfl⟩, ⟨⟨dX10_sink_32, rfl⟩, rfl⟩, ⟨⟨dX10_sink_33, rfl⟩, Or.inl ⟨by decide, _, _, fX10_21⟩⟩, ⟨⟨dX10_sink_36, rfl⟩, rfl⟩, ⟨⟨dX10_sink_38, rfl⟩, rfl⟩, ⟨⟨dX10_sink_40, rfl⟩, rfl⟩, ⟨⟨dX10_sink_42, rfl⟩, rfl⟩, ⟨⟨dX10_sink_43, rfl⟩, Or.inl ⟨by decide, _, _, fX10_21⟩⟩, trivial⟩,
  ⟨⟨⟨dX10_sink_46, rfl⟩, rfl⟩, ⟨⟨dX10_sink_48, rfl⟩, rfl⟩, ⟨⟨dX10_sink_50, rfl⟩, Or.inr ⟨by decide, ⟨_, my_23, sX10_79⟩, fun q => absurd q (by decide)⟩⟩, ⟨⟨dX10_sink_53, rfl⟩, rfl⟩, ⟨⟨dX10_sink_54, rfl⟩, trivial⟩, ⟨⟨dX10_sink_55, rfl⟩, Or.inr (Or.inr (Or.inr (Or.inr (Or.inr (Or.inl ⟨rfl, sX10_210⟩)))))⟩, ⟨⟨dX10_sink_58, rfl⟩, Or.inr ⟨by decide, ⟨_, my_25, sX10_93⟩, fun q => absurd q (by decide)⟩⟩, ⟨⟨dX10_sink_61, rfl⟩, ⟨rfl, rfl⟩⟩, ⟨⟨dX10_sink_64, rfl⟩, ⟨rfl, rfl⟩⟩, ⟨⟨dX10_sink_67, rfl⟩, rfl⟩, ⟨⟨dX10_sink_70, rfl⟩, rfl⟩, trivial⟩, trivial⟩, by decide, Or.inl ⟨rfl, by decide, rfl⟩⟩
set_option maxRecDepth 100000 in
theorem g_X10_sink_0 (S : sT) (call : cT) (n : Nat) (a0 : Nat) (x1 : Int32) (x2 : Int32) (h : pH) : bd S call dflT E_X10_sink (n + 1) 0 [some (.ref a0), some (.int x1), some (.int x2), none, none] [] h = (bd S call dflT E_X10_sink n 5 [some (.ref a0), some (.int x1), some (.int x2), some (.int 0), some (.int 0)] [] h) := rfl
set_option maxRecDepth 100000 in
theorem g_X10_sink_5 (S : sT) (call : cT) (n : Nat) (a0 : Nat) (x1 : Int32) (x2 : Int32) (x3 : Int32) (x4 : Int32) (h : pH) : bd S call dflT E_X10_sink (n + 1) 5 [some (.ref a0), some (.int x1), some (.int x2), some (.int x3), some (.int x4)] [] h = ((if 48 ≤ x4 then some (.inl none, h) else gV h (.ref a0) 13 1 (fun w1 => rC h w1 5 (cI (call 23 [w1, .int 10, .int x4] h) (fun y3 h2 => (if y3 = x1 then (if x3 = x2 then gV h2 (.ref a0) 13 1 (fun w4 => gV h2 (.ref a0) 13 1 (fun w5 => rC h2 w5 5 (cI (call 23 [w5, .int 8, .int x4] h2) (fun y7 h6 => rC h6 w4 5 (cU (call 25 [w4, .int 8, .int x4, .int (if (y7 + 1) < (9 : Int32) then (y7 + 1) else (9 : Int32))] h6) (fun h8 => bd S call dflT E_X10_sink n 5 [some (.ref a0), some (.int x1), some (.int x2), some (.int (x3 + 1)), some (.int (x4 + 1))] [] h8)))))) else bd S call dflT E_X10_sink n 5 [some (.ref a0), some (.int x1), some (.int x2), some (.int (x3 + 1)), some (.int (x4 + 1))] [] h2) else bd S call dflT E_X10_sink n 5 [some (.ref a0), some (.int x1), some (.int x2), some (.int x3), some (.int (x4 + 1))] [] h2)))))) := rfl
theorem dX10_dig_0 : decode cX10_dig 0 = .ok (.aload_n 0, 1) := by decide +kernel
theorem dX10_dig_1 : decode cX10_dig 1 = .ok (.getfield 26, 3) := by decide +kernel
theorem dX10_dig_4 : decode cX10_dig 4 = .ok (.bipush 11, 2) := by decide +kernel
theorem dX10_dig_6 : decode cX10_dig 6 = .ok (.iload_n 1, 1) := by decide +kernel
theorem dX10_dig_7 : decode cX10_dig 7 = .ok (.invokevirtual 167, 3) := by decide +kernel
theorem dX10_dig_10 : decode cX10_dig 10 = .ok (.istore_n 2, 1) := by decide +kernel
theorem dX10_dig_11 : decode cX10_dig 11 = .ok (.iload_n 2, 1) := by decide +kernel
theorem dX10_dig_12 : decode cX10_dig 12 = .ok (.aload_n 0, 1) := by decide +kernel
theorem dX10_dig_13 : decode cX10_dig 13 = .ok (.getfield 26, 3) := by decide +kernel
theorem dX10_dig_16 : decode cX10_dig 16 = .ok (.bipush 12, 2) := by decide +kernel
theorem dX10_dig_18 : decode cX10_dig 18 = .ok (.iload_n 1, 1) := by decide +kernel
theorem dX10_dig_19 : decode cX10_dig 19 = .ok (.invokevirtual 167, 3) := by decide +kernel
theorem dX10_dig_22 : decode cX10_dig 22 = .ok (.imul, 1) := by decide +kernel
theorem dX10_dig_23 : decode cX10_dig 23 = .ok (.istore_n 3, 1) := by decide +kernel
theorem dX10_dig_24 : decode cX10_dig 24 = .ok (.aload_n 0, 1) := by decide +kernel
theorem dX10_dig_25 : decode cX10_dig 25 = .ok (.getfield 26, 3) := by decide +kernel
theorem dX10_dig_28 : decode cX10_dig 28 = .ok (.bipush 8, 2) := by decide +kernel
theorem dX10_dig_30 : decode cX10_dig 30 = .ok (.iload_n 1, 1) := by decide +kernel
theorem dX10_dig_31 : decode cX10_dig 31 = .ok (.invokevirtual 167, 3) := by decide +kernel
theorem dX10_dig_34 : decode cX10_dig 34 = .ok (.bipush 100, 2) := by decide +kernel
theorem dX10_dig_36 : decode cX10_dig 36 = .ok (.idiv, 1) := by decide +kernel
theorem dX10_dig_37 : decode cX10_dig 37 = .ok (.istore 4, 2) := by decide +kernel
theorem dX10_dig_39 : decode cX10_dig 39 = .ok (.aload_n 0, 1) := by decide +kernel
theorem dX10_dig_40 : decode cX10_dig 40 = .ok (.getfield 26, 3) := by decide +kernel
theorem dX10_dig_43 : decode cX10_dig 43 = .ok (.bipush 8, 2) := by decide +kernel
theorem dX10_dig_45 : decode cX10_dig 45 = .ok (.iload_n 1, 1) := by decide +kernel
theorem dX10_dig_46 : decode cX10_dig 46 = .ok (.iload_n 2, 1) := by decide +kernel
theorem dX10_dig_47 : decode cX10_dig 47 = .ok (.i2l, 1) := by decide +kernel
theorem dX10_dig_48 : decode cX10_dig 48 = .ok (.invokevirtual 150, 3) := by decide +kernel
theorem dX10_dig_51 : decode cX10_dig 51 = .ok (.aload_n 0, 1) := by decide +kernel
theorem dX10_dig_52 : decode cX10_dig 52 = .ok (.getfield 26, 3) := by decide +kernel
theorem dX10_dig_55 : decode cX10_dig 55 = .ok (.bipush 7, 2) := by decide +kernel
theorem dX10_dig_57 : decode cX10_dig 57 = .ok (.iload_n 1, 1) := by decide +kernel
theorem dX10_dig_58 : decode cX10_dig 58 = .ok (.iload_n 3, 1) := by decide +kernel
theorem dX10_dig_59 : decode cX10_dig 59 = .ok (.i2l, 1) := by decide +kernel
theorem dX10_dig_60 : decode cX10_dig 60 = .ok (.invokevirtual 150, 3) := by decide +kernel
theorem dX10_dig_63 : decode cX10_dig 63 = .ok (.aload_n 0, 1) := by decide +kernel
theorem dX10_dig_64 : decode cX10_dig 64 = .ok (.getfield 9, 3) := by decide +kernel
theorem dX10_dig_67 : decode cX10_dig 67 = .ok (.bipush 15, 2) := by decide +kernel
theorem dX10_dig_69 : decode cX10_dig 69 = .ok (.iload_n 3, 1) := by decide +kernel
theorem dX10_dig_70 : decode cX10_dig 70 = .ok (.invokevirtual 224, 3) := by decide +kernel
theorem dX10_dig_73 : decode cX10_dig 73 = .ok (.aload_n 0, 1) := by decide +kernel
theorem dX10_dig_74 : decode cX10_dig 74 = .ok (.getfield 26, 3) := by decide +kernel
theorem dX10_dig_77 : decode cX10_dig 77 = .ok (.iconst 1, 1) := by decide +kernel
theorem dX10_dig_78 : decode cX10_dig 78 = .ok (.iload_n 1, 1) := by decide +kernel
theorem dX10_dig_79 : decode cX10_dig 79 = .ok (.invokevirtual 167, 3) := by decide +kernel
theorem dX10_dig_82 : decode cX10_dig 82 = .ok (.istore 5, 2) := by decide +kernel
theorem dX10_dig_84 : decode cX10_dig 84 = .ok (.iload 4, 2) := by decide +kernel
theorem dX10_dig_86 : decode cX10_dig 86 = .ok (.istore 6, 2) := by decide +kernel
theorem dX10_dig_88 : decode cX10_dig 88 = .ok (.iload 6, 2) := by decide +kernel
theorem dX10_dig_90 : decode cX10_dig 90 = .ok (.aload_n 0, 1) := by decide +kernel
theorem dX10_dig_91 : decode cX10_dig 91 = .ok (.getfield 26, 3) := by decide +kernel
theorem dX10_dig_94 : decode cX10_dig 94 = .ok (.bipush 8, 2) := by decide +kernel
theorem dX10_dig_96 : decode cX10_dig 96 = .ok (.iload_n 1, 1) := by decide +kernel
theorem dX10_dig_97 : decode cX10_dig 97 = .ok (.invokevirtual 167, 3) := by decide +kernel
theorem dX10_dig_100 : decode cX10_dig 100 = .ok (.bipush 100, 2) := by decide +kernel
theorem dX10_dig_102 : decode cX10_dig 102 = .ok (.idiv, 1) := by decide +kernel
theorem dX10_dig_103 : decode cX10_dig 103 = .ok (.if_icmp .ge 24, 3) := by decide +kernel
theorem dX10_dig_106 : decode cX10_dig 106 = .ok (.iload 5, 2) := by decide +kernel
theorem dX10_dig_108 : decode cX10_dig 108 = .ok (.ifCond .le 19, 3) := by decide +kernel
theorem dX10_dig_111 : decode cX10_dig 111 = .ok (.aload_n 0, 1) := by decide +kernel
theorem dX10_dig_112 : decode cX10_dig 112 = .ok (.iload_n 1, 1) := by decide +kernel
theorem dX10_dig_113 : decode cX10_dig 113 = .ok (.iload 6, 2) := by decide +kernel
theorem dX10_dig_115 : decode cX10_dig 115 = .ok (.iload 5, 2) := by decide +kernel
theorem dX10_dig_117 : decode cX10_dig 117 = .ok (.irem, 1) := by decide +kernel
theorem dX10_dig_118 : decode cX10_dig 118 = .ok (.invokevirtual 227, 3) := by decide +kernel
theorem dX10_dig_121 : decode cX10_dig 121 = .ok (.iinc 6 1, 3) := by decide +kernel
theorem dX10_dig_124 : decode cX10_dig 124 = .ok (.goto (-36), 3) := by decide +kernel
theorem dX10_dig_127 : decode cX10_dig 127 = .ok (.return_, 1) := by decide +kernel
noncomputable def E_X10_dig : mE := (mX10_dig, [(40, [(0, (.aload_n 0, 1, false, false, 0, 0, 0, 0, 0, 0, [])), (1, (.getfield 26, 4, false, false, 13, 2, 1, 0, 0, 0, [])), (4, (.bipush 11, 6, false, false, 0, 0, 0, 0, 11, 0, [])), (6, (.iload_n 1, 7, false, false, 1, 0, 0, 0, 0, 0, [])), (7, (.invokevirtual 167, 10, false, false, 102, 2, 1, 4, 0, 0, [])), (10, (.istore_n 2, 11, false, false, 2, 0, 0, 0, 0, 0, [])), (11, (.iload_n 2, 12, false, false, 2, 0, 0, 0, 0, 0, [])), (12, (.aload_n 0, 13, false, false, 0, 0, 0, 0, 0, 0, [])), (13, (.getfield 26, 16, false, false, 13, 2, 1, 0, 0, 0, [])), (16, (.bipush 12, 18, false, false, 0, 0, 0, 0, 12, 0, [])), (18, (.iload_n 1, 19, false, false, 1, 0, 0, 0, 0, 0, [])), (19, (.invokevirtual 167, 22, false, false, 102, 2, 1, 4, 0, 0, [])), (22, (.imul, 23, false, false, 0, 0, 0, 0, 0, 0, [])), (23, (.istore_n 3, 24, false, false, 3, 0, 0, 0, 0, 0, [])), (24, (.aload_n 0, 25, false, false, 0, 0, 0, 0, 0, 0, [])), (25, (.getfield 26, 28, false, false, 13, 2, 1, 0, 0, 0, [])), (28, (.bipush 8, 30, false, false, 0, 0, 0, 0, 8, 0, [])), (30, (.iload_n 1, 31, false, false, 1, 0, 0, 0, 0, 0, [])), (31, (.invokevirtual 167, 34, false, false, 102, 2, 1, 4, 0, 0, [])), (34, (.bipush 100, 36, false, false, 0, 0, 0, 0, 100, 0, [])), (36, (.idiv, 37, false, false, 0, 0, 0, 0, 0, 0, [])), (37, (.istore 4, 39, false, false, 4, 0, 0, 0, 0, 0, [])), (39, (.aload_n 0, 40, false, false, 0, 0, 0, 0, 0, 0, [])), (40, (.getfield 26, 43, false, false, 13, 2, 1, 0, 0, 0, []))]),
  (84, [(43, (.bipush 8, 45, false, false, 0, 0, 0, 0, 8, 0, [])), (45, (.iload_n 1, 46, false, false, 1, 0, 0, 0, 0, 0, [])), (46, (.iload_n 2, 47, false, false, 2, 0, 0, 0, 0, 0, [])), (47, (.i2l, 48, false, false, 0, 0, 0, 0, 0, 0, [])), (48, (.invokevirtual 150, 51, false, false, 104, 3, 0, 4, 0, 0, [])), (51, (.aload_n 0, 52, false, false, 0, 0, 0, 0, 0, 0, [])), (52, (.getfield 26, 55, false, false, 13, 2, 1, 0, 0, 0, [])), (55, (.bipush 7, 57, false, false, 0, 0, 0, 0, 7, 0, [])), (57, (.iload_n 1, 58, false, false, 1, 0, 0, 0, 0, 0, [])), (58, (.iload_n 3, 59, false, false, 3, 0, 0, 0, 0, 0, [])), (59, (.i2l, 60, false, false, 0, 0, 0, 0, 0, 0, [])), (60, (.invokevirtual 150, 63, false, false, 104, 3, 0, 4, 0, 0, [])), (63, (.aload_n 0, 64, false, false, 0, 0, 0, 0, 0, 0, [])), (64, (.getfield 9, 67, false, false, 13, 0, 1, 0, 0, 0, [])), (67, (.bipush 15, 69, false, false, 0, 0, 0, 0, 15, 0, [])), (69, (.iload_n 3, 70, false, false, 3, 0, 0, 0, 0, 0, [])), (70, (.invokevirtual 224, 73, false, false, 212, 2, 0, 3, 0, 0, [])), (73, (.aload_n 0, 74, false, false, 0, 0, 0, 0, 0, 0, [])), (74, (.getfield 26, 77, false, false, 13, 2, 1, 0, 0, 0, [])), (77, (.iconst 1, 78, false, false, 0, 0, 0, 0, 1, 0, [])), (78, (.iload_n 1, 79, false, false, 1, 0, 0, 0, 0, 0, [])), (79, (.invokevirtual 167, 82, false, false, 102, 2, 1, 4, 0, 0, [])), (82, (.istore 5, 84, false, false, 5, 0, 0, 0, 0, 0, [])), (84, (.iload 4, 86, false, false, 4, 0, 0, 0, 0, 0, []))]),
  (127, [(86, (.istore 6, 88, true, false, 6, 0, 0, 0, 0, 0, [])), (88, (.iload 6, 90, false, false, 6, 0, 0, 0, 0, 0, [])), (90, (.aload_n 0, 91, false, false, 0, 0, 0, 0, 0, 0, [])), (91, (.getfield 26, 94, false, false, 13, 2, 1, 0, 0, 0, [])), (94, (.bipush 8, 96, false, false, 0, 0, 0, 0, 8, 0, [])), (96, (.iload_n 1, 97, false, false, 1, 0, 0, 0, 0, 0, [])), (97, (.invokevirtual 167, 100, false, false, 102, 2, 1, 4, 0, 0, [])), (100, (.bipush 100, 102, false, false, 0, 0, 0, 0, 100, 0, [])), (102, (.idiv, 103, false, false, 0, 0, 0, 0, 0, 0, [])), (103, (.if_icmp .ge 24, 106, false, false, 127, 0, 0, 0, 0, 0, [])), (106, (.iload 5, 108, false, false, 5, 0, 0, 0, 0, 0, [])), (108, (.ifCond .le 19, 111, false, false, 127, 0, 0, 0, 0, 0, [])), (111, (.aload_n 0, 112, false, false, 0, 0, 0, 0, 0, 0, [])), (112, (.iload_n 1, 113, false, false, 1, 0, 0, 0, 0, 0, [])), (113, (.iload 6, 115, false, false, 6, 0, 0, 0, 0, 0, [])), (115, (.iload 5, 117, false, false, 5, 0, 0, 0, 0, 0, [])), (117, (.irem, 118, false, false, 0, 0, 0, 0, 0, 0, [])), (118, (.invokevirtual 227, 121, false, false, 213, 2, 0, 13, 0, 0, [])), (121, (.iinc 6 1, 124, false, false, 6, 0, 0, 0, 1, 0, [])), (124, (.goto (-36), 127, false, true, 88, 0, 0, 0, 0, 0, [])), (127, (.return_, 128, false, false, 0, 0, 0, 0, 0, 0, []))])], 0, [])
set_option maxRecDepth 100000 in
theorem v_X10_dig : VE MYT dflT E_X10_dig := ⟨⟨⟨⟨⟨dX10_dig_0, rfl⟩, rfl⟩, ⟨⟨dX10_dig_1, rfl⟩, Or.inl ⟨by decide, _, _, fX10_26⟩⟩, ⟨⟨dX10_dig_4, rfl⟩, rfl⟩, ⟨⟨dX10_dig_6, rfl⟩, rfl⟩, ⟨⟨dX10_dig_7, rfl⟩, Or.inr ⟨by decide, ⟨_, my_102, sX10_167⟩, fun q => absurd q (by decide)⟩⟩, ⟨⟨dX10_dig_10, rfl⟩, rfl⟩, ⟨⟨dX10_dig_11, rfl⟩, rfl⟩, ⟨⟨dX10_dig_12, rfl⟩, rfl⟩, ⟨⟨dX10_dig_13, rfl⟩, Or.inl ⟨by decide, _, _, fX10_26⟩⟩, ⟨⟨dX10_dig_16, rfl⟩, rfl⟩, ⟨⟨dX10_dig_18, rfl⟩, rfl⟩, ⟨⟨dX10_dig_19, rfl⟩, Or.inr ⟨by decide, ⟨_, my_102, sX10_167⟩, fun q => absurd q (by decide)⟩⟩, ⟨⟨dX10_dig_22, rfl⟩, trivial⟩, ⟨⟨dX10_dig_23, rfl⟩, rfl⟩, ⟨⟨dX10_dig_24, rfl⟩, rfl⟩, ⟨⟨dX10_dig_25, rfl⟩, Or.inl ⟨by decide, _, _, fX10_26⟩⟩, ⟨⟨dX10_dig_28, rfl⟩, rfl⟩, ⟨⟨dX10_dig_30, rfl⟩, rfl⟩, ⟨⟨dX10_dig_31, rfl⟩, Or.inr ⟨by decide, ⟨_, my_102, sX10_167⟩, fun q => absurd q (by decide)⟩⟩, ⟨⟨dX10_dig_34, rfl⟩, rfl⟩, ⟨⟨dX10_dig_36, rfl⟩, trivial⟩, ⟨⟨dX10_dig_37, rfl⟩, rfl⟩, ⟨⟨dX10_dig_39, rfl⟩, rfl⟩, ⟨⟨dX10_dig_40, rfl⟩, Or.inl ⟨by decide, _, _, fX10_26⟩⟩, trivial⟩,
  ⟨⟨⟨dX10_dig_43, rfl⟩, rfl⟩, ⟨⟨dX10_dig_45, rfl⟩, rfl⟩, ⟨⟨dX10_dig_46, rfl⟩, rfl⟩, ⟨⟨dX10_dig_47, rfl⟩, trivial⟩, ⟨⟨dX10_dig_48, rfl⟩, Or.inr ⟨by decide, ⟨_, my_104, sX10_150⟩, fun q => absurd q (by decide)⟩⟩, ⟨⟨dX10_dig_51, rfl⟩, rfl⟩, ⟨⟨dX10_dig_52, rfl⟩, Or.inl ⟨by decide, _, _, fX10_26⟩⟩, ⟨⟨dX10_dig_55, rfl⟩, rfl⟩, ⟨⟨dX10_dig_57, rfl⟩, rfl⟩, ⟨⟨dX10_dig_58, rfl⟩, rfl⟩, ⟨⟨dX10_dig_59, rfl⟩, trivial⟩, ⟨⟨dX10_dig_60, rfl⟩, Or.inr ⟨by decide, ⟨_, my_104, sX10_150⟩, fun q => absurd q (by decide)⟩⟩, ⟨⟨dX10_dig_63, rfl⟩, rfl⟩, ⟨⟨dX10_dig_64, rfl⟩, Or.inl ⟨by decide, _, _, fX10_9⟩⟩, ⟨⟨dX10_dig_67, rfl⟩, rfl⟩, ⟨⟨dX10_dig_69, rfl⟩, rfl⟩, ⟨⟨dX10_dig_70, rfl⟩, Or.inr ⟨by decide, ⟨_, my_212, sX10_224⟩, fun q => absurd q (by decide)⟩⟩, ⟨⟨dX10_dig_73, rfl⟩, rfl⟩, ⟨⟨dX10_dig_74, rfl⟩, Or.inl ⟨by decide, _, _, fX10_26⟩⟩, ⟨⟨dX10_dig_77, rfl⟩, rfl⟩, ⟨⟨dX10_dig_78, rfl⟩, rfl⟩, ⟨⟨dX10_dig_79, rfl⟩, Or.inr ⟨by decide, ⟨_, my_102, sX10_167⟩, fun q => absurd q (by decide)⟩⟩, ⟨⟨dX10_dig_82, rfl⟩, rfl⟩, ⟨⟨dX10_dig_84, rfl⟩, rfl⟩, trivial⟩,
  ⟨⟨⟨dX10_dig_86, rfl⟩, rfl⟩, ⟨⟨dX10_dig_88, rfl⟩, rfl⟩, ⟨⟨dX10_dig_90, rfl⟩, rfl⟩, ⟨⟨dX10_dig_91, rfl⟩, Or.inl ⟨by decide, _, _, fX10_26⟩⟩, ⟨⟨dX10_dig_94, rfl⟩, rfl⟩, ⟨⟨dX10_dig_96, rfl⟩, rfl⟩, ⟨⟨dX10_dig_97, rfl⟩, Or.inr ⟨by decide, ⟨_, my_102, sX10_167⟩, fun q => absurd q (by decide)⟩⟩, ⟨⟨dX10_dig_100, rfl⟩, rfl⟩, ⟨⟨dX10_dig_102, rfl⟩, trivial⟩, ⟨⟨dX10_dig_103, rfl⟩, rfl⟩, ⟨⟨dX10_dig_106, rfl⟩, rfl⟩, ⟨⟨dX10_dig_108, rfl⟩, rfl⟩, ⟨⟨dX10_dig_111, rfl⟩, rfl⟩, ⟨⟨dX10_dig_112, rfl⟩, rfl⟩, ⟨⟨dX10_dig_113, rfl⟩, rfl⟩, ⟨⟨dX10_dig_115, rfl⟩, rfl⟩, ⟨⟨dX10_dig_117, rfl⟩, trivial⟩, ⟨⟨dX10_dig_118, rfl⟩, Or.inr ⟨by decide, ⟨_, my_213, sX10_227⟩, fun q => absurd q (by decide)⟩⟩, ⟨⟨dX10_dig_121, rfl⟩, ⟨rfl, rfl⟩⟩, ⟨⟨dX10_dig_124, rfl⟩, rfl⟩, ⟨⟨dX10_dig_127, rfl⟩, rfl⟩, trivial⟩, trivial⟩, by decide, Or.inl ⟨rfl, by decide, rfl⟩⟩
set_option maxRecDepth 100000 in
theorem g_X10_dig_0 (S : sT) (call : cT) (n : Nat) (a0 : Nat) (x1 : Int32) (h : pH) : bd S call dflT E_X10_dig (n + 1) 0 [some (.ref a0), some (.int x1), none, none, none, none, none] [] h = (gV h (.ref a0) 13 2 (fun w1 => rC h w1 4 (cI (call 102 [w1, .int 11, .int x1] h) (fun y3 h2 => gV h2 (.ref a0) 13 2 (fun w4 => rC h2 w4 4 (cI (call 102 [w4, .int 12, .int x1] h2) (fun y6 h5 => gV h5 (.ref a0) 13 2 (fun w7 => rC h5 w7 4 (cI (call 102 [w7, .int 8, .int x1] h5) (fun y9 h8 => dv 100 (gV h8 (.ref a0) 13 2 (fun w10 => rC h8 w10 4 (cU (call 104 [w10, .int 8, .int x1, .long y3.toInt64] h8) (fun h11 => gV h11 (.ref a0) 13 2 (fun w12 => rC h11 w12 4 (cU (call 104 [w12, .int 7, .int x1, .long (y3 * y6).toInt64] h11) (fun h13 => gV h13 (.ref a0) 13 0 (fun w14 => rC h13 w14 3 (cU (call 212 [w14, .int 15, .int (y3 * y6)] h13) (fun h15 => gV h15 (.ref a0) 13 2 (fun w16 => rC h15 w16 4 (cI (call 102 [w16, .int 1, .int x1] h15) (fun y18 h17 => bd S call dflT E_X10_dig n 88 [some (.ref a0), some (.int x1), some (.int y3), some (.int (y3 * y6)), some (.int (y9 / 100)), some (.int y18), some (.int (y9 / 100))] [] h17))))))))))))))))))))))) := rfl
set_option maxRecDepth 100000 in
theorem g_X10_dig_88 (S : sT) (call : cT) (n : Nat) (a0 : Nat) (x1 : Int32) (x2 : Int32) (x3 : Int32) (x4 : Int32) (x5 : Int32) (x6 : Int32) (h : pH) : bd S call dflT E_X10_dig (n + 1) 88 [some (.ref a0), some (.int x1), some (.int x2), some (.int x3), some (.int x4), some (.int x5), some (.int x6)] [] h = (gV h (.ref a0) 13 2 (fun w1 => rC h w1 4 (cI (call 102 [w1, .int 8, .int x1] h) (fun y3 h2 => dv 100 ((if (y3 / 100) ≤ x6 then some (.inl none, h2) else (if x5 ≤ 0 then some (.inl none, h2) else dv x5 (rC h2 (.ref a0) 13 (cU (call 213 [.ref a0, .int x1, .int (x6 - x6 / x5 * x5)] h2) (fun h4 => bd S call dflT E_X10_dig n 88 [some (.ref a0), some (.int x1), some (.int x2), some (.int x3), some (.int x4), some (.int x5), some (.int (x6 + 1))] [] h4)))))))))) := rfl
theorem dX10_digMines_0 : decode cX10_digMines 0 = .ok (.iconst 0, 1) := by decide +kernel
theorem dX10_digMines_1 : decode cX10_digMines 1 = .ok (.istore_n 1, 1) := by decide +kernel
theorem dX10_digMines_2 : decode cX10_digMines 2 = .ok (.iload_n 1, 1) := by decide +kernel
theorem dX10_digMines_3 : decode cX10_digMines 3 = .ok (.aload_n 0, 1) := by decide +kernel
theorem dX10_digMines_4 : decode cX10_digMines 4 = .ok (.getfield 26, 3) := by decide +kernel
theorem dX10_digMines_7 : decode cX10_digMines 7 = .ok (.getfield 158, 3) := by decide +kernel
theorem dX10_digMines_10 : decode cX10_digMines 10 = .ok (.if_icmp .ge 38, 3) := by decide +kernel
theorem dX10_digMines_13 : decode cX10_digMines 13 = .ok (.aload_n 0, 1) := by decide +kernel
theorem dX10_digMines_14 : decode cX10_digMines 14 = .ok (.getfield 26, 3) := by decide +kernel
theorem dX10_digMines_17 : decode cX10_digMines 17 = .ok (.iconst 0, 1) := by decide +kernel
theorem dX10_digMines_18 : decode cX10_digMines 18 = .ok (.iload_n 1, 1) := by decide +kernel
theorem dX10_digMines_19 : decode cX10_digMines 19 = .ok (.invokevirtual 167, 3) := by decide +kernel
theorem dX10_digMines_22 : decode cX10_digMines 22 = .ok (.iconst 4, 1) := by decide +kernel
theorem dX10_digMines_23 : decode cX10_digMines 23 = .ok (.if_icmp .ne 19, 3) := by decide +kernel
theorem dX10_digMines_26 : decode cX10_digMines 26 = .ok (.aload_n 0, 1) := by decide +kernel
theorem dX10_digMines_27 : decode cX10_digMines 27 = .ok (.getfield 26, 3) := by decide +kernel
theorem dX10_digMines_30 : decode cX10_digMines 30 = .ok (.iload_n 1, 1) := by decide +kernel
theorem dX10_digMines_31 : decode cX10_digMines 31 = .ok (.invokevirtual 161, 3) := by decide +kernel
theorem dX10_digMines_34 : decode cX10_digMines 34 = .ok (.ifCond .ne 8, 3) := by decide +kernel
theorem dX10_digMines_37 : decode cX10_digMines 37 = .ok (.aload_n 0, 1) := by decide +kernel
theorem dX10_digMines_38 : decode cX10_digMines 38 = .ok (.iload_n 1, 1) := by decide +kernel
theorem dX10_digMines_39 : decode cX10_digMines 39 = .ok (.invokevirtual 221, 3) := by decide +kernel
theorem dX10_digMines_42 : decode cX10_digMines 42 = .ok (.iinc 1 1, 3) := by decide +kernel
theorem dX10_digMines_45 : decode cX10_digMines 45 = .ok (.goto (-43), 3) := by decide +kernel
theorem dX10_digMines_48 : decode cX10_digMines 48 = .ok (.return_, 1) := by decide +kernel
noncomputable def E_X10_digMines : mE := (mX10_digMines, [(45, [(0, (.iconst 0, 1, false, false, 0, 0, 0, 0, 0, 0, [])), (1, (.istore_n 1, 2, true, false, 1, 0, 0, 0, 0, 0, [])), (2, (.iload_n 1, 3, false, false, 1, 0, 0, 0, 0, 0, [])), (3, (.aload_n 0, 4, false, false, 0, 0, 0, 0, 0, 0, [])), (4, (.getfield 26, 7, false, false, 13, 2, 1, 0, 0, 0, [])), (7, (.getfield 158, 10, false, false, 4, 0, 0, 0, 0, 0, [])), (10, (.if_icmp .ge 38, 13, false, false, 48, 0, 0, 0, 0, 0, [])), (13, (.aload_n 0, 14, false, false, 0, 0, 0, 0, 0, 0, [])), (14, (.getfield 26, 17, false, false, 13, 2, 1, 0, 0, 0, [])), (17, (.iconst 0, 18, false, false, 0, 0, 0, 0, 0, 0, [])), (18, (.iload_n 1, 19, false, false, 1, 0, 0, 0, 0, 0, [])), (19, (.invokevirtual 167, 22, false, false, 102, 2, 1, 4, 0, 0, [])), (22, (.iconst 4, 23, false, false, 0, 0, 0, 0, 4, 0, [])), (23, (.if_icmp .ne 19, 26, false, false, 42, 0, 0, 0, 0, 0, [])), (26, (.aload_n 0, 27, false, false, 0, 0, 0, 0, 0, 0, [])), (27, (.getfield 26, 30, false, false, 13, 2, 1, 0, 0, 0, [])), (30, (.iload_n 1, 31, false, false, 1, 0, 0, 0, 0, 0, [])), (31, (.invokevirtual 161, 34, false, false, 195, 1, 1, 4, 0, 0, [])), (34, (.ifCond .ne 8, 37, false, false, 42, 0, 0, 0, 0, 0, [])), (37, (.aload_n 0, 38, false, false, 0, 0, 0, 0, 0, 0, [])), (38, (.iload_n 1, 39, false, false, 1, 0, 0, 0, 0, 0, [])), (39, (.invokevirtual 221, 42, false, false, 214, 1, 0, 13, 0, 0, [])), (42, (.iinc 1 1, 45, false, false, 1, 0, 0, 0, 1, 0, [])), (45, (.goto (-43), 48, false, true, 2, 0, 0, 0, 0, 0, []))]),
  (48, [(48, (.return_, 49, false, false, 0, 0, 0, 0, 0, 0, []))])], 0, [])
set_option maxRecDepth 100000 in
theorem v_X10_digMines : VE MYT dflT E_X10_digMines := ⟨⟨⟨⟨⟨dX10_digMines_0, rfl⟩, rfl⟩, ⟨⟨dX10_digMines_1, rfl⟩, rfl⟩, ⟨⟨dX10_digMines_2, rfl⟩, rfl⟩, ⟨⟨dX10_digMines_3, rfl⟩, rfl⟩, ⟨⟨dX10_digMines_4, rfl⟩, Or.inl ⟨by decide, _, _, fX10_26⟩⟩, ⟨⟨dX10_digMines_7, rfl⟩, Or.inl ⟨by decide, _, _, fX10_158⟩⟩, ⟨⟨dX10_digMines_10, rfl⟩, rfl⟩, ⟨⟨dX10_digMines_13, rfl⟩, rfl⟩, ⟨⟨dX10_digMines_14, rfl⟩, Or.inl ⟨by decide, _, _, fX10_26⟩⟩, ⟨⟨dX10_digMines_17, rfl⟩, rfl⟩, ⟨⟨dX10_digMines_18, rfl⟩, rfl⟩, ⟨⟨dX10_digMines_19, rfl⟩, Or.inr ⟨by decide, ⟨_, my_102, sX10_167⟩, fun q => absurd q (by decide)⟩⟩, ⟨⟨dX10_digMines_22, rfl⟩, rfl⟩, ⟨⟨dX10_digMines_23, rfl⟩, rfl⟩, ⟨⟨dX10_digMines_26, rfl⟩, rfl⟩, ⟨⟨dX10_digMines_27, rfl⟩, Or.inl ⟨by decide, _, _, fX10_26⟩⟩, ⟨⟨dX10_digMines_30, rfl⟩, rfl⟩, ⟨⟨dX10_digMines_31, rfl⟩, Or.inr ⟨by decide, ⟨_, my_195, sX10_161⟩, fun q => absurd q (by decide)⟩⟩, ⟨⟨dX10_digMines_34, rfl⟩, rfl⟩, ⟨⟨dX10_digMines_37, rfl⟩, rfl⟩, ⟨⟨dX10_digMines_38, rfl⟩, rfl⟩, ⟨⟨dX10_digMines_39, rfl⟩, Or.inr ⟨by decide, ⟨_, my_214, sX10_221⟩, fun q => absurd q (by decide)⟩⟩, ⟨⟨dX10_digMines_42, rfl⟩, ⟨rfl, rfl⟩⟩, ⟨⟨dX10_digMines_45, rfl⟩, rfl⟩, trivial⟩,
  ⟨⟨⟨dX10_digMines_48, rfl⟩, rfl⟩, trivial⟩, trivial⟩, by decide, Or.inl ⟨rfl, by decide, rfl⟩⟩
set_option maxRecDepth 100000 in
theorem g_X10_digMines_0 (S : sT) (call : cT) (n : Nat) (a0 : Nat) (h : pH) : bd S call dflT E_X10_digMines (n + 1) 0 [some (.ref a0), none] [] h = (bd S call dflT E_X10_digMines n 2 [some (.ref a0), some (.int 0)] [] h) := rfl
set_option maxRecDepth 100000 in
theorem g_X10_digMines_2 (S : sT) (call : cT) (n : Nat) (a0 : Nat) (x1 : Int32) (h : pH) : bd S call dflT E_X10_digMines (n + 1) 2 [some (.ref a0), some (.int x1)] [] h = (gV h (.ref a0) 13 2 (fun w1 => gI h w1 4 0 (fun y2 => (if y2 ≤ x1 then some (.inl none, h) else gV h (.ref a0) 13 2 (fun w3 => rC h w3 4 (cI (call 102 [w3, .int 0, .int x1] h) (fun y5 h4 => (if y5 = 4 then gV h4 (.ref a0) 13 2 (fun w6 => rC h4 w6 4 (cI (call 195 [w6, .int x1] h4) (fun y8 h7 => (if y8 = 0 then rC h7 (.ref a0) 13 (cU (call 214 [.ref a0, .int x1] h7) (fun h9 => bd S call dflT E_X10_digMines n 2 [some (.ref a0), some (.int (x1 + 1))] [] h9)) else bd S call dflT E_X10_digMines n 2 [some (.ref a0), some (.int (x1 + 1))] [] h7)))) else bd S call dflT E_X10_digMines n 2 [some (.ref a0), some (.int (x1 + 1))] [] h4)))))))) := rfl
theorem dX10_isAtItsEnd_0 : decode cX10_isAtItsEnd 0 = .ok (.aload_n 0, 1) := by decide +kernel
theorem dX10_isAtItsEnd_1 : decode cX10_isAtItsEnd 1 = .ok (.getfield 26, 3) := by decide +kernel
theorem dX10_isAtItsEnd_4 : decode cX10_isAtItsEnd 4 = .ok (.iload_n 1, 1) := by decide +kernel
theorem dX10_isAtItsEnd_5 : decode cX10_isAtItsEnd 5 = .ok (.invokevirtual 161, 3) := by decide +kernel
theorem dX10_isAtItsEnd_8 : decode cX10_isAtItsEnd 8 = .ok (.ifCond .eq 5, 3) := by decide +kernel
theorem dX10_isAtItsEnd_11 : decode cX10_isAtItsEnd 11 = .ok (.iconst 0, 1) := by decide +kernel
theorem dX10_isAtItsEnd_12 : decode cX10_isAtItsEnd 12 = .ok (.ireturn, 1) := by decide +kernel
theorem dX10_isAtItsEnd_13 : decode cX10_isAtItsEnd 13 = .ok (.aload_n 0, 1) := by decide +kernel
theorem dX10_isAtItsEnd_14 : decode cX10_isAtItsEnd 14 = .ok (.getfield 26, 3) := by decide +kernel
theorem dX10_isAtItsEnd_17 : decode cX10_isAtItsEnd 17 = .ok (.iconst 0, 1) := by decide +kernel
theorem dX10_isAtItsEnd_18 : decode cX10_isAtItsEnd 18 = .ok (.iload_n 1, 1) := by decide +kernel
theorem dX10_isAtItsEnd_19 : decode cX10_isAtItsEnd 19 = .ok (.invokevirtual 167, 3) := by decide +kernel
theorem dX10_isAtItsEnd_22 : decode cX10_isAtItsEnd 22 = .ok (.istore_n 2, 1) := by decide +kernel
theorem dX10_isAtItsEnd_23 : decode cX10_isAtItsEnd 23 = .ok (.iload_n 2, 1) := by decide +kernel
theorem dX10_isAtItsEnd_24 : decode cX10_isAtItsEnd 24 = .ok (.ifCond .ne 22, 3) := by decide +kernel
theorem dX10_isAtItsEnd_27 : decode cX10_isAtItsEnd 27 = .ok (.aload_n 0, 1) := by decide +kernel
theorem dX10_isAtItsEnd_28 : decode cX10_isAtItsEnd 28 = .ok (.getfield 26, 3) := by decide +kernel
theorem dX10_isAtItsEnd_31 : decode cX10_isAtItsEnd 31 = .ok (.iconst 5, 1) := by decide +kernel
theorem dX10_isAtItsEnd_32 : decode cX10_isAtItsEnd 32 = .ok (.iload_n 1, 1) := by decide +kernel
theorem dX10_isAtItsEnd_33 : decode cX10_isAtItsEnd 33 = .ok (.invokevirtual 167, 3) := by decide +kernel
theorem dX10_isAtItsEnd_36 : decode cX10_isAtItsEnd 36 = .ok (.aload_n 0, 1) := by decide +kernel
theorem dX10_isAtItsEnd_37 : decode cX10_isAtItsEnd 37 = .ok (.getfield 9, 3) := by decide +kernel
theorem dX10_isAtItsEnd_40 : decode cX10_isAtItsEnd 40 = .ok (.getfield 35, 3) := by decide +kernel
theorem dX10_isAtItsEnd_43 : decode cX10_isAtItsEnd 43 = .ok (.if_icmp .le 21, 3) := by decide +kernel
theorem dX10_isAtItsEnd_46 : decode cX10_isAtItsEnd 46 = .ok (.iload_n 2, 1) := by decide +kernel
theorem dX10_isAtItsEnd_47 : decode cX10_isAtItsEnd 47 = .ok (.iconst 1, 1) := by decide +kernel
theorem dX10_isAtItsEnd_48 : decode cX10_isAtItsEnd 48 = .ok (.if_icmp .ne 20, 3) := by decide +kernel
theorem dX10_isAtItsEnd_51 : decode cX10_isAtItsEnd 51 = .ok (.aload_n 0, 1) := by decide +kernel
theorem dX10_isAtItsEnd_52 : decode cX10_isAtItsEnd 52 = .ok (.getfield 26, 3) := by decide +kernel
theorem dX10_isAtItsEnd_55 : decode cX10_isAtItsEnd 55 = .ok (.bipush 10, 2) := by decide +kernel
theorem dX10_isAtItsEnd_57 : decode cX10_isAtItsEnd 57 = .ok (.iload_n 1, 1) := by decide +kernel
theorem dX10_isAtItsEnd_58 : decode cX10_isAtItsEnd 58 = .ok (.invokevirtual 167, 3) := by decide +kernel
theorem dX10_isAtItsEnd_61 : decode cX10_isAtItsEnd 61 = .ok (.ifCond .eq 7, 3) := by decide +kernel
theorem dX10_isAtItsEnd_64 : decode cX10_isAtItsEnd 64 = .ok (.iconst 1, 1) := by decide +kernel
theorem dX10_isAtItsEnd_65 : decode cX10_isAtItsEnd 65 = .ok (.goto 4, 3) := by decide +kernel
theorem dX10_isAtItsEnd_68 : decode cX10_isAtItsEnd 68 = .ok (.iconst 0, 1) := by decide +kernel
theorem dX10_isAtItsEnd_69 : decode cX10_isAtItsEnd 69 = .ok (.ireturn, 1) := by decide +kernel
noncomputable def E_X10_isAtItsEnd : mE := (mX10_isAtItsEnd, [(43, [(0, (.aload_n 0, 1, false, false, 0, 0, 0, 0, 0, 0, [])), (1, (.getfield 26, 4, false, false, 13, 2, 1, 0, 0, 0, [])), (4, (.iload_n 1, 5, false, false, 1, 0, 0, 0, 0, 0, [])), (5, (.invokevirtual 161, 8, false, false, 195, 1, 1, 4, 0, 0, [])), (8, (.ifCond .eq 5, 11, false, false, 13, 0, 0, 0, 0, 0, [])), (11, (.iconst 0, 12, false, false, 0, 0, 0, 0, 0, 0, [])), (12, (.ireturn, 13, false, false, 0, 0, 1, 0, 0, 0, [])), (13, (.aload_n 0, 14, false, false, 0, 0, 0, 0, 0, 0, [])), (14, (.getfield 26, 17, false, false, 13, 2, 1, 0, 0, 0, [])), (17, (.iconst 0, 18, false, false, 0, 0, 0, 0, 0, 0, [])), (18, (.iload_n 1, 19, false, false, 1, 0, 0, 0, 0, 0, [])), (19, (.invokevirtual 167, 22, false, false, 102, 2, 1, 4, 0, 0, [])), (22, (.istore_n 2, 23, false, false, 2, 0, 0, 0, 0, 0, [])), (23, (.iload_n 2, 24, false, false, 2, 0, 0, 0, 0, 0, [])), (24, (.ifCond .ne 22, 27, false, true, 46, 0, 0, 0, 0, 0, [])), (27, (.aload_n 0, 28, false, false, 0, 0, 0, 0, 0, 0, [])), (28, (.getfield 26, 31, false, false, 13, 2, 1, 0, 0, 0, [])), (31, (.iconst 5, 32, false, false, 0, 0, 0, 0, 5, 0, [])), (32, (.iload_n 1, 33, false, false, 1, 0, 0, 0, 0, 0, [])), (33, (.invokevirtual 167, 36, false, false, 102, 2, 1, 4, 0, 0, [])), (36, (.aload_n 0, 37, false, false, 0, 0, 0, 0, 0, 0, [])), (37, (.getfield 9, 40, false, false, 13, 0, 1, 0, 0, 0, [])), (40, (.getfield 35, 43, false, false, 3, 7, 0, 0, 0, 0, [])), (43, (.if_icmp .le 21, 46, true, false, 64, 0, 0, 0, 0, 0, []))]),
  (69, [(46, (.iload_n 2, 47, false, false, 2, 0, 0, 0, 0, 0, [])), (47, (.iconst 1, 48, false, false, 0, 0, 0, 0, 1, 0, [])), (48, (.if_icmp .ne 20, 51, false, false, 68, 0, 0, 0, 0, 0, [])), (51, (.aload_n 0, 52, false, false, 0, 0, 0, 0, 0, 0, [])), (52, (.getfield 26, 55, false, false, 13, 2, 1, 0, 0, 0, [])), (55, (.bipush 10, 57, false, false, 0, 0, 0, 0, 10, 0, [])), (57, (.iload_n 1, 58, false, false, 1, 0, 0, 0, 0, 0, [])), (58, (.invokevirtual 167, 61, false, false, 102, 2, 1, 4, 0, 0, [])), (61, (.ifCond .eq 7, 64, false, false, 68, 0, 0, 0, 0, 0, [])), (64, (.iconst 1, 65, false, false, 0, 0, 0, 0, 1, 0, [])), (65, (.goto 4, 68, false, false, 69, 0, 0, 0, 0, 0, [])), (68, (.iconst 0, 69, false, false, 0, 0, 0, 0, 0, 0, [])), (69, (.ireturn, 70, false, false, 0, 0, 1, 0, 0, 0, []))])], 0, [])
set_option maxRecDepth 100000 in
theorem v_X10_isAtItsEnd : VE MYT dflT E_X10_isAtItsEnd := ⟨⟨⟨⟨⟨dX10_isAtItsEnd_0, rfl⟩, rfl⟩, ⟨⟨dX10_isAtItsEnd_1, rfl⟩, Or.inl ⟨by decide, _, _, fX10_26⟩⟩, ⟨⟨dX10_isAtItsEnd_4, rfl⟩, rfl⟩, ⟨⟨dX10_isAtItsEnd_5, rfl⟩, Or.inr ⟨by decide, ⟨_, my_195, sX10_161⟩, fun q => absurd q (by decide)⟩⟩, ⟨⟨dX10_isAtItsEnd_8, rfl⟩, rfl⟩, ⟨⟨dX10_isAtItsEnd_11, rfl⟩, rfl⟩, ⟨⟨dX10_isAtItsEnd_12, rfl⟩, Or.inr (Or.inl ⟨rfl, rfl⟩)⟩, ⟨⟨dX10_isAtItsEnd_13, rfl⟩, rfl⟩, ⟨⟨dX10_isAtItsEnd_14, rfl⟩, Or.inl ⟨by decide, _, _, fX10_26⟩⟩, ⟨⟨dX10_isAtItsEnd_17, rfl⟩, rfl⟩, ⟨⟨dX10_isAtItsEnd_18, rfl⟩, rfl⟩, ⟨⟨dX10_isAtItsEnd_19, rfl⟩, Or.inr ⟨by decide, ⟨_, my_102, sX10_167⟩, fun q => absurd q (by decide)⟩⟩, ⟨⟨dX10_isAtItsEnd_22, rfl⟩, rfl⟩, ⟨⟨dX10_isAtItsEnd_23, rfl⟩, rfl⟩, ⟨⟨dX10_isAtItsEnd_24, rfl⟩, rfl⟩, ⟨⟨dX10_isAtItsEnd_27, rfl⟩, rfl⟩, ⟨⟨dX10_isAtItsEnd_28, rfl⟩, Or.inl ⟨by decide, _, _, fX10_26⟩⟩, ⟨⟨dX10_isAtItsEnd_31, rfl⟩, rfl⟩, ⟨⟨dX10_isAtItsEnd_32, rfl⟩, rfl⟩, ⟨⟨dX10_isAtItsEnd_33, rfl⟩, Or.inr ⟨by decide, ⟨_, my_102, sX10_167⟩, fun q => absurd q (by decide)⟩⟩, ⟨⟨dX10_isAtItsEnd_36, rfl⟩, rfl⟩, ⟨⟨dX10_isAtItsEnd_37, rfl⟩, Or.inl ⟨by decide, _, _, fX10_9⟩⟩, ⟨⟨dX10_isAtItsEnd_40, rfl⟩, Or.inl ⟨by decide, _, _, fX10_35⟩⟩, ⟨⟨dX10_isAtItsEnd_43, rfl⟩, rfl⟩, trivial⟩,
  ⟨⟨⟨dX10_isAtItsEnd_46, rfl⟩, rfl⟩, ⟨⟨dX10_isAtItsEnd_47, rfl⟩, rfl⟩, ⟨⟨dX10_isAtItsEnd_48, rfl⟩, rfl⟩, ⟨⟨dX10_isAtItsEnd_51, rfl⟩, rfl⟩, ⟨⟨dX10_isAtItsEnd_52, rfl⟩, Or.inl ⟨by decide, _, _, fX10_26⟩⟩, ⟨⟨dX10_isAtItsEnd_55, rfl⟩, rfl⟩, ⟨⟨dX10_isAtItsEnd_57, rfl⟩, rfl⟩, ⟨⟨dX10_isAtItsEnd_58, rfl⟩, Or.inr ⟨by decide, ⟨_, my_102, sX10_167⟩, fun q => absurd q (by decide)⟩⟩, ⟨⟨dX10_isAtItsEnd_61, rfl⟩, rfl⟩, ⟨⟨dX10_isAtItsEnd_64, rfl⟩, rfl⟩, ⟨⟨dX10_isAtItsEnd_65, rfl⟩, rfl⟩, ⟨⟨dX10_isAtItsEnd_68, rfl⟩, rfl⟩, ⟨⟨dX10_isAtItsEnd_69, rfl⟩, Or.inr (Or.inl ⟨rfl, rfl⟩)⟩, trivial⟩, trivial⟩, by decide, Or.inl ⟨rfl, by decide, rfl⟩⟩
set_option maxRecDepth 100000 in
theorem g_X10_isAtItsEnd_0 (S : sT) (call : cT) (n : Nat) (a0 : Nat) (x1 : Int32) (h : pH) : bd S call dflT E_X10_isAtItsEnd (n + 1) 0 [some (.ref a0), some (.int x1), none] [] h = (gV h (.ref a0) 13 2 (fun w1 => rC h w1 4 (cI (call 195 [w1, .int x1] h) (fun y3 h2 => (if y3 = 0 then gV h2 (.ref a0) 13 2 (fun w4 => rC h2 w4 4 (cI (call 102 [w4, .int 0, .int x1] h2) (fun y6 h5 => (if y6 = 0 then gV h5 (.ref a0) 13 2 (fun w7 => rC h5 w7 4 (cI (call 102 [w7, .int 5, .int x1] h5) (fun y9 h8 => gV h8 (.ref a0) 13 0 (fun w10 => gI h8 w10 3 7 (fun y11 => (if y9 ≤ y11 then zR 1 (some (.inl (some (.int 1)), h8)) else bd S call dflT E_X10_isAtItsEnd n 46 [some (.ref a0), some (.int x1), some (.int y6)] [] h8)))))) else bd S call dflT E_X10_isAtItsEnd n 46 [some (.ref a0), some (.int x1), some (.int y6)] [] h5)))) else zR 0 (some (.inl (some (.int 0)), h2))))))) := rfl
set_option maxRecDepth 100000 in
theorem g_X10_isAtItsEnd_46 (S : sT) (call : cT) (n : Nat) (a0 : Nat) (x1 : Int32) (x2 : Int32) (h : pH) : bd S call dflT E_X10_isAtItsEnd (n + 1) 46 [some (.ref a0), some (.int x1), some (.int x2)] [] h = ((if x2 = 1 then gV h (.ref a0) 13 2 (fun w1 => rC h w1 4 (cI (call 102 [w1, .int 10, .int x1] h) (fun y3 h2 => (if y3 = 0 then zR 0 (some (.inl (some (.int 0)), h2)) else zR 1 (some (.inl (some (.int 1)), h2)))))) else zR 0 (some (.inl (some (.int 0)), h)))) := rfl
theorem dX10_goOut_0 : decode cX10_goOut 0 = .ok (.aload_n 0, 1) := by decide +kernel
theorem dX10_goOut_1 : decode cX10_goOut 1 = .ok (.getfield 26, 3) := by decide +kernel
theorem dX10_goOut_4 : decode cX10_goOut 4 = .ok (.iconst 3, 1) := by decide +kernel
theorem dX10_goOut_5 : decode cX10_goOut 5 = .ok (.iload_n 1, 1) := by decide +kernel
theorem dX10_goOut_6 : decode cX10_goOut 6 = .ok (.invokevirtual 167, 3) := by decide +kernel
theorem dX10_goOut_9 : decode cX10_goOut 9 = .ok (.i2l, 1) := by decide +kernel
theorem dX10_goOut_10 : decode cX10_goOut 10 = .ok (.aload_n 0, 1) := by decide +kernel
theorem dX10_goOut_11 : decode cX10_goOut 11 = .ok (.getfield 26, 3) := by decide +kernel
theorem dX10_goOut_14 : decode cX10_goOut 14 = .ok (.iconst 4, 1) := by decide +kernel
theorem dX10_goOut_15 : decode cX10_goOut 15 = .ok (.iload_n 1, 1) := by decide +kernel
theorem dX10_goOut_16 : decode cX10_goOut 16 = .ok (.invokevirtual 167, 3) := by decide +kernel
theorem dX10_goOut_19 : decode cX10_goOut 19 = .ok (.i2l, 1) := by decide +kernel
theorem dX10_goOut_20 : decode cX10_goOut 20 = .ok (.ladd, 1) := by decide +kernel
theorem dX10_goOut_21 : decode cX10_goOut 21 = .ok (.lstore_n 2, 1) := by decide +kernel
theorem dX10_goOut_22 : decode cX10_goOut 22 = .ok (.lconst 0, 1) := by decide +kernel
theorem dX10_goOut_23 : decode cX10_goOut 23 = .ok (.aload_n 0, 1) := by decide +kernel
theorem dX10_goOut_24 : decode cX10_goOut 24 = .ok (.getfield 9, 3) := by decide +kernel
theorem dX10_goOut_27 : decode cX10_goOut 27 = .ok (.iload_n 1, 1) := by decide +kernel
theorem dX10_goOut_28 : decode cX10_goOut 28 = .ok (.invokevirtual 236, 3) := by decide +kernel
theorem dX10_goOut_31 : decode cX10_goOut 31 = .ok (.i2l, 1) := by decide +kernel
theorem dX10_goOut_32 : decode cX10_goOut 32 = .ok (.lload_n 2, 1) := by decide +kernel
theorem dX10_goOut_33 : decode cX10_goOut 33 = .ok (.lsub, 1) := by decide +kernel
theorem dX10_goOut_34 : decode cX10_goOut 34 = .ok (.invokestatic 239, 3) := by decide +kernel
theorem dX10_goOut_37 : decode cX10_goOut 37 = .ok (.l2i, 1) := by decide +kernel
theorem dX10_goOut_38 : decode cX10_goOut 38 = .ok (.istore 4, 2) := by decide +kernel
theorem dX10_goOut_40 : decode cX10_goOut 40 = .ok (.aload_n 0, 1) := by decide +kernel
theorem dX10_goOut_41 : decode cX10_goOut 41 = .ok (.getfield 31, 3) := by decide +kernel
theorem dX10_goOut_44 : decode cX10_goOut 44 = .ok (.iload 4, 2) := by decide +kernel
theorem dX10_goOut_46 : decode cX10_goOut 46 = .ok (.ineg, 1) := by decide +kernel
theorem dX10_goOut_47 : decode cX10_goOut 47 = .ok (.i2l, 1) := by decide +kernel
theorem dX10_goOut_48 : decode cX10_goOut 48 = .ok (.invokevirtual 154, 3) := by decide +kernel
theorem dX10_goOut_51 : decode cX10_goOut 51 = .ok (.aload_n 0, 1) := by decide +kernel
theorem dX10_goOut_52 : decode cX10_goOut 52 = .ok (.getfield 26, 3) := by decide +kernel
theorem dX10_goOut_55 : decode cX10_goOut 55 = .ok (.bipush 9, 2) := by decide +kernel
theorem dX10_goOut_57 : decode cX10_goOut 57 = .ok (.iload_n 1, 1) := by decide +kernel
theorem dX10_goOut_58 : decode cX10_goOut 58 = .ok (.iload 4, 2) := by decide +kernel
theorem dX10_goOut_60 : decode cX10_goOut 60 = .ok (.invokevirtual 185, 3) := by decide +kernel
theorem dX10_goOut_63 : decode cX10_goOut 63 = .ok (.aload_n 0, 1) := by decide +kernel
theorem dX10_goOut_64 : decode cX10_goOut 64 = .ok (.getfield 26, 3) := by decide +kernel
theorem dX10_goOut_67 : decode cX10_goOut 67 = .ok (.iconst 3, 1) := by decide +kernel
theorem dX10_goOut_68 : decode cX10_goOut 68 = .ok (.iload_n 1, 1) := by decide +kernel
theorem dX10_goOut_69 : decode cX10_goOut 69 = .ok (.iconst 0, 1) := by decide +kernel
theorem dX10_goOut_70 : decode cX10_goOut 70 = .ok (.invokevirtual 185, 3) := by decide +kernel
theorem dX10_goOut_73 : decode cX10_goOut 73 = .ok (.aload_n 0, 1) := by decide +kernel
theorem dX10_goOut_74 : decode cX10_goOut 74 = .ok (.getfield 26, 3) := by decide +kernel
theorem dX10_goOut_77 : decode cX10_goOut 77 = .ok (.iconst 4, 1) := by decide +kernel
theorem dX10_goOut_78 : decode cX10_goOut 78 = .ok (.iload_n 1, 1) := by decide +kernel
theorem dX10_goOut_79 : decode cX10_goOut 79 = .ok (.iconst 0, 1) := by decide +kernel
theorem dX10_goOut_80 : decode cX10_goOut 80 = .ok (.invokevirtual 185, 3) := by decide +kernel
theorem dX10_goOut_83 : decode cX10_goOut 83 = .ok (.aload_n 0, 1) := by decide +kernel
theorem dX10_goOut_84 : decode cX10_goOut 84 = .ok (.getfield 9, 3) := by decide +kernel
theorem dX10_goOut_87 : decode cX10_goOut 87 = .ok (.iload_n 1, 1) := by decide +kernel
theorem dX10_goOut_88 : decode cX10_goOut 88 = .ok (.invokevirtual 241, 3) := by decide +kernel
theorem dX10_goOut_91 : decode cX10_goOut 91 = .ok (.return_, 1) := by decide +kernel
noncomputable def E_X10_goOut : mE := (mX10_goOut, [(37, [(0, (.aload_n 0, 1, false, false, 0, 0, 0, 0, 0, 0, [])), (1, (.getfield 26, 4, false, false, 13, 2, 1, 0, 0, 0, [])), (4, (.iconst 3, 5, false, false, 0, 0, 0, 0, 3, 0, [])), (5, (.iload_n 1, 6, false, false, 1, 0, 0, 0, 0, 0, [])), (6, (.invokevirtual 167, 9, false, false, 102, 2, 1, 4, 0, 0, [])), (9, (.i2l, 10, false, false, 0, 0, 0, 0, 0, 0, [])), (10, (.aload_n 0, 11, false, false, 0, 0, 0, 0, 0, 0, [])), (11, (.getfield 26, 14, false, false, 13, 2, 1, 0, 0, 0, [])), (14, (.iconst 4, 15, false, false, 0, 0, 0, 0, 4, 0, [])), (15, (.iload_n 1, 16, false, false, 1, 0, 0, 0, 0, 0, [])), (16, (.invokevirtual 167, 19, false, false, 102, 2, 1, 4, 0, 0, [])), (19, (.i2l, 20, false, false, 0, 0, 0, 0, 0, 0, [])), (20, (.ladd, 21, false, false, 0, 0, 0, 0, 0, 0, [])), (21, (.lstore_n 2, 22, false, false, 2, 3, 0, 0, 0, 0, [])), (22, (.lconst 0, 23, false, false, 0, 0, 0, 0, 0, 0, [])), (23, (.aload_n 0, 24, false, false, 0, 0, 0, 0, 0, 0, [])), (24, (.getfield 9, 27, false, false, 13, 0, 1, 0, 0, 0, [])), (27, (.iload_n 1, 28, false, false, 1, 0, 0, 0, 0, 0, [])), (28, (.invokevirtual 236, 31, false, false, 225, 1, 1, 3, 0, 0, [])), (31, (.i2l, 32, false, false, 0, 0, 0, 0, 0, 0, [])), (32, (.lload_n 2, 33, false, false, 2, 0, 0, 0, 0, 0, [])), (33, (.lsub, 34, false, false, 0, 0, 0, 0, 0, 0, [])), (34, (.invokestatic 239, 37, false, false, 0, 2, 2, 7, 0, 0, [])), (37, (.l2i, 38, false, false, 0, 0, 0, 0, 0, 0, []))]),
  (79, [(38, (.istore 4, 40, false, false, 4, 0, 0, 0, 0, 0, [])), (40, (.aload_n 0, 41, false, false, 0, 0, 0, 0, 0, 0, [])), (41, (.getfield 31, 44, false, false, 13, 3, 1, 0, 0, 0, [])), (44, (.iload 4, 46, false, false, 4, 0, 0, 0, 0, 0, [])), (46, (.ineg, 47, false, false, 0, 0, 0, 0, 0, 0, [])), (47, (.i2l, 48, false, false, 0, 0, 0, 0, 0, 0, [])), (48, (.invokevirtual 154, 51, false, false, 191, 1, 0, 6, 0, 0, [])), (51, (.aload_n 0, 52, false, false, 0, 0, 0, 0, 0, 0, [])), (52, (.getfield 26, 55, false, false, 13, 2, 1, 0, 0, 0, [])), (55, (.bipush 9, 57, false, false, 0, 0, 0, 0, 9, 0, [])), (57, (.iload_n 1, 58, false, false, 1, 0, 0, 0, 0, 0, [])), (58, (.iload 4, 60, false, false, 4, 0, 0, 0, 0, 0, [])), (60, (.invokevirtual 185, 63, false, false, 100, 3, 0, 4, 0, 0, [])), (63, (.aload_n 0, 64, false, false, 0, 0, 0, 0, 0, 0, [])), (64, (.getfield 26, 67, false, false, 13, 2, 1, 0, 0, 0, [])), (67, (.iconst 3, 68, false, false, 0, 0, 0, 0, 3, 0, [])), (68, (.iload_n 1, 69, false, false, 1, 0, 0, 0, 0, 0, [])), (69, (.iconst 0, 70, false, false, 0, 0, 0, 0, 0, 0, [])), (70, (.invokevirtual 185, 73, false, false, 100, 3, 0, 4, 0, 0, [])), (73, (.aload_n 0, 74, false, false, 0, 0, 0, 0, 0, 0, [])), (74, (.getfield 26, 77, false, false, 13, 2, 1, 0, 0, 0, [])), (77, (.iconst 4, 78, false, false, 0, 0, 0, 0, 4, 0, [])), (78, (.iload_n 1, 79, false, false, 1, 0, 0, 0, 0, 0, [])), (79, (.iconst 0, 80, false, false, 0, 0, 0, 0, 0, 0, []))]),
  (91, [(80, (.invokevirtual 185, 83, false, false, 100, 3, 0, 4, 0, 0, [])), (83, (.aload_n 0, 84, false, false, 0, 0, 0, 0, 0, 0, [])), (84, (.getfield 9, 87, false, false, 13, 0, 1, 0, 0, 0, [])), (87, (.iload_n 1, 88, false, false, 1, 0, 0, 0, 0, 0, [])), (88, (.invokevirtual 241, 91, false, false, 175, 1, 0, 3, 0, 0, [])), (91, (.return_, 92, false, false, 0, 0, 0, 0, 0, 0, []))])], 0, [])
set_option maxRecDepth 100000 in
theorem v_X10_goOut : VE MYT dflT E_X10_goOut := ⟨⟨⟨⟨⟨dX10_goOut_0, rfl⟩, rfl⟩, ⟨⟨dX10_goOut_1, rfl⟩, Or.inl ⟨by decide, _, _, fX10_26⟩⟩, ⟨⟨dX10_goOut_4, rfl⟩, rfl⟩, ⟨⟨dX10_goOut_5, rfl⟩, rfl⟩, ⟨⟨dX10_goOut_6, rfl⟩, Or.inr ⟨by decide, ⟨_, my_102, sX10_167⟩, fun q => absurd q (by decide)⟩⟩, ⟨⟨dX10_goOut_9, rfl⟩, trivial⟩, ⟨⟨dX10_goOut_10, rfl⟩, rfl⟩, ⟨⟨dX10_goOut_11, rfl⟩, Or.inl ⟨by decide, _, _, fX10_26⟩⟩, ⟨⟨dX10_goOut_14, rfl⟩, rfl⟩, ⟨⟨dX10_goOut_15, rfl⟩, rfl⟩, ⟨⟨dX10_goOut_16, rfl⟩, Or.inr ⟨by decide, ⟨_, my_102, sX10_167⟩, fun q => absurd q (by decide)⟩⟩, ⟨⟨dX10_goOut_19, rfl⟩, trivial⟩, ⟨⟨dX10_goOut_20, rfl⟩, trivial⟩, ⟨⟨dX10_goOut_21, rfl⟩, ⟨rfl, rfl⟩⟩, ⟨⟨dX10_goOut_22, rfl⟩, rfl⟩, ⟨⟨dX10_goOut_23, rfl⟩, rfl⟩, ⟨⟨dX10_goOut_24, rfl⟩, Or.inl ⟨by decide, _, _, fX10_9⟩⟩, ⟨⟨dX10_goOut_27, rfl⟩, rfl⟩, ⟨⟨dX10_goOut_28, rfl⟩, Or.inr ⟨by decide, ⟨_, my_225, sX10_236⟩, fun q => absurd q (by decide)⟩⟩, ⟨⟨dX10_goOut_31, rfl⟩, trivial⟩, ⟨⟨dX10_goOut_32, rfl⟩, rfl⟩, ⟨⟨dX10_goOut_33, rfl⟩, trivial⟩, ⟨⟨dX10_goOut_34, rfl⟩, Or.inr (Or.inr (Or.inr (Or.inr (Or.inr (Or.inr (Or.inl ⟨rfl, sX10_239⟩))))))⟩, ⟨⟨dX10_goOut_37, rfl⟩, trivial⟩, trivial⟩,
  ⟨⟨⟨dX10_goOut_38, rfl⟩, rfl⟩, ⟨⟨dX10_goOut_40, rfl⟩, rfl⟩, ⟨⟨dX10_goOut_41, rfl⟩, Or.inl ⟨by decide, _, _, fX10_31⟩⟩, ⟨⟨dX10_goOut_44, rfl⟩, rfl⟩, ⟨⟨dX10_goOut_46, rfl⟩, trivial⟩, ⟨⟨dX10_goOut_47, rfl⟩, trivial⟩, ⟨⟨dX10_goOut_48, rfl⟩, Or.inr ⟨by decide, ⟨_, my_191, sX10_154⟩, fun q => absurd q (by decide)⟩⟩, ⟨⟨dX10_goOut_51, rfl⟩, rfl⟩, ⟨⟨dX10_goOut_52, rfl⟩, Or.inl ⟨by decide, _, _, fX10_26⟩⟩, ⟨⟨dX10_goOut_55, rfl⟩, rfl⟩, ⟨⟨dX10_goOut_57, rfl⟩, rfl⟩, ⟨⟨dX10_goOut_58, rfl⟩, rfl⟩, ⟨⟨dX10_goOut_60, rfl⟩, Or.inr ⟨by decide, ⟨_, my_100, sX10_185⟩, fun q => absurd q (by decide)⟩⟩, ⟨⟨dX10_goOut_63, rfl⟩, rfl⟩, ⟨⟨dX10_goOut_64, rfl⟩, Or.inl ⟨by decide, _, _, fX10_26⟩⟩, ⟨⟨dX10_goOut_67, rfl⟩, rfl⟩, ⟨⟨dX10_goOut_68, rfl⟩, rfl⟩, ⟨⟨dX10_goOut_69, rfl⟩, rfl⟩, ⟨⟨dX10_goOut_70, rfl⟩, Or.inr ⟨by decide, ⟨_, my_100, sX10_185⟩, fun q => absurd q (by decide)⟩⟩, ⟨⟨dX10_goOut_73, rfl⟩, rfl⟩, ⟨⟨dX10_goOut_74, rfl⟩, Or.inl ⟨by decide, _, _, fX10_26⟩⟩, ⟨⟨dX10_goOut_77, rfl⟩, rfl⟩, ⟨⟨dX10_goOut_78, rfl⟩, rfl⟩, ⟨⟨dX10_goOut_79, rfl⟩, rfl⟩, trivial⟩,
  ⟨⟨⟨dX10_goOut_80, rfl⟩, Or.inr ⟨by decide, ⟨_, my_100, sX10_185⟩, fun q => absurd q (by decide)⟩⟩, ⟨⟨dX10_goOut_83, rfl⟩, rfl⟩, ⟨⟨dX10_goOut_84, rfl⟩, Or.inl ⟨by decide, _, _, fX10_9⟩⟩, ⟨⟨dX10_goOut_87, rfl⟩, rfl⟩, ⟨⟨dX10_goOut_88, rfl⟩, Or.inr ⟨by decide, ⟨_, my_175, sX10_241⟩, fun q => absurd q (by decide)⟩⟩, ⟨⟨dX10_goOut_91, rfl⟩, rfl⟩, trivial⟩, trivial⟩, by decide, Or.inl ⟨rfl, by decide, rfl⟩⟩
set_option maxRecDepth 100000 in
theorem g_X10_goOut_0 (S : sT) (call : cT) (n : Nat) (a0 : Nat) (x1 : Int32) (h : pH) : bd S call dflT E_X10_goOut (n + 1) 0 [some (.ref a0), some (.int x1), none, none, none] [] h = (gV h (.ref a0) 13 2 (fun w1 => rC h w1 4 (cI (call 102 [w1, .int 3, .int x1] h) (fun y3 h2 => gV h2 (.ref a0) 13 2 (fun w4 => rC h2 w4 4 (cI (call 102 [w4, .int 4, .int x1] h2) (fun y6 h5 => gV h5 (.ref a0) 13 0 (fun w7 => rC h5 w7 3 (cI (call 225 [w7, .int x1] h5) (fun y9 h8 => gV h8 (.ref a0) 13 3 (fun w10 => rC h8 w10 6 (cU (call 191 [w10, .long (-(if (y9.toInt64 - (y3.toInt64 + y6.toInt64)) < (0 : Int64) then (0 : Int64) else (y9.toInt64 - (y3.toInt64 + y6.toInt64))).toInt32).toInt64] h8) (fun h11 => gV h11 (.ref a0) 13 2 (fun w12 => rC h11 w12 4 (cU (call 100 [w12, .int 9, .int x1, .int (if (y9.toInt64 - (y3.toInt64 + y6.toInt64)) < (0 : Int64) then (0 : Int64) else (y9.toInt64 - (y3.toInt64 + y6.toInt64))).toInt32] h11) (fun h13 => gV h13 (.ref a0) 13 2 (fun w14 => rC h13 w14 4 (cU (call 100 [w14, .int 3, .int x1, .int 0] h13) (fun h15 => gV h15 (.ref a0) 13 2 (fun w16 => rC h15 w16 4 (cU (call 100 [w16, .int 4, .int x1, .int 0] h15) (fun h17 => gV h17 (.ref a0) 13 0 (fun w18 => rC h17 w18 3 (cU (call 175 [w18, .int x1] h17) (fun h19 => some (.inl none, h19)))))))))))))))))))))))))) := rfl
theorem dX10_endLeases_0 : decode cX10_endLeases 0 = .ok (.iconst 0, 1) := by decide +kernel
theorem dX10_endLeases_1 : decode cX10_endLeases 1 = .ok (.istore_n 1, 1) := by decide +kernel
theorem dX10_endLeases_2 : decode cX10_endLeases 2 = .ok (.iload_n 1, 1) := by decide +kernel
theorem dX10_endLeases_3 : decode cX10_endLeases 3 = .ok (.aload_n 0, 1) := by decide +kernel
theorem dX10_endLeases_4 : decode cX10_endLeases 4 = .ok (.getfield 26, 3) := by decide +kernel
theorem dX10_endLeases_7 : decode cX10_endLeases 7 = .ok (.getfield 158, 3) := by decide +kernel
theorem dX10_endLeases_10 : decode cX10_endLeases 10 = .ok (.if_icmp .ge 22, 3) := by decide +kernel
theorem dX10_endLeases_13 : decode cX10_endLeases 13 = .ok (.aload_n 0, 1) := by decide +kernel
theorem dX10_endLeases_14 : decode cX10_endLeases 14 = .ok (.iload_n 1, 1) := by decide +kernel
theorem dX10_endLeases_15 : decode cX10_endLeases 15 = .ok (.invokevirtual 230, 3) := by decide +kernel
theorem dX10_endLeases_18 : decode cX10_endLeases 18 = .ok (.ifCond .eq 8, 3) := by decide +kernel
theorem dX10_endLeases_21 : decode cX10_endLeases 21 = .ok (.aload_n 0, 1) := by decide +kernel
theorem dX10_endLeases_22 : decode cX10_endLeases 22 = .ok (.iload_n 1, 1) := by decide +kernel
theorem dX10_endLeases_23 : decode cX10_endLeases 23 = .ok (.invokevirtual 233, 3) := by decide +kernel
theorem dX10_endLeases_26 : decode cX10_endLeases 26 = .ok (.iinc 1 1, 3) := by decide +kernel
theorem dX10_endLeases_29 : decode cX10_endLeases 29 = .ok (.goto (-27), 3) := by decide +kernel
theorem dX10_endLeases_32 : decode cX10_endLeases 32 = .ok (.return_, 1) := by decide +kernel
noncomputable def E_X10_endLeases : mE := (mX10_endLeases, [(32, [(0, (.iconst 0, 1, false, false, 0, 0, 0, 0, 0, 0, [])), (1, (.istore_n 1, 2, true, false, 1, 0, 0, 0, 0, 0, [])), (2, (.iload_n 1, 3, false, false, 1, 0, 0, 0, 0, 0, [])), (3, (.aload_n 0, 4, false, false, 0, 0, 0, 0, 0, 0, [])), (4, (.getfield 26, 7, false, false, 13, 2, 1, 0, 0, 0, [])), (7, (.getfield 158, 10, false, false, 4, 0, 0, 0, 0, 0, [])), (10, (.if_icmp .ge 22, 13, false, false, 32, 0, 0, 0, 0, 0, [])), (13, (.aload_n 0, 14, false, false, 0, 0, 0, 0, 0, 0, [])), (14, (.iload_n 1, 15, false, false, 1, 0, 0, 0, 0, 0, [])), (15, (.invokevirtual 230, 18, false, false, 222, 1, 1, 13, 0, 0, [])), (18, (.ifCond .eq 8, 21, false, false, 26, 0, 0, 0, 0, 0, [])), (21, (.aload_n 0, 22, false, false, 0, 0, 0, 0, 0, 0, [])), (22, (.iload_n 1, 23, false, false, 1, 0, 0, 0, 0, 0, [])), (23, (.invokevirtual 233, 26, false, false, 226, 1, 0, 13, 0, 0, [])), (26, (.iinc 1 1, 29, false, false, 1, 0, 0, 0, 1, 0, [])), (29, (.goto (-27), 32, false, true, 2, 0, 0, 0, 0, 0, [])), (32, (.return_, 33, false, false, 0, 0, 0, 0, 0, 0, []))])], 0, [])
set_option maxRecDepth 100000 in
theorem v_X10_endLeases : VE MYT dflT E_X10_endLeases := ⟨⟨⟨⟨⟨dX10_endLeases_0, rfl⟩, rfl⟩, ⟨⟨dX10_endLeases_1, rfl⟩, rfl⟩, ⟨⟨dX10_endLeases_2, rfl⟩, rfl⟩, ⟨⟨dX10_endLeases_3, rfl⟩, rfl⟩, ⟨⟨dX10_endLeases_4, rfl⟩, Or.inl ⟨by decide, _, _, fX10_26⟩⟩, ⟨⟨dX10_endLeases_7, rfl⟩, Or.inl ⟨by decide, _, _, fX10_158⟩⟩, ⟨⟨dX10_endLeases_10, rfl⟩, rfl⟩, ⟨⟨dX10_endLeases_13, rfl⟩, rfl⟩, ⟨⟨dX10_endLeases_14, rfl⟩, rfl⟩, ⟨⟨dX10_endLeases_15, rfl⟩, Or.inr ⟨by decide, ⟨_, my_222, sX10_230⟩, fun q => absurd q (by decide)⟩⟩, ⟨⟨dX10_endLeases_18, rfl⟩, rfl⟩, ⟨⟨dX10_endLeases_21, rfl⟩, rfl⟩, ⟨⟨dX10_endLeases_22, rfl⟩, rfl⟩, ⟨⟨dX10_endLeases_23, rfl⟩, Or.inr ⟨by decide, ⟨_, my_226, sX10_233⟩, fun q => absurd q (by decide)⟩⟩, ⟨⟨dX10_endLeases_26, rfl⟩, ⟨rfl, rfl⟩⟩, ⟨⟨dX10_endLeases_29, rfl⟩, rfl⟩, ⟨⟨dX10_endLeases_32, rfl⟩, rfl⟩, trivial⟩, trivial⟩, by decide, Or.inl ⟨rfl, by decide, rfl⟩⟩
set_option maxRecDepth 100000 in
theorem g_X10_endLeases_0 (S : sT) (call : cT) (n : Nat) (a0 : Nat) (h : pH) : bd S call dflT E_X10_endLeases (n + 1) 0 [some (.ref a0), none] [] h = (bd S call dflT E_X10_endLeases n 2 [some (.ref a0), some (.int 0)] [] h) := rfl
set_option maxRecDepth 100000 in
theorem g_X10_endLeases_2 (S : sT) (call : cT) (n : Nat) (a0 : Nat) (x1 : Int32) (h : pH) : bd S call dflT E_X10_endLeases (n + 1) 2 [some (.ref a0), some (.int x1)] [] h = (gV h (.ref a0) 13 2 (fun w1 => gI h w1 4 0 (fun y2 => (if y2 ≤ x1 then some (.inl none, h) else rC h (.ref a0) 13 (cI (call 222 [.ref a0, .int x1] h) (fun y4 h3 => (if y4 = 0 then bd S call dflT E_X10_endLeases n 2 [some (.ref a0), some (.int (x1 + 1))] [] h3 else rC h3 (.ref a0) 13 (cU (call 226 [.ref a0, .int x1] h3) (fun h5 => bd S call dflT E_X10_endLeases n 2 [some (.ref a0), some (.int (x1 + 1))] [] h5))))))))) := rfl
theorem dX10_pass_0 : decode cX10_pass 0 = .ok (.aload_n 0, 1) := by decide +kernel
theorem dX10_pass_1 : decode cX10_pass 1 = .ok (.getfield 9, 3) := by decide +kernel
theorem dX10_pass_4 : decode cX10_pass 4 = .ok (.invokevirtual 32, 3) := by decide +kernel
theorem dX10_pass_7 : decode cX10_pass 7 = .ok (.aload_n 0, 1) := by decide +kernel
theorem dX10_pass_8 : decode cX10_pass 8 = .ok (.getfield 9, 3) := by decide +kernel
theorem dX10_pass_11 : decode cX10_pass 11 = .ok (.getfield 35, 3) := by decide +kernel
theorem dX10_pass_14 : decode cX10_pass 14 = .ok (.iconst 4, 1) := by decide +kernel
theorem dX10_pass_15 : decode cX10_pass 15 = .ok (.irem, 1) := by decide +kernel
theorem dX10_pass_16 : decode cX10_pass 16 = .ok (.tableswitch 49 0 2 #[28, 35, 42], 28) := by decide +kernel
theorem dX10_pass_44 : decode cX10_pass 44 = .ok (.aload_n 0, 1) := by decide +kernel
theorem dX10_pass_45 : decode cX10_pass 45 = .ok (.invokevirtual 39, 3) := by decide +kernel
theorem dX10_pass_48 : decode cX10_pass 48 = .ok (.goto 54, 3) := by decide +kernel
theorem dX10_pass_51 : decode cX10_pass 51 = .ok (.aload_n 0, 1) := by decide +kernel
theorem dX10_pass_52 : decode cX10_pass 52 = .ok (.invokevirtual 42, 3) := by decide +kernel
theorem dX10_pass_55 : decode cX10_pass 55 = .ok (.goto 47, 3) := by decide +kernel
theorem dX10_pass_58 : decode cX10_pass 58 = .ok (.aload_n 0, 1) := by decide +kernel
theorem dX10_pass_59 : decode cX10_pass 59 = .ok (.invokevirtual 45, 3) := by decide +kernel
theorem dX10_pass_62 : decode cX10_pass 62 = .ok (.goto 40, 3) := by decide +kernel
theorem dX10_pass_65 : decode cX10_pass 65 = .ok (.aload_n 0, 1) := by decide +kernel
theorem dX10_pass_66 : decode cX10_pass 66 = .ok (.invokevirtual 48, 3) := by decide +kernel
theorem dX10_pass_69 : decode cX10_pass 69 = .ok (.aload_n 0, 1) := by decide +kernel
theorem dX10_pass_70 : decode cX10_pass 70 = .ok (.invokevirtual 51, 3) := by decide +kernel
theorem dX10_pass_73 : decode cX10_pass 73 = .ok (.aload_n 0, 1) := by decide +kernel
theorem dX10_pass_74 : decode cX10_pass 74 = .ok (.invokevirtual 54, 3) := by decide +kernel
theorem dX10_pass_77 : decode cX10_pass 77 = .ok (.aload_n 0, 1) := by decide +kernel
theorem dX10_pass_78 : decode cX10_pass 78 = .ok (.getfield 31, 3) := by decide +kernel
theorem dX10_pass_81 : decode cX10_pass 81 = .ok (.invokevirtual 57, 3) := by decide +kernel
theorem dX10_pass_84 : decode cX10_pass 84 = .ok (.aload_n 0, 1) := by decide +kernel
theorem dX10_pass_85 : decode cX10_pass 85 = .ok (.getfield 31, 3) := by decide +kernel
theorem dX10_pass_88 : decode cX10_pass 88 = .ok (.aload_n 0, 1) := by decide +kernel
theorem dX10_pass_89 : decode cX10_pass 89 = .ok (.getfield 9, 3) := by decide +kernel
theorem dX10_pass_92 : decode cX10_pass 92 = .ok (.invokevirtual 62, 3) := by decide +kernel
theorem dX10_pass_95 : decode cX10_pass 95 = .ok (.invokevirtual 66, 3) := by decide +kernel
theorem dX10_pass_98 : decode cX10_pass 98 = .ok (.aload_n 0, 1) := by decide +kernel
theorem dX10_pass_99 : decode cX10_pass 99 = .ok (.invokevirtual 70, 3) := by decide +kernel
theorem dX10_pass_102 : decode cX10_pass 102 = .ok (.aload_n 0, 1) := by decide +kernel
theorem dX10_pass_103 : decode cX10_pass 103 = .ok (.getfield 9, 3) := by decide +kernel
theorem dX10_pass_106 : decode cX10_pass 106 = .ok (.dup, 1) := by decide +kernel
theorem dX10_pass_107 : decode cX10_pass 107 = .ok (.getfield 35, 3) := by decide +kernel
theorem dX10_pass_110 : decode cX10_pass 110 = .ok (.iconst 1, 1) := by decide +kernel
theorem dX10_pass_111 : decode cX10_pass 111 = .ok (.iadd, 1) := by decide +kernel
theorem dX10_pass_112 : decode cX10_pass 112 = .ok (.putfield 35, 3) := by decide +kernel
theorem dX10_pass_115 : decode cX10_pass 115 = .ok (.return_, 1) := by decide +kernel
noncomputable def E_X10_pass : mE := (mX10_pass, [(74, [(0, (.aload_n 0, 1, false, false, 0, 0, 0, 0, 0, 0, [])), (1, (.getfield 9, 4, false, false, 13, 0, 1, 0, 0, 0, [])), (4, (.invokevirtual 32, 7, false, false, 182, 0, 0, 3, 0, 0, [])), (7, (.aload_n 0, 8, false, false, 0, 0, 0, 0, 0, 0, [])), (8, (.getfield 9, 11, false, false, 13, 0, 1, 0, 0, 0, [])), (11, (.getfield 35, 14, false, false, 3, 7, 0, 0, 0, 0, [])), (14, (.iconst 4, 15, false, false, 0, 0, 0, 0, 4, 0, [])), (15, (.irem, 16, false, false, 0, 0, 0, 0, 0, 0, [])), (16, (.tableswitch 49 0 2 #[28, 35, 42], 0, false, false, 65, 0, 0, 0, 0, 0, [(0, 44), (1, 51), (2, 58)])), (44, (.aload_n 0, 45, false, false, 0, 0, 0, 0, 0, 0, [])), (45, (.invokevirtual 39, 48, false, false, 188, 0, 0, 13, 0, 0, [])), (48, (.goto 54, 51, false, false, 102, 0, 0, 0, 0, 0, [])), (51, (.aload_n 0, 52, false, false, 0, 0, 0, 0, 0, 0, [])), (52, (.invokevirtual 42, 55, false, false, 194, 0, 0, 13, 0, 0, [])), (55, (.goto 47, 58, false, false, 102, 0, 0, 0, 0, 0, [])), (58, (.aload_n 0, 59, false, false, 0, 0, 0, 0, 0, 0, [])), (59, (.invokevirtual 45, 62, false, false, 206, 0, 0, 13, 0, 0, [])), (62, (.goto 40, 65, false, false, 102, 0, 0, 0, 0, 0, [])), (65, (.aload_n 0, 66, false, false, 0, 0, 0, 0, 0, 0, [])), (66, (.invokevirtual 48, 69, false, false, 209, 0, 0, 13, 0, 0, [])), (69, (.aload_n 0, 70, false, false, 0, 0, 0, 0, 0, 0, [])), (70, (.invokevirtual 51, 73, false, false, 210, 0, 0, 13, 0, 0, [])), (73, (.aload_n 0, 74, false, false, 0, 0, 0, 0, 0, 0, [])), (74, (.invokevirtual 54, 77, false, false, 215, 0, 0, 13, 0, 0, []))]),
  (115, [(77, (.aload_n 0, 78, false, false, 0, 0, 0, 0, 0, 0, [])), (78, (.getfield 31, 81, false, false, 13, 3, 1, 0, 0, 0, [])), (81, (.invokevirtual 57, 84, false, false, 216, 0, 0, 6, 0, 0, [])), (84, (.aload_n 0, 85, false, false, 0, 0, 0, 0, 0, 0, [])), (85, (.getfield 31, 88, false, false, 13, 3, 1, 0, 0, 0, [])), (88, (.aload_n 0, 89, false, false, 0, 0, 0, 0, 0, 0, [])), (89, (.getfield 9, 92, false, false, 13, 0, 1, 0, 0, 0, [])), (92, (.invokevirtual 62, 95, false, false, 220, 0, 1, 3, 0, 0, [])), (95, (.invokevirtual 66, 98, false, false, 221, 1, 0, 6, 0, 0, [])), (98, (.aload_n 0, 99, false, false, 0, 0, 0, 0, 0, 0, [])), (99, (.invokevirtual 70, 102, false, false, 227, 0, 0, 13, 0, 0, [])), (102, (.aload_n 0, 103, false, false, 0, 0, 0, 0, 0, 0, [])), (103, (.getfield 9, 106, false, false, 13, 0, 1, 0, 0, 0, [])), (106, (.dup, 107, false, false, 0, 0, 0, 0, 0, 0, [])), (107, (.getfield 35, 110, false, false, 3, 7, 0, 0, 0, 0, [])), (110, (.iconst 1, 111, false, false, 0, 0, 0, 0, 1, 0, [])), (111, (.iadd, 112, false, false, 0, 0, 0, 0, 0, 0, [])), (112, (.putfield 35, 115, false, false, 3, 7, 0, 0, 0, 0, [])), (115, (.return_, 116, false, false, 0, 0, 0, 0, 0, 0, []))])], 0, [])
set_option maxRecDepth 100000 in
theorem v_X10_pass : VE MYT dflT E_X10_pass := ⟨⟨⟨⟨⟨dX10_pass_0, rfl⟩, rfl⟩, ⟨⟨dX10_pass_1, rfl⟩, Or.inl ⟨by decide, _, _, fX10_9⟩⟩, ⟨⟨dX10_pass_4, rfl⟩, Or.inr ⟨by decide, ⟨_, my_182, sX10_32⟩, fun q => absurd q (by decide)⟩⟩, ⟨⟨dX10_pass_7, rfl⟩, rfl⟩, ⟨⟨dX10_pass_8, rfl⟩, Or.inl ⟨by decide, _, _, fX10_9⟩⟩, ⟨⟨dX10_pass_11, rfl⟩, Or.inl ⟨by decide, _, _, fX10_35⟩⟩, ⟨⟨dX10_pass_14, rfl⟩, rfl⟩, ⟨⟨dX10_pass_15, rfl⟩, trivial⟩, ⟨⟨_, dX10_pass_16⟩, ⟨rfl, rfl, rfl, rfl, rfl, rfl, rfl, rfl, trivial⟩⟩, ⟨⟨dX10_pass_44, rfl⟩, rfl⟩, ⟨⟨dX10_pass_45, rfl⟩, Or.inr ⟨by decide, ⟨_, my_188, sX10_39⟩, fun q => absurd q (by decide)⟩⟩, ⟨⟨dX10_pass_48, rfl⟩, rfl⟩, ⟨⟨dX10_pass_51, rfl⟩, rfl⟩, ⟨⟨dX10_pass_52, rfl⟩, Or.inr ⟨by decide, ⟨_, my_194, sX10_42⟩, fun q => absurd q (by decide)⟩⟩, ⟨⟨dX10_pass_55, rfl⟩, rfl⟩, ⟨⟨dX10_pass_58, rfl⟩, rfl⟩, ⟨⟨dX10_pass_59, rfl⟩, Or.inr ⟨by decide, ⟨_, my_206, sX10_45⟩, fun q => absurd q (by decide)⟩⟩, ⟨⟨dX10_pass_62, rfl⟩, rfl⟩, ⟨⟨dX10_pass_65, rfl⟩, rfl⟩, ⟨⟨dX10_pass_66, rfl⟩, Or.inr ⟨by decide, ⟨_, my_209, sX10_48⟩, fun q => absurd q (by decide)⟩⟩, ⟨⟨dX10_pass_69, rfl⟩, rfl⟩, ⟨⟨dX10_pass_70, rfl⟩, Or.inr ⟨by decide, ⟨_, my_210, sX10_51⟩, fun q => absurd q (by decide)⟩⟩, ⟨⟨dX10_pass_73, rfl⟩, rfl⟩, ⟨⟨dX10_pass_74, rfl⟩, Or.inr ⟨by decide, ⟨_, my_215, sX10_54⟩, fun q => absurd q (by decide)⟩⟩, trivial⟩,
  ⟨⟨⟨dX10_pass_77, rfl⟩, rfl⟩, ⟨⟨dX10_pass_78, rfl⟩, Or.inl ⟨by decide, _, _, fX10_31⟩⟩, ⟨⟨dX10_pass_81, rfl⟩, Or.inr ⟨by decide, ⟨_, my_216, sX10_57⟩, fun q => absurd q (by decide)⟩⟩, ⟨⟨dX10_pass_84, rfl⟩, rfl⟩, ⟨⟨dX10_pass_85, rfl⟩, Or.inl ⟨by decide, _, _, fX10_31⟩⟩, ⟨⟨dX10_pass_88, rfl⟩, rfl⟩, ⟨⟨dX10_pass_89, rfl⟩, Or.inl ⟨by decide, _, _, fX10_9⟩⟩, ⟨⟨dX10_pass_92, rfl⟩, Or.inr ⟨by decide, ⟨_, my_220, sX10_62⟩, fun q => absurd q (by decide)⟩⟩, ⟨⟨dX10_pass_95, rfl⟩, Or.inr ⟨by decide, ⟨_, my_221, sX10_66⟩, fun q => absurd q (by decide)⟩⟩, ⟨⟨dX10_pass_98, rfl⟩, rfl⟩, ⟨⟨dX10_pass_99, rfl⟩, Or.inr ⟨by decide, ⟨_, my_227, sX10_70⟩, fun q => absurd q (by decide)⟩⟩, ⟨⟨dX10_pass_102, rfl⟩, rfl⟩, ⟨⟨dX10_pass_103, rfl⟩, Or.inl ⟨by decide, _, _, fX10_9⟩⟩, ⟨⟨dX10_pass_106, rfl⟩, trivial⟩, ⟨⟨dX10_pass_107, rfl⟩, Or.inl ⟨by decide, _, _, fX10_35⟩⟩, ⟨⟨dX10_pass_110, rfl⟩, rfl⟩, ⟨⟨dX10_pass_111, rfl⟩, trivial⟩, ⟨⟨dX10_pass_112, rfl⟩, Or.inl ⟨rfl, fX10_35⟩⟩, ⟨⟨dX10_pass_115, rfl⟩, rfl⟩, trivial⟩, trivial⟩, by decide, Or.inl ⟨rfl, by decide, rfl⟩⟩
set_option maxRecDepth 100000 in
theorem g_X10_pass_0 (S : sT) (call : cT) (n : Nat) (a0 : Nat) (h : pH) : bd S call dflT E_X10_pass (n + 1) 0 [some (.ref a0)] [] h = (gV h (.ref a0) 13 0 (fun w1 => rC h w1 3 (cU (call 182 [w1] h) (fun h2 => gV h2 (.ref a0) 13 0 (fun w3 => gI h2 w3 3 7 (fun y4 => dv 4 ((if (y4 - y4 / 4 * 4) = 0 then bd S call dflT E_X10_pass n 44 [some (.ref a0)] [] h2 else (if (y4 - y4 / 4 * 4) = 1 then bd S call dflT E_X10_pass n 51 [some (.ref a0)] [] h2 else (if (y4 - y4 / 4 * 4) = 2 then bd S call dflT E_X10_pass n 58 [some (.ref a0)] [] h2 else bd S call dflT E_X10_pass n 65 [some (.ref a0)] [] h2)))))))))) := rfl
set_option maxRecDepth 100000 in
theorem g_X10_pass_44 (S : sT) (call : cT) (n : Nat) (a0 : Nat) (h : pH) : bd S call dflT E_X10_pass (n + 1) 44 [some (.ref a0)] [] h = (rC h (.ref a0) 13 (cU (call 188 [.ref a0] h) (fun h1 => gV h1 (.ref a0) 13 0 (fun w2 => nl w2 (gI h1 w2 3 7 (fun y3 => pF h1 w2 3 7 (.int (y3 + 1)) (fun h4 => some (.inl none, h4)))))))) := rfl
set_option maxRecDepth 100000 in
theorem g_X10_pass_51 (S : sT) (call : cT) (n : Nat) (a0 : Nat) (h : pH) : bd S call dflT E_X10_pass (n + 1) 51 [some (.ref a0)] [] h = (rC h (.ref a0) 13 (cU (call 194 [.ref a0] h) (fun h1 => gV h1 (.ref a0) 13 0 (fun w2 => nl w2 (gI h1 w2 3 7 (fun y3 => pF h1 w2 3 7 (.int (y3 + 1)) (fun h4 => some (.inl none, h4)))))))) := rfl
set_option maxRecDepth 100000 in
theorem g_X10_pass_58 (S : sT) (call : cT) (n : Nat) (a0 : Nat) (h : pH) : bd S call dflT E_X10_pass (n + 1) 58 [some (.ref a0)] [] h = (rC h (.ref a0) 13 (cU (call 206 [.ref a0] h) (fun h1 => gV h1 (.ref a0) 13 0 (fun w2 => nl w2 (gI h1 w2 3 7 (fun y3 => pF h1 w2 3 7 (.int (y3 + 1)) (fun h4 => some (.inl none, h4)))))))) := rfl
set_option maxRecDepth 100000 in
theorem g_X10_pass_65 (S : sT) (call : cT) (n : Nat) (a0 : Nat) (h : pH) : bd S call dflT E_X10_pass (n + 1) 65 [some (.ref a0)] [] h = (rC h (.ref a0) 13 (cU (call 209 [.ref a0] h) (fun h1 => rC h1 (.ref a0) 13 (cU (call 210 [.ref a0] h1) (fun h2 => rC h2 (.ref a0) 13 (cU (call 215 [.ref a0] h2) (fun h3 => gV h3 (.ref a0) 13 3 (fun w4 => rC h3 w4 6 (cU (call 216 [w4] h3) (fun h5 => gV h5 (.ref a0) 13 3 (fun w6 => gV h5 (.ref a0) 13 0 (fun w7 => rC h5 w7 3 (cI (call 220 [w7] h5) (fun y9 h8 => rC h8 w6 6 (cU (call 221 [w6, .int y9] h8) (fun h10 => rC h10 (.ref a0) 13 (cU (call 227 [.ref a0] h10) (fun h11 => gV h11 (.ref a0) 13 0 (fun w12 => nl w12 (gI h11 w12 3 7 (fun y13 => pF h11 w12 3 7 (.int (y13 + 1)) (fun h14 => some (.inl none, h14))))))))))))))))))))))) := rfl
