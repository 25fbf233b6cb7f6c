/-! by program: methods as data, that they are right, what their bodies do -/
theorem dX5_init_0 : decode cX5_init 0 = .ok (.aload_n 0, 1) := by decide +kernel
theorem dX5_init_1 : decode cX5_init 1 = .ok (.invokespecial 3, 3) := by decide +kernel
theorem dX5_init_4 : decode cX5_init 4 = .ok (.aload_n 0, 1) := by decide +kernel
theorem dX5_init_5 : decode cX5_init 5 = .ok (.bipush 6, 2) := by decide +kernel
theorem dX5_init_7 : decode cX5_init 7 = .ok (.newarray .int, 2) := by decide +kernel
theorem dX5_init_9 : decode cX5_init 9 = .ok (.putfield 11, 3) := by decide +kernel
theorem dX5_init_12 : decode cX5_init 12 = .ok (.aload_n 0, 1) := by decide +kernel
theorem dX5_init_13 : decode cX5_init 13 = .ok (.bipush 6, 2) := by decide +kernel
theorem dX5_init_15 : decode cX5_init 15 = .ok (.newarray .int, 2) := by decide +kernel
theorem dX5_init_17 : decode cX5_init 17 = .ok (.putfield 15, 3) := by decide +kernel
theorem dX5_init_20 : decode cX5_init 20 = .ok (.aload_n 0, 1) := by decide +kernel
theorem dX5_init_21 : decode cX5_init 21 = .ok (.bipush 6, 2) := by decide +kernel
theorem dX5_init_23 : decode cX5_init 23 = .ok (.newarray .int, 2) := by decide +kernel
theorem dX5_init_25 : decode cX5_init 25 = .ok (.putfield 18, 3) := by decide +kernel
theorem dX5_init_28 : decode cX5_init 28 = .ok (.aload_n 0, 1) := by decide +kernel
theorem dX5_init_29 : decode cX5_init 29 = .ok (.iconst 4, 1) := by decide +kernel
theorem dX5_init_30 : decode cX5_init 30 = .ok (.newarray .int, 2) := by decide +kernel
theorem dX5_init_32 : decode cX5_init 32 = .ok (.putfield 21, 3) := by decide +kernel
theorem dX5_init_35 : decode cX5_init 35 = .ok (.aload_n 0, 1) := by decide +kernel
theorem dX5_init_36 : decode cX5_init 36 = .ok (.iconst 4, 1) := by decide +kernel
theorem dX5_init_37 : decode cX5_init 37 = .ok (.newarray .int, 2) := by decide +kernel
theorem dX5_init_39 : decode cX5_init 39 = .ok (.putfield 24, 3) := by decide +kernel
theorem dX5_init_42 : decode cX5_init 42 = .ok (.return_, 1) := by decide +kernel
noncomputable def E_X5_init : mE := (mX5_init, [(42, [(0, (.aload_n 0, 1, false, false, 0, 0, 0, 0, 0, 0, [])), (1, (.invokespecial 3, 4, false, false, 0, 0, 0, 1, 0, 0, [])), (4, (.aload_n 0, 5, false, false, 0, 0, 0, 0, 0, 0, [])), (5, (.bipush 6, 7, false, false, 0, 0, 0, 0, 6, 0, [])), (7, (.newarray .int, 9, false, false, 0, 0, 0, 0, 0, 0, [])), (9, (.putfield 11, 12, false, false, 8, 2, 4, 0, 0, 0, [])), (12, (.aload_n 0, 13, false, false, 0, 0, 0, 0, 0, 0, [])), (13, (.bipush 6, 15, false, false, 0, 0, 0, 0, 6, 0, [])), (15, (.newarray .int, 17, false, false, 0, 0, 0, 0, 0, 0, [])), (17, (.putfield 15, 20, false, false, 8, 3, 4, 0, 0, 0, [])), (20, (.aload_n 0, 21, false, false, 0, 0, 0, 0, 0, 0, [])), (21, (.bipush 6, 23, false, false, 0, 0, 0, 0, 6, 0, [])), (23, (.newarray .int, 25, false, false, 0, 0, 0, 0, 0, 0, [])), (25, (.putfield 18, 28, false, false, 8, 4, 4, 0, 0, 0, [])), (28, (.aload_n 0, 29, false, false, 0, 0, 0, 0, 0, 0, [])), (29, (.iconst 4, 30, false, false, 0, 0, 0, 0, 4, 0, [])), (30, (.newarray .int, 32, false, false, 0, 0, 0, 0, 0, 0, [])), (32, (.putfield 21, 35, false, false, 8, 5, 4, 0, 0, 0, [])), (35, (.aload_n 0, 36, false, false, 0, 0, 0, 0, 0, 0, [])), (36, (.iconst 4, 37, false, false, 0, 0, 0, 0, 4, 0, [])), (37, (.newarray .int, 39, false, false, 0, 0, 0, 0, 0, 0, [])), (39, (.putfield 24, 42, false, false, 8, 6, 4, 0, 0, 0, [])), (42, (.return_, 43, false, false, 0, 0, 0, 0, 0, 0, []))])], 0, [])
set_option maxRecDepth 100000 in
theorem v_X5_init : VE MYT dflT E_X5_init := ⟨⟨⟨⟨⟨dX5_init_0, rfl⟩, rfl⟩, ⟨⟨dX5_init_1, rfl⟩, Or.inr ⟨rfl, oX5_3, o_1, o_2⟩⟩, ⟨⟨dX5_init_4, rfl⟩, rfl⟩, ⟨⟨dX5_init_5, rfl⟩, rfl⟩, ⟨⟨dX5_init_7, rfl⟩, Or.inl ⟨rfl, rfl, a_int⟩⟩, ⟨⟨dX5_init_9, rfl⟩, Or.inr (Or.inr (Or.inr (Or.inr ⟨rfl, ⟨_, (Or.inr ⟨_, rfl⟩), fX5_11⟩, rfl, rfl⟩)))⟩, ⟨⟨dX5_init_12, rfl⟩, rfl⟩, ⟨⟨dX5_init_13, rfl⟩, rfl⟩, ⟨⟨dX5_init_15, rfl⟩, Or.inl ⟨rfl, rfl, a_int⟩⟩, ⟨⟨dX5_init_17, rfl⟩, Or.inr (Or.inr (Or.inr (Or.inr ⟨rfl, ⟨_, (Or.inr ⟨_, rfl⟩), fX5_15⟩, rfl, rfl⟩)))⟩, ⟨⟨dX5_init_20, rfl⟩, rfl⟩, ⟨⟨dX5_init_21, rfl⟩, rfl⟩, ⟨⟨dX5_init_23, rfl⟩, Or.inl ⟨rfl, rfl, a_int⟩⟩, ⟨⟨dX5_init_25, rfl⟩, Or.inr (Or.inr (Or.inr (Or.inr ⟨rfl, ⟨_, (Or.inr ⟨_, rfl⟩), fX5_18⟩, rfl, rfl⟩)))⟩, ⟨⟨dX5_init_28, rfl⟩, rfl⟩, ⟨⟨dX5_init_29, rfl⟩, rfl⟩, ⟨⟨dX5_init_30, rfl⟩, Or.inl ⟨rfl, rfl, a_int⟩⟩, ⟨⟨dX5_init_32, rfl⟩, Or.inr (Or.inr (Or.inr (Or.inr ⟨rfl, ⟨_, (Or.inr ⟨_, rfl⟩), fX5_21⟩, rfl, rfl⟩)))⟩, ⟨⟨dX5_init_35, rfl⟩, rfl⟩, ⟨⟨dX5_init_36, rfl⟩, rfl⟩, ⟨⟨dX5_init_37, rfl⟩, Or.inl ⟨rfl, rfl, a_int⟩⟩, ⟨⟨dX5_init_39, rfl⟩, Or.inr (Or.inr (Or.inr (Or.inr ⟨rfl, ⟨_, (Or.inr ⟨_, rfl⟩), fX5_24⟩, rfl, rfl⟩)))⟩, ⟨⟨dX5_init_42, rfl⟩, rfl⟩, trivial⟩, trivial⟩, by decide, Or.inl ⟨rfl, by decide, rfl⟩⟩
set_option maxRecDepth 100000 in
theorem g_X5_init_0 (S : sT) (call : cT) (n : Nat) (a0 : Nat) (h : pH) : bd S call dflT E_X5_init (n + 1) 0 [some (.ref a0)] [] h = (mkI h 0 6 (fun h1 => pF h1 (.ref a0) 8 2 (.ref (List.length h)) (fun h2 => mkI h2 0 6 (fun h3 => pF h3 (.ref a0) 8 3 (.ref (List.length h2)) (fun h4 => mkI h4 0 6 (fun h5 => pF h5 (.ref a0) 8 4 (.ref (List.length h4)) (fun h6 => mkI h6 0 4 (fun h7 => pF h7 (.ref a0) 8 5 (.ref (List.length h6)) (fun h8 => mkI h8 0 4 (fun h9 => pF h9 (.ref a0) 8 6 (.ref (List.length h8)) (fun h10 => some (.inl none, h10)))))))))))) := rfl
theorem dX5_addJob_0 : decode cX5_addJob 0 = .ok (.aload_n 0, 1) := by decide +kernel
theorem dX5_addJob_1 : decode cX5_addJob 1 = .ok (.getfield 27, 3) := by decide +kernel
theorem dX5_addJob_4 : decode cX5_addJob 4 = .ok (.bipush 6, 2) := by decide +kernel
theorem dX5_addJob_6 : decode cX5_addJob 6 = .ok (.if_icmp .lt 5, 3) := by decide +kernel
theorem dX5_addJob_9 : decode cX5_addJob 9 = .ok (.iconst (-1), 1) := by decide +kernel
theorem dX5_addJob_10 : decode cX5_addJob 10 = .ok (.ireturn, 1) := by decide +kernel
theorem dX5_addJob_11 : decode cX5_addJob 11 = .ok (.aload_n 0, 1) := by decide +kernel
theorem dX5_addJob_12 : decode cX5_addJob 12 = .ok (.getfield 11, 3) := by decide +kernel
theorem dX5_addJob_15 : decode cX5_addJob 15 = .ok (.aload_n 0, 1) := by decide +kernel
theorem dX5_addJob_16 : decode cX5_addJob 16 = .ok (.getfield 27, 3) := by decide +kernel
theorem dX5_addJob_19 : decode cX5_addJob 19 = .ok (.iload_n 1, 1) := by decide +kernel
theorem dX5_addJob_20 : decode cX5_addJob 20 = .ok (.iastore, 1) := by decide +kernel
theorem dX5_addJob_21 : decode cX5_addJob 21 = .ok (.aload_n 0, 1) := by decide +kernel
theorem dX5_addJob_22 : decode cX5_addJob 22 = .ok (.getfield 15, 3) := by decide +kernel
theorem dX5_addJob_25 : decode cX5_addJob 25 = .ok (.aload_n 0, 1) := by decide +kernel
theorem dX5_addJob_26 : decode cX5_addJob 26 = .ok (.getfield 27, 3) := by decide +kernel
theorem dX5_addJob_29 : decode cX5_addJob 29 = .ok (.iload_n 2, 1) := by decide +kernel
theorem dX5_addJob_30 : decode cX5_addJob 30 = .ok (.iastore, 1) := by decide +kernel
theorem dX5_addJob_31 : decode cX5_addJob 31 = .ok (.aload_n 0, 1) := by decide +kernel
theorem dX5_addJob_32 : decode cX5_addJob 32 = .ok (.getfield 18, 3) := by decide +kernel
theorem dX5_addJob_35 : decode cX5_addJob 35 = .ok (.aload_n 0, 1) := by decide +kernel
theorem dX5_addJob_36 : decode cX5_addJob 36 = .ok (.getfield 27, 3) := by decide +kernel
theorem dX5_addJob_39 : decode cX5_addJob 39 = .ok (.iload_n 3, 1) := by decide +kernel
theorem dX5_addJob_40 : decode cX5_addJob 40 = .ok (.iastore, 1) := by decide +kernel
theorem dX5_addJob_41 : decode cX5_addJob 41 = .ok (.aload_n 0, 1) := by decide +kernel
theorem dX5_addJob_42 : decode cX5_addJob 42 = .ok (.dup, 1) := by decide +kernel
theorem dX5_addJob_43 : decode cX5_addJob 43 = .ok (.getfield 27, 3) := by decide +kernel
theorem dX5_addJob_46 : decode cX5_addJob 46 = .ok (.iconst 1, 1) := by decide +kernel
theorem dX5_addJob_47 : decode cX5_addJob 47 = .ok (.iadd, 1) := by decide +kernel
theorem dX5_addJob_48 : decode cX5_addJob 48 = .ok (.putfield 27, 3) := by decide +kernel
theorem dX5_addJob_51 : decode cX5_addJob 51 = .ok (.aload_n 0, 1) := by decide +kernel
theorem dX5_addJob_52 : decode cX5_addJob 52 = .ok (.getfield 27, 3) := by decide +kernel
theorem dX5_addJob_55 : decode cX5_addJob 55 = .ok (.ireturn, 1) := by decide +kernel
noncomputable def E_X5_addJob : mE := (mX5_addJob, [(40, [(0, (.aload_n 0, 1, false, false, 0, 0, 0, 0, 0, 0, [])), (1, (.getfield 27, 4, false, false, 8, 0, 0, 0, 0, 0, [])), (4, (.bipush 6, 6, false, false, 0, 0, 0, 0, 6, 0, [])), (6, (.if_icmp .lt 5, 9, false, false, 11, 0, 0, 0, 0, 0, [])), (9, (.iconst (-1), 10, false, false, 0, 0, 0, 0, -1, 0, [])), (10, (.ireturn, 11, false, false, 0, 0, 0, 0, 0, 0, [])), (11, (.aload_n 0, 12, false, false, 0, 0, 0, 0, 0, 0, [])), (12, (.getfield 11, 15, false, false, 8, 2, 1, 0, 0, 0, [])), (15, (.aload_n 0, 16, false, false, 0, 0, 0, 0, 0, 0, [])), (16, (.getfield 27, 19, false, false, 8, 0, 0, 0, 0, 0, [])), (19, (.iload_n 1, 20, false, false, 1, 0, 0, 0, 0, 0, [])), (20, (.iastore, 21, false, false, 0, 0, 0, 0, 0, 0, [])), (21, (.aload_n 0, 22, false, false, 0, 0, 0, 0, 0, 0, [])), (22, (.getfield 15, 25, false, false, 8, 3, 1, 0, 0, 0, [])), (25, (.aload_n 0, 26, false, false, 0, 0, 0, 0, 0, 0, [])), (26, (.getfield 27, 29, false, false, 8, 0, 0, 0, 0, 0, [])), (29, (.iload_n 2, 30, false, false, 2, 0, 0, 0, 0, 0, [])), (30, (.iastore, 31, false, false, 0, 0, 0, 0, 0, 0, [])), (31, (.aload_n 0, 32, false, false, 0, 0, 0, 0, 0, 0, [])), (32, (.getfield 18, 35, false, false, 8, 4, 1, 0, 0, 0, [])), (35, (.aload_n 0, 36, false, false, 0, 0, 0, 0, 0, 0, [])), (36, (.getfield 27, 39, false, false, 8, 0, 0, 0, 0, 0, [])), (39, (.iload_n 3, 40, false, false, 3, 0, 0, 0, 0, 0, [])), (40, (.iastore, 41, false, false, 0, 0, 0, 0, 0, 0, []))]),
  (55, [(41, (.aload_n 0, 42, false, false, 0, 0, 0, 0, 0, 0, [])), (42, (.dup, 43, false, false, 0, 0, 0, 0, 0, 0, [])), (43, (.getfield 27, 46, false, false, 8, 0, 0, 0, 0, 0, [])), (46, (.iconst 1, 47, false, false, 0, 0, 0, 0, 1, 0, [])), (47, (.iadd, 48, false, false, 0, 0, 0, 0, 0, 0, [])), (48, (.putfield 27, 51, false, false, 8, 0, 0, 0, 0, 0, [])), (51, (.aload_n 0, 52, false, false, 0, 0, 0, 0, 0, 0, [])), (52, (.getfield 27, 55, false, false, 8, 0, 0, 0, 0, 0, [])), (55, (.ireturn, 56, false, false, 0, 0, 0, 0, 0, 0, []))])], 0, [])
set_option maxRecDepth 100000 in
theorem v_X5_addJob : VE MYT dflT E_X5_addJob := ⟨⟨⟨⟨⟨dX5_addJob_0, rfl⟩, rfl⟩, ⟨⟨dX5_addJob_1, rfl⟩, Or.inl ⟨by decide, _, _, fX5_27⟩⟩, ⟨⟨dX5_addJob_4, rfl⟩, rfl⟩, ⟨⟨dX5_addJob_6, rfl⟩, rfl⟩, ⟨⟨dX5_addJob_9, rfl⟩, rfl⟩, ⟨⟨dX5_addJob_10, rfl⟩, Or.inl ⟨rfl, rfl⟩⟩, ⟨⟨dX5_addJob_11, rfl⟩, rfl⟩, ⟨⟨dX5_addJob_12, rfl⟩, Or.inl ⟨by decide, _, _, fX5_11⟩⟩, ⟨⟨dX5_addJob_15, rfl⟩, rfl⟩, ⟨⟨dX5_addJob_16, rfl⟩, Or.inl ⟨by decide, _, _, fX5_27⟩⟩, ⟨⟨dX5_addJob_19, rfl⟩, rfl⟩, ⟨⟨dX5_addJob_20, rfl⟩, trivial⟩, ⟨⟨dX5_addJob_21, rfl⟩, rfl⟩, ⟨⟨dX5_addJob_22, rfl⟩, Or.inl ⟨by decide, _, _, fX5_15⟩⟩, ⟨⟨dX5_addJob_25, rfl⟩, rfl⟩, ⟨⟨dX5_addJob_26, rfl⟩, Or.inl ⟨by decide, _, _, fX5_27⟩⟩, ⟨⟨dX5_addJob_29, rfl⟩, rfl⟩, ⟨⟨dX5_addJob_30, rfl⟩, trivial⟩, ⟨⟨dX5_addJob_31, rfl⟩, rfl⟩, ⟨⟨dX5_addJob_32, rfl⟩, Or.inl ⟨by decide, _, _, fX5_18⟩⟩, ⟨⟨dX5_addJob_35, rfl⟩, rfl⟩, ⟨⟨dX5_addJob_36, rfl⟩, Or.inl ⟨by decide, _, _, fX5_27⟩⟩, ⟨⟨dX5_addJob_39, rfl⟩, rfl⟩, ⟨⟨dX5_addJob_40, rfl⟩, trivial⟩, trivial⟩,
  ⟨⟨⟨dX5_addJob_41, rfl⟩, rfl⟩, ⟨⟨dX5_addJob_42, rfl⟩, trivial⟩, ⟨⟨dX5_addJob_43, rfl⟩, Or.inl ⟨by decide, _, _, fX5_27⟩⟩, ⟨⟨dX5_addJob_46, rfl⟩, rfl⟩, ⟨⟨dX5_addJob_47, rfl⟩, trivial⟩, ⟨⟨dX5_addJob_48, rfl⟩, Or.inl ⟨rfl, fX5_27⟩⟩, ⟨⟨dX5_addJob_51, rfl⟩, rfl⟩, ⟨⟨dX5_addJob_52, rfl⟩, Or.inl ⟨by decide, _, _, fX5_27⟩⟩, ⟨⟨dX5_addJob_55, rfl⟩, Or.inl ⟨rfl, rfl⟩⟩, trivial⟩, trivial⟩, by decide, Or.inl ⟨rfl, by decide, rfl⟩⟩
set_option maxRecDepth 100000 in
theorem g_X5_addJob_0 (S : sT) (call : cT) (n : Nat) (a0 : Nat) (x1 : Int32) (x2 : Int32) (x3 : Int32) (h : pH) : bd S call dflT E_X5_addJob (n + 1) 0 [some (.ref a0), some (.int x1), some (.int x2), some (.int x3)] [] h = (gI h (.ref a0) 8 0 (fun y1 => (if y1 < 6 then gV h (.ref a0) 8 2 (fun w2 => gI h (.ref a0) 8 0 (fun y3 => sI h w2 0 y3 x1 (fun h4 => gV h4 (.ref a0) 8 3 (fun w5 => gI h4 (.ref a0) 8 0 (fun y6 => sI h4 w5 0 y6 x2 (fun h7 => gV h7 (.ref a0) 8 4 (fun w8 => gI h7 (.ref a0) 8 0 (fun y9 => sI h7 w8 0 y9 x3 (fun h10 => gI h10 (.ref a0) 8 0 (fun y11 => pF h10 (.ref a0) 8 0 (.int (y11 + 1)) (fun h12 => gI h12 (.ref a0) 8 0 (fun y13 => some (.inl (some (.int y13)), h12))))))))))))) else some (.inl (some (.int (-1))), h)))) := rfl
theorem dX5_addTrouble_0 : decode cX5_addTrouble 0 = .ok (.aload_n 0, 1) := by decide +kernel
theorem dX5_addTrouble_1 : decode cX5_addTrouble 1 = .ok (.getfield 31, 3) := by decide +kernel
theorem dX5_addTrouble_4 : decode cX5_addTrouble 4 = .ok (.iconst 4, 1) := by decide +kernel
theorem dX5_addTrouble_5 : decode cX5_addTrouble 5 = .ok (.if_icmp .lt 5, 3) := by decide +kernel
theorem dX5_addTrouble_8 : decode cX5_addTrouble 8 = .ok (.iconst (-1), 1) := by decide +kernel
theorem dX5_addTrouble_9 : decode cX5_addTrouble 9 = .ok (.ireturn, 1) := by decide +kernel
theorem dX5_addTrouble_10 : decode cX5_addTrouble 10 = .ok (.aload_n 0, 1) := by decide +kernel
theorem dX5_addTrouble_11 : decode cX5_addTrouble 11 = .ok (.getfield 21, 3) := by decide +kernel
theorem dX5_addTrouble_14 : decode cX5_addTrouble 14 = .ok (.aload_n 0, 1) := by decide +kernel
theorem dX5_addTrouble_15 : decode cX5_addTrouble 15 = .ok (.getfield 31, 3) := by decide +kernel
theorem dX5_addTrouble_18 : decode cX5_addTrouble 18 = .ok (.iload_n 1, 1) := by decide +kernel
theorem dX5_addTrouble_19 : decode cX5_addTrouble 19 = .ok (.iastore, 1) := by decide +kernel
theorem dX5_addTrouble_20 : decode cX5_addTrouble 20 = .ok (.aload_n 0, 1) := by decide +kernel
theorem dX5_addTrouble_21 : decode cX5_addTrouble 21 = .ok (.getfield 24, 3) := by decide +kernel
theorem dX5_addTrouble_24 : decode cX5_addTrouble 24 = .ok (.aload_n 0, 1) := by decide +kernel
theorem dX5_addTrouble_25 : decode cX5_addTrouble 25 = .ok (.getfield 31, 3) := by decide +kernel
theorem dX5_addTrouble_28 : decode cX5_addTrouble 28 = .ok (.iload_n 2, 1) := by decide +kernel
theorem dX5_addTrouble_29 : decode cX5_addTrouble 29 = .ok (.iastore, 1) := by decide +kernel
theorem dX5_addTrouble_30 : decode cX5_addTrouble 30 = .ok (.aload_n 0, 1) := by decide +kernel
theorem dX5_addTrouble_31 : decode cX5_addTrouble 31 = .ok (.dup, 1) := by decide +kernel
theorem dX5_addTrouble_32 : decode cX5_addTrouble 32 = .ok (.getfield 31, 3) := by decide +kernel
theorem dX5_addTrouble_35 : decode cX5_addTrouble 35 = .ok (.iconst 1, 1) := by decide +kernel
theorem dX5_addTrouble_36 : decode cX5_addTrouble 36 = .ok (.iadd, 1) := by decide +kernel
theorem dX5_addTrouble_37 : decode cX5_addTrouble 37 = .ok (.putfield 31, 3) := by decide +kernel
theorem dX5_addTrouble_40 : decode cX5_addTrouble 40 = .ok (.aload_n 0, 1) := by decide +kernel
theorem dX5_addTrouble_41 : decode cX5_addTrouble 41 = .ok (.getfield 31, 3) := by decide +kernel
theorem dX5_addTrouble_44 : decode cX5_addTrouble 44 = .ok (.ireturn, 1) := by decide +kernel
noncomputable def E_X5_addTrouble : mE := (mX5_addTrouble, [(37, [(0, (.aload_n 0, 1, false, false, 0, 0, 0, 0, 0, 0, [])), (1, (.getfield 31, 4, false, false, 8, 1, 0, 0, 0, 0, [])), (4, (.iconst 4, 5, false, false, 0, 0, 0, 0, 4, 0, [])), (5, (.if_icmp .lt 5, 8, false, false, 10, 0, 0, 0, 0, 0, [])), (8, (.iconst (-1), 9, false, false, 0, 0, 0, 0, -1, 0, [])), (9, (.ireturn, 10, false, false, 0, 0, 0, 0, 0, 0, [])), (10, (.aload_n 0, 11, false, false, 0, 0, 0, 0, 0, 0, [])), (11, (.getfield 21, 14, false, false, 8, 5, 1, 0, 0, 0, [])), (14, (.aload_n 0, 15, false, false, 0, 0, 0, 0, 0, 0, [])), (15, (.getfield 31, 18, false, false, 8, 1, 0, 0, 0, 0, [])), (18, (.iload_n 1, 19, false, false, 1, 0, 0, 0, 0, 0, [])), (19, (.iastore, 20, false, false, 0, 0, 0, 0, 0, 0, [])), (20, (.aload_n 0, 21, false, false, 0, 0, 0, 0, 0, 0, [])), (21, (.getfield 24, 24, false, false, 8, 6, 1, 0, 0, 0, [])), (24, (.aload_n 0, 25, false, false, 0, 0, 0, 0, 0, 0, [])), (25, (.getfield 31, 28, false, false, 8, 1, 0, 0, 0, 0, [])), (28, (.iload_n 2, 29, false, false, 2, 0, 0, 0, 0, 0, [])), (29, (.iastore, 30, false, false, 0, 0, 0, 0, 0, 0, [])), (30, (.aload_n 0, 31, false, false, 0, 0, 0, 0, 0, 0, [])), (31, (.dup, 32, false, false, 0, 0, 0, 0, 0, 0, [])), (32, (.getfield 31, 35, false, false, 8, 1, 0, 0, 0, 0, [])), (35, (.iconst 1, 36, false, false, 0, 0, 0, 0, 1, 0, [])), (36, (.iadd, 37, false, false, 0, 0, 0, 0, 0, 0, [])), (37, (.putfield 31, 40, false, false, 8, 1, 0, 0, 0, 0, []))]),
  (44, [(40, (.aload_n 0, 41, false, false, 0, 0, 0, 0, 0, 0, [])), (41, (.getfield 31, 44, false, false, 8, 1, 0, 0, 0, 0, [])), (44, (.ireturn, 45, false, false, 0, 0, 0, 0, 0, 0, []))])], 0, [])
set_option maxRecDepth 100000 in
theorem v_X5_addTrouble : VE MYT dflT E_X5_addTrouble := ⟨⟨⟨⟨⟨dX5_addTrouble_0, rfl⟩, rfl⟩, ⟨⟨dX5_addTrouble_1, rfl⟩, Or.inl ⟨by decide, _, _, fX5_31⟩⟩, ⟨⟨dX5_addTrouble_4, rfl⟩, rfl⟩, ⟨⟨dX5_addTrouble_5, rfl⟩, rfl⟩, ⟨⟨dX5_addTrouble_8, rfl⟩, rfl⟩, ⟨⟨dX5_addTrouble_9, rfl⟩, Or.inl ⟨rfl, rfl⟩⟩, ⟨⟨dX5_addTrouble_10, rfl⟩, rfl⟩, ⟨⟨dX5_addTrouble_11, rfl⟩, Or.inl ⟨by decide, _, _, fX5_21⟩⟩, ⟨⟨dX5_addTrouble_14, rfl⟩, rfl⟩, ⟨⟨dX5_addTrouble_15, rfl⟩, Or.inl ⟨by decide, _, _, fX5_31⟩⟩, ⟨⟨dX5_addTrouble_18, rfl⟩, rfl⟩, ⟨⟨dX5_addTrouble_19, rfl⟩, trivial⟩, ⟨⟨dX5_addTrouble_20, rfl⟩, rfl⟩, ⟨⟨dX5_addTrouble_21, rfl⟩, Or.inl ⟨by decide, _, _, fX5_24⟩⟩, ⟨⟨dX5_addTrouble_24, rfl⟩, rfl⟩, ⟨⟨dX5_addTrouble_25, rfl⟩, Or.inl ⟨by decide, _, _, fX5_31⟩⟩, ⟨⟨dX5_addTrouble_28, rfl⟩, rfl⟩, ⟨⟨dX5_addTrouble_29, rfl⟩, trivial⟩, ⟨⟨dX5_addTrouble_30, rfl⟩, rfl⟩, ⟨⟨dX5_addTrouble_31, rfl⟩, trivial⟩, ⟨⟨dX5_addTrouble_32, rfl⟩, Or.inl ⟨by decide, _, _, fX5_31⟩⟩, ⟨⟨dX5_addTrouble_35, rfl⟩, rfl⟩, ⟨⟨dX5_addTrouble_36, rfl⟩, trivial⟩, ⟨⟨dX5_addTrouble_37, rfl⟩, Or.inl ⟨rfl, fX5_31⟩⟩, trivial⟩,
  ⟨⟨⟨dX5_addTrouble_40, rfl⟩, rfl⟩, ⟨⟨dX5_addTrouble_41, rfl⟩, Or.inl ⟨by decide, _, _, fX5_31⟩⟩, ⟨⟨dX5_addTrouble_44, rfl⟩, Or.inl ⟨rfl, rfl⟩⟩, trivial⟩, trivial⟩, by decide, Or.inl ⟨rfl, by decide, rfl⟩⟩
set_option maxRecDepth 100000 in
theorem g_X5_addTrouble_0 (S : sT) (call : cT) (n : Nat) (a0 : Nat) (x1 : Int32) (x2 : Int32) (h : pH) : bd S call dflT E_X5_addTrouble (n + 1) 0 [some (.ref a0), some (.int x1), some (.int x2)] [] h = (gI h (.ref a0) 8 1 (fun y1 => (if y1 < 4 then gV h (.ref a0) 8 5 (fun w2 => gI h (.ref a0) 8 1 (fun y3 => sI h w2 0 y3 x1 (fun h4 => gV h4 (.ref a0) 8 6 (fun w5 => gI h4 (.ref a0) 8 1 (fun y6 => sI h4 w5 0 y6 x2 (fun h7 => gI h7 (.ref a0) 8 1 (fun y8 => pF h7 (.ref a0) 8 1 (.int (y8 + 1)) (fun h9 => gI h9 (.ref a0) 8 1 (fun y10 => some (.inl (some (.int y10)), h9)))))))))) else some (.inl (some (.int (-1))), h)))) := rfl
theorem dX5_jobsIn_0 : decode cX5_jobsIn 0 = .ok (.iconst 0, 1) := by decide +kernel
theorem dX5_jobsIn_1 : decode cX5_jobsIn 1 = .ok (.istore_n 3, 1) := by decide +kernel
theorem dX5_jobsIn_2 : decode cX5_jobsIn 2 = .ok (.iconst 0, 1) := by decide +kernel
theorem dX5_jobsIn_3 : decode cX5_jobsIn 3 = .ok (.istore 4, 2) := by decide +kernel
theorem dX5_jobsIn_5 : decode cX5_jobsIn 5 = .ok (.iload 4, 2) := by decide +kernel
theorem dX5_jobsIn_7 : decode cX5_jobsIn 7 = .ok (.aload_n 0, 1) := by decide +kernel
theorem dX5_jobsIn_8 : decode cX5_jobsIn 8 = .ok (.getfield 27, 3) := by decide +kernel
theorem dX5_jobsIn_11 : decode cX5_jobsIn 11 = .ok (.if_icmp .ge 68, 3) := by decide +kernel
theorem dX5_jobsIn_14 : decode cX5_jobsIn 14 = .ok (.iload_n 2, 1) := by decide +kernel
theorem dX5_jobsIn_15 : decode cX5_jobsIn 15 = .ok (.iload 4, 2) := by decide +kernel
theorem dX5_jobsIn_17 : decode cX5_jobsIn 17 = .ok (.ishr, 1) := by decide +kernel
theorem dX5_jobsIn_18 : decode cX5_jobsIn 18 = .ok (.iconst 1, 1) := by decide +kernel
theorem dX5_jobsIn_19 : decode cX5_jobsIn 19 = .ok (.iand, 1) := by decide +kernel
theorem dX5_jobsIn_20 : decode cX5_jobsIn 20 = .ok (.ifCond .eq 53, 3) := by decide +kernel
theorem dX5_jobsIn_23 : decode cX5_jobsIn 23 = .ok (.iload_n 3, 1) := by decide +kernel
theorem dX5_jobsIn_24 : decode cX5_jobsIn 24 = .ok (.iload_n 1, 1) := by decide +kernel
theorem dX5_jobsIn_25 : decode cX5_jobsIn 25 = .ok (.aload_n 0, 1) := by decide +kernel
theorem dX5_jobsIn_26 : decode cX5_jobsIn 26 = .ok (.getfield 18, 3) := by decide +kernel
theorem dX5_jobsIn_29 : decode cX5_jobsIn 29 = .ok (.iload 4, 2) := by decide +kernel
theorem dX5_jobsIn_31 : decode cX5_jobsIn 31 = .ok (.iaload, 1) := by decide +kernel
theorem dX5_jobsIn_32 : decode cX5_jobsIn 32 = .ok (.if_icmp .le 13, 3) := by decide +kernel
theorem dX5_jobsIn_35 : decode cX5_jobsIn 35 = .ok (.aload_n 0, 1) := by decide +kernel
theorem dX5_jobsIn_36 : decode cX5_jobsIn 36 = .ok (.getfield 15, 3) := by decide +kernel
theorem dX5_jobsIn_39 : decode cX5_jobsIn 39 = .ok (.iload 4, 2) := by decide +kernel
theorem dX5_jobsIn_41 : decode cX5_jobsIn 41 = .ok (.iaload, 1) := by decide +kernel
theorem dX5_jobsIn_42 : decode cX5_jobsIn 42 = .ok (.goto 4, 3) := by decide +kernel
theorem dX5_jobsIn_45 : decode cX5_jobsIn 45 = .ok (.iconst 0, 1) := by decide +kernel
theorem dX5_jobsIn_46 : decode cX5_jobsIn 46 = .ok (.iadd, 1) := by decide +kernel
theorem dX5_jobsIn_47 : decode cX5_jobsIn 47 = .ok (.istore_n 3, 1) := by decide +kernel
theorem dX5_jobsIn_48 : decode cX5_jobsIn 48 = .ok (.iload_n 3, 1) := by decide +kernel
theorem dX5_jobsIn_49 : decode cX5_jobsIn 49 = .ok (.iload_n 1, 1) := by decide +kernel
theorem dX5_jobsIn_50 : decode cX5_jobsIn 50 = .ok (.aload_n 0, 1) := by decide +kernel
theorem dX5_jobsIn_51 : decode cX5_jobsIn 51 = .ok (.getfield 18, 3) := by decide +kernel
theorem dX5_jobsIn_54 : decode cX5_jobsIn 54 = .ok (.iload 4, 2) := by decide +kernel
theorem dX5_jobsIn_56 : decode cX5_jobsIn 56 = .ok (.iaload, 1) := by decide +kernel
theorem dX5_jobsIn_57 : decode cX5_jobsIn 57 = .ok (.if_icmp .ne 13, 3) := by decide +kernel
theorem dX5_jobsIn_60 : decode cX5_jobsIn 60 = .ok (.aload_n 0, 1) := by decide +kernel
theorem dX5_jobsIn_61 : decode cX5_jobsIn 61 = .ok (.getfield 11, 3) := by decide +kernel
theorem dX5_jobsIn_64 : decode cX5_jobsIn 64 = .ok (.iload 4, 2) := by decide +kernel
theorem dX5_jobsIn_66 : decode cX5_jobsIn 66 = .ok (.iaload, 1) := by decide +kernel
theorem dX5_jobsIn_67 : decode cX5_jobsIn 67 = .ok (.goto 4, 3) := by decide +kernel
theorem dX5_jobsIn_70 : decode cX5_jobsIn 70 = .ok (.iconst 0, 1) := by decide +kernel
theorem dX5_jobsIn_71 : decode cX5_jobsIn 71 = .ok (.isub, 1) := by decide +kernel
theorem dX5_jobsIn_72 : decode cX5_jobsIn 72 = .ok (.istore_n 3, 1) := by decide +kernel
theorem dX5_jobsIn_73 : decode cX5_jobsIn 73 = .ok (.iinc 4 1, 3) := by decide +kernel
theorem dX5_jobsIn_76 : decode cX5_jobsIn 76 = .ok (.goto (-71), 3) := by decide +kernel
theorem dX5_jobsIn_79 : decode cX5_jobsIn 79 = .ok (.iload_n 3, 1) := by decide +kernel
theorem dX5_jobsIn_80 : decode cX5_jobsIn 80 = .ok (.ireturn, 1) := by decide +kernel
noncomputable def E_X5_jobsIn : mE := (mX5_jobsIn, [(39, [(0, (.iconst 0, 1, false, false, 0, 0, 0, 0, 0, 0, [])), (1, (.istore_n 3, 2, false, false, 3, 0, 0, 0, 0, 0, [])), (2, (.iconst 0, 3, false, false, 0, 0, 0, 0, 0, 0, [])), (3, (.istore 4, 5, true, false, 4, 0, 0, 0, 0, 0, [])), (5, (.iload 4, 7, false, false, 4, 0, 0, 0, 0, 0, [])), (7, (.aload_n 0, 8, false, false, 0, 0, 0, 0, 0, 0, [])), (8, (.getfield 27, 11, false, false, 8, 0, 0, 0, 0, 0, [])), (11, (.if_icmp .ge 68, 14, false, false, 79, 0, 0, 0, 0, 0, [])), (14, (.iload_n 2, 15, false, false, 2, 0, 0, 0, 0, 0, [])), (15, (.iload 4, 17, false, false, 4, 0, 0, 0, 0, 0, [])), (17, (.ishr, 18, false, false, 0, 0, 0, 0, 0, 0, [])), (18, (.iconst 1, 19, false, false, 0, 0, 0, 0, 1, 0, [])), (19, (.iand, 20, false, false, 0, 0, 0, 0, 0, 0, [])), (20, (.ifCond .eq 53, 23, false, false, 73, 0, 0, 0, 0, 0, [])), (23, (.iload_n 3, 24, false, false, 3, 0, 0, 0, 0, 0, [])), (24, (.iload_n 1, 25, false, false, 1, 0, 0, 0, 0, 0, [])), (25, (.aload_n 0, 26, false, false, 0, 0, 0, 0, 0, 0, [])), (26, (.getfield 18, 29, false, false, 8, 4, 1, 0, 0, 0, [])), (29, (.iload 4, 31, false, false, 4, 0, 0, 0, 0, 0, [])), (31, (.iaload, 32, false, false, 0, 0, 0, 0, 0, 0, [])), (32, (.if_icmp .le 13, 35, false, false, 45, 0, 0, 0, 0, 0, [])), (35, (.aload_n 0, 36, false, false, 0, 0, 0, 0, 0, 0, [])), (36, (.getfield 15, 39, false, false, 8, 3, 1, 0, 0, 0, [])), (39, (.iload 4, 41, false, false, 4, 0, 0, 0, 0, 0, []))]),
  (80, [(41, (.iaload, 42, false, false, 0, 0, 0, 0, 0, 0, [])), (42, (.goto 4, 45, false, true, 46, 0, 0, 0, 0, 0, [])), (45, (.iconst 0, 46, true, false, 0, 0, 0, 0, 0, 0, [])), (46, (.iadd, 47, false, false, 0, 0, 0, 0, 0, 0, [])), (47, (.istore_n 3, 48, false, false, 3, 0, 0, 0, 0, 0, [])), (48, (.iload_n 3, 49, false, false, 3, 0, 0, 0, 0, 0, [])), (49, (.iload_n 1, 50, false, false, 1, 0, 0, 0, 0, 0, [])), (50, (.aload_n 0, 51, false, false, 0, 0, 0, 0, 0, 0, [])), (51, (.getfield 18, 54, false, false, 8, 4, 1, 0, 0, 0, [])), (54, (.iload 4, 56, false, false, 4, 0, 0, 0, 0, 0, [])), (56, (.iaload, 57, false, false, 0, 0, 0, 0, 0, 0, [])), (57, (.if_icmp .ne 13, 60, false, false, 70, 0, 0, 0, 0, 0, [])), (60, (.aload_n 0, 61, false, false, 0, 0, 0, 0, 0, 0, [])), (61, (.getfield 11, 64, false, false, 8, 2, 1, 0, 0, 0, [])), (64, (.iload 4, 66, false, false, 4, 0, 0, 0, 0, 0, [])), (66, (.iaload, 67, false, false, 0, 0, 0, 0, 0, 0, [])), (67, (.goto 4, 70, false, false, 71, 0, 0, 0, 0, 0, [])), (70, (.iconst 0, 71, false, false, 0, 0, 0, 0, 0, 0, [])), (71, (.isub, 72, false, false, 0, 0, 0, 0, 0, 0, [])), (72, (.istore_n 3, 73, false, false, 3, 0, 0, 0, 0, 0, [])), (73, (.iinc 4 1, 76, false, false, 4, 0, 0, 0, 1, 0, [])), (76, (.goto (-71), 79, false, true, 5, 0, 0, 0, 0, 0, [])), (79, (.iload_n 3, 80, false, false, 3, 0, 0, 0, 0, 0, [])), (80, (.ireturn, 81, false, false, 0, 0, 0, 0, 0, 0, []))])], 0, [])
set_option maxRecDepth 100000 in
theorem v_X5_jobsIn : VE MYT dflT E_X5_jobsIn := ⟨⟨⟨⟨⟨dX5_jobsIn_0, rfl⟩, rfl⟩, ⟨⟨dX5_jobsIn_1, rfl⟩, rfl⟩, ⟨⟨dX5_jobsIn_2, rfl⟩, rfl⟩, ⟨⟨dX5_jobsIn_3, rfl⟩, rfl⟩, ⟨⟨dX5_jobsIn_5, rfl⟩, rfl⟩, ⟨⟨dX5_jobsIn_7, rfl⟩, rfl⟩, ⟨⟨dX5_jobsIn_8, rfl⟩, Or.inl ⟨by decide, _, _, fX5_27⟩⟩, ⟨⟨dX5_jobsIn_11, rfl⟩, rfl⟩, ⟨⟨dX5_jobsIn_14, rfl⟩, rfl⟩, ⟨⟨dX5_jobsIn_15, rfl⟩, rfl⟩, ⟨⟨dX5_jobsIn_17, rfl⟩, trivial⟩, ⟨⟨dX5_jobsIn_18, rfl⟩, rfl⟩, ⟨⟨dX5_jobsIn_19, rfl⟩, trivial⟩, ⟨⟨dX5_jobsIn_20, rfl⟩, rfl⟩, ⟨⟨dX5_jobsIn_23, rfl⟩, rfl⟩, ⟨⟨dX5_jobsIn_24, rfl⟩, rfl⟩, ⟨⟨dX5_jobsIn_25, rfl⟩, rfl⟩, ⟨⟨dX5_jobsIn_26, rfl⟩, Or.inl ⟨by decide, _, _, fX5_18⟩⟩, ⟨⟨dX5_jobsIn_29, rfl⟩, rfl⟩, ⟨⟨dX5_jobsIn_31, rfl⟩, trivial⟩, ⟨⟨dX5_jobsIn_32, rfl⟩, rfl⟩, ⟨⟨dX5_jobsIn_35, rfl⟩, rfl⟩, ⟨⟨dX5_jobsIn_36, rfl⟩, Or.inl ⟨by decide, _, _, fX5_15⟩⟩, ⟨⟨dX5_jobsIn_39, rfl⟩, rfl⟩, trivial⟩,
  ⟨⟨⟨dX5_jobsIn_41, rfl⟩, trivial⟩, ⟨⟨dX5_jobsIn_42, rfl⟩, rfl⟩, ⟨⟨dX5_jobsIn_45, rfl⟩, rfl⟩, ⟨⟨dX5_jobsIn_46, rfl⟩, trivial⟩, ⟨⟨dX5_jobsIn_47, rfl⟩, rfl⟩, ⟨⟨dX5_jobsIn_48, rfl⟩, rfl⟩, ⟨⟨dX5_jobsIn_49, rfl⟩, rfl⟩, ⟨⟨dX5_jobsIn_50, rfl⟩, rfl⟩, ⟨⟨dX5_jobsIn_51, rfl⟩, Or.inl ⟨by decide, _, _, fX5_18⟩⟩, ⟨⟨dX5_jobsIn_54, rfl⟩, rfl⟩, ⟨⟨dX5_jobsIn_56, rfl⟩, trivial⟩, ⟨⟨dX5_jobsIn_57, rfl⟩, rfl⟩, ⟨⟨dX5_jobsIn_60, rfl⟩, rfl⟩, ⟨⟨dX5_jobsIn_61, rfl⟩, Or.inl ⟨by decide, _, _, fX5_11⟩⟩, ⟨⟨dX5_jobsIn_64, rfl⟩, rfl⟩, ⟨⟨dX5_jobsIn_66, rfl⟩, trivial⟩, ⟨⟨dX5_jobsIn_67, rfl⟩, rfl⟩, ⟨⟨dX5_jobsIn_70, rfl⟩, rfl⟩, ⟨⟨dX5_jobsIn_71, rfl⟩, trivial⟩, ⟨⟨dX5_jobsIn_72, rfl⟩, rfl⟩, ⟨⟨dX5_jobsIn_73, rfl⟩, ⟨rfl, rfl⟩⟩, ⟨⟨dX5_jobsIn_76, rfl⟩, rfl⟩, ⟨⟨dX5_jobsIn_79, rfl⟩, rfl⟩, ⟨⟨dX5_jobsIn_80, rfl⟩, Or.inl ⟨rfl, rfl⟩⟩, trivial⟩, trivial⟩, by decide, Or.inl ⟨rfl, by decide, rfl⟩⟩
set_option maxRecDepth 100000 in
theorem g_X5_jobsIn_0 (S : sT) (call : cT) (n : Nat) (a0 : Nat) (x1 : Int32) (x2 : Int32) (h : pH) : bd S call dflT E_X5_jobsIn (n + 1) 0 [some (.ref a0), some (.int x1), some (.int x2), none, none] [] h = (bd S call dflT E_X5_jobsIn n 5 [some (.ref a0), some (.int x1), some (.int x2), some (.int 0), some (.int 0)] [] h) := rfl
set_option maxRecDepth 100000 in
theorem g_X5_jobsIn_5 (S : sT) (call : cT) (n : Nat) (a0 : Nat) (x1 : Int32) (x2 : Int32) (x3 : Int32) (x4 : Int32) (h : pH) : bd S call dflT E_X5_jobsIn (n + 1) 5 [some (.ref a0), some (.int x1), some (.int x2), some (.int x3), some (.int x4)] [] h = (gI h (.ref a0) 8 0 (fun y1 => (if y1 ≤ x4 then some (.inl (some (.int x3)), h) else (if ((x2 >>> (x4 &&& 31)) &&& 1) = 0 then bd S call dflT E_X5_jobsIn n 5 [some (.ref a0), some (.int x1), some (.int x2), some (.int x3), some (.int (x4 + 1))] [] h else gV h (.ref a0) 8 4 (fun w2 => aI h w2 0 x4 (fun y3 => (if x1 ≤ y3 then bd S call dflT E_X5_jobsIn n 46 [some (.ref a0), some (.int x1), some (.int x2), some (.int x3), some (.int x4)] [.int 0, .int x3] h else gV h (.ref a0) 8 3 (fun w4 => aI h w4 0 x4 (fun y5 => bd S call dflT E_X5_jobsIn n 46 [some (.ref a0), some (.int x1), some (.int x2), some (.int x3), some (.int x4)] [.int y5, .int x3] h))))))))) := rfl
set_option maxRecDepth 100000 in
theorem g_X5_jobsIn_46 (S : sT) (call : cT) (n : Nat) (a0 : Nat) (x1 : Int32) (x2 : Int32) (x3 : Int32) (x4 : Int32) (y0 : Int32) (y1 : Int32) (h : pH) : bd S call dflT E_X5_jobsIn (n + 1) 46 [some (.ref a0), some (.int x1), some (.int x2), some (.int x3), some (.int x4)] [.int y1, .int y0] h = (gV h (.ref a0) 8 4 (fun w1 => aI h w1 0 x4 (fun y2 => (if x1 = y2 then gV h (.ref a0) 8 2 (fun w3 => aI h w3 0 x4 (fun y4 => bd S call dflT E_X5_jobsIn n 5 [some (.ref a0), some (.int x1), some (.int x2), some (.int ((y0 + y1) - y4)), some (.int (x4 + 1))] [] h)) else bd S call dflT E_X5_jobsIn n 5 [some (.ref a0), some (.int x1), some (.int x2), some (.int ((y0 + y1) - 0)), some (.int (x4 + 1))] [] h)))) := rfl
theorem dX5_endOf_0 : decode cX5_endOf 0 = .ok (.iload_n 1, 1) := by decide +kernel
theorem dX5_endOf_1 : decode cX5_endOf 1 = .ok (.istore 5, 2) := by decide +kernel
theorem dX5_endOf_3 : decode cX5_endOf 3 = .ok (.iconst 0, 1) := by decide +kernel
theorem dX5_endOf_4 : decode cX5_endOf 4 = .ok (.istore 6, 2) := by decide +kernel
theorem dX5_endOf_6 : decode cX5_endOf 6 = .ok (.iload 6, 2) := by decide +kernel
theorem dX5_endOf_8 : decode cX5_endOf 8 = .ok (.bipush 30, 2) := by decide +kernel
theorem dX5_endOf_10 : decode cX5_endOf 10 = .ok (.if_icmp .ge 37, 3) := by decide +kernel
theorem dX5_endOf_13 : decode cX5_endOf 13 = .ok (.iload 5, 2) := by decide +kernel
theorem dX5_endOf_15 : decode cX5_endOf 15 = .ok (.iload_n 2, 1) := by decide +kernel
theorem dX5_endOf_16 : decode cX5_endOf 16 = .ok (.iload_n 3, 1) := by decide +kernel
theorem dX5_endOf_17 : decode cX5_endOf 17 = .ok (.iload 6, 2) := by decide +kernel
theorem dX5_endOf_19 : decode cX5_endOf 19 = .ok (.imul, 1) := by decide +kernel
theorem dX5_endOf_20 : decode cX5_endOf 20 = .ok (.iadd, 1) := by decide +kernel
theorem dX5_endOf_21 : decode cX5_endOf 21 = .ok (.aload_n 0, 1) := by decide +kernel
theorem dX5_endOf_22 : decode cX5_endOf 22 = .ok (.iload 6, 2) := by decide +kernel
theorem dX5_endOf_24 : decode cX5_endOf 24 = .ok (.iload 4, 2) := by decide +kernel
theorem dX5_endOf_26 : decode cX5_endOf 26 = .ok (.invokevirtual 50, 3) := by decide +kernel
theorem dX5_endOf_29 : decode cX5_endOf 29 = .ok (.iadd, 1) := by decide +kernel
theorem dX5_endOf_30 : decode cX5_endOf 30 = .ok (.iadd, 1) := by decide +kernel
theorem dX5_endOf_31 : decode cX5_endOf 31 = .ok (.istore 5, 2) := by decide +kernel
theorem dX5_endOf_33 : decode cX5_endOf 33 = .ok (.iload 5, 2) := by decide +kernel
theorem dX5_endOf_35 : decode cX5_endOf 35 = .ok (.ifCond .ge 6, 3) := by decide +kernel
theorem dX5_endOf_38 : decode cX5_endOf 38 = .ok (.ldc 53, 2) := by decide +kernel
theorem dX5_endOf_40 : decode cX5_endOf 40 = .ok (.ireturn, 1) := by decide +kernel
theorem dX5_endOf_41 : decode cX5_endOf 41 = .ok (.iinc 6 1, 3) := by decide +kernel
theorem dX5_endOf_44 : decode cX5_endOf 44 = .ok (.goto (-38), 3) := by decide +kernel
theorem dX5_endOf_47 : decode cX5_endOf 47 = .ok (.iload 5, 2) := by decide +kernel
theorem dX5_endOf_49 : decode cX5_endOf 49 = .ok (.ireturn, 1) := by decide +kernel
noncomputable def E_X5_endOf : mE := (mX5_endOf, [(40, [(0, (.iload_n 1, 1, false, false, 1, 0, 0, 0, 0, 0, [])), (1, (.istore 5, 3, false, false, 5, 0, 0, 0, 0, 0, [])), (3, (.iconst 0, 4, false, false, 0, 0, 0, 0, 0, 0, [])), (4, (.istore 6, 6, true, false, 6, 0, 0, 0, 0, 0, [])), (6, (.iload 6, 8, false, false, 6, 0, 0, 0, 0, 0, [])), (8, (.bipush 30, 10, false, false, 0, 0, 0, 0, 30, 0, [])), (10, (.if_icmp .ge 37, 13, false, false, 47, 0, 0, 0, 0, 0, [])), (13, (.iload 5, 15, false, false, 5, 0, 0, 0, 0, 0, [])), (15, (.iload_n 2, 16, false, false, 2, 0, 0, 0, 0, 0, [])), (16, (.iload_n 3, 17, false, false, 3, 0, 0, 0, 0, 0, [])), (17, (.iload 6, 19, false, false, 6, 0, 0, 0, 0, 0, [])), (19, (.imul, 20, false, false, 0, 0, 0, 0, 0, 0, [])), (20, (.iadd, 21, false, false, 0, 0, 0, 0, 0, 0, [])), (21, (.aload_n 0, 22, false, false, 0, 0, 0, 0, 0, 0, [])), (22, (.iload 6, 24, false, false, 6, 0, 0, 0, 0, 0, [])), (24, (.iload 4, 26, false, false, 4, 0, 0, 0, 0, 0, [])), (26, (.invokevirtual 50, 29, false, false, 332, 2, 1, 8, 0, 0, [])), (29, (.iadd, 30, false, false, 0, 0, 0, 0, 0, 0, [])), (30, (.iadd, 31, false, false, 0, 0, 0, 0, 0, 0, [])), (31, (.istore 5, 33, false, false, 5, 0, 0, 0, 0, 0, [])), (33, (.iload 5, 35, false, false, 5, 0, 0, 0, 0, 0, [])), (35, (.ifCond .ge 6, 38, false, false, 41, 0, 0, 0, 0, 0, [])), (38, (.ldc 53, 40, false, false, 0, 0, 0, 0, -1000000000, 0, [])), (40, (.ireturn, 41, false, false, 0, 0, 0, 0, 0, 0, []))]),
  (49, [(41, (.iinc 6 1, 44, false, false, 6, 0, 0, 0, 1, 0, [])), (44, (.goto (-38), 47, false, true, 6, 0, 0, 0, 0, 0, [])), (47, (.iload 5, 49, false, false, 5, 0, 0, 0, 0, 0, [])), (49, (.ireturn, 50, false, false, 0, 0, 0, 0, 0, 0, []))])], 0, [])
set_option maxRecDepth 100000 in
theorem v_X5_endOf : VE MYT dflT E_X5_endOf := ⟨⟨⟨⟨⟨dX5_endOf_0, rfl⟩, rfl⟩, ⟨⟨dX5_endOf_1, rfl⟩, rfl⟩, ⟨⟨dX5_endOf_3, rfl⟩, rfl⟩, ⟨⟨dX5_endOf_4, rfl⟩, rfl⟩, ⟨⟨dX5_endOf_6, rfl⟩, rfl⟩, ⟨⟨dX5_endOf_8, rfl⟩, rfl⟩, ⟨⟨dX5_endOf_10, rfl⟩, rfl⟩, ⟨⟨dX5_endOf_13, rfl⟩, rfl⟩, ⟨⟨dX5_endOf_15, rfl⟩, rfl⟩, ⟨⟨dX5_endOf_16, rfl⟩, rfl⟩, ⟨⟨dX5_endOf_17, rfl⟩, rfl⟩, ⟨⟨dX5_endOf_19, rfl⟩, trivial⟩, ⟨⟨dX5_endOf_20, rfl⟩, trivial⟩, ⟨⟨dX5_endOf_21, rfl⟩, rfl⟩, ⟨⟨dX5_endOf_22, rfl⟩, rfl⟩, ⟨⟨dX5_endOf_24, rfl⟩, rfl⟩, ⟨⟨dX5_endOf_26, rfl⟩, Or.inr ⟨by decide, ⟨_, my_332, sX5_50⟩, fun q => absurd q (by decide)⟩⟩, ⟨⟨dX5_endOf_29, rfl⟩, trivial⟩, ⟨⟨dX5_endOf_30, rfl⟩, trivial⟩, ⟨⟨dX5_endOf_31, rfl⟩, rfl⟩, ⟨⟨dX5_endOf_33, rfl⟩, rfl⟩, ⟨⟨dX5_endOf_35, rfl⟩, rfl⟩, ⟨⟨dX5_endOf_38, rfl⟩, Or.inl ⟨rfl, kX5_53⟩⟩, ⟨⟨dX5_endOf_40, rfl⟩, Or.inl ⟨rfl, rfl⟩⟩, trivial⟩,
  ⟨⟨⟨dX5_endOf_41, rfl⟩, ⟨rfl, rfl⟩⟩, ⟨⟨dX5_endOf_44, rfl⟩, rfl⟩, ⟨⟨dX5_endOf_47, rfl⟩, rfl⟩, ⟨⟨dX5_endOf_49, rfl⟩, Or.inl ⟨rfl, rfl⟩⟩, trivial⟩, trivial⟩, by decide, Or.inl ⟨rfl, by decide, rfl⟩⟩
set_option maxRecDepth 100000 in
theorem g_X5_endOf_0 (S : sT) (call : cT) (n : Nat) (a0 : Nat) (x1 : Int32) (x2 : Int32) (x3 : Int32) (x4 : Int32) (h : pH) : bd S call dflT E_X5_endOf (n + 1) 0 [some (.ref a0), some (.int x1), some (.int x2), some (.int x3), some (.int x4), none, none] [] h = (bd S call dflT E_X5_endOf n 6 [some (.ref a0), some (.int x1), some (.int x2), some (.int x3), some (.int x4), some (.int x1), some (.int 0)] [] h) := rfl
set_option maxRecDepth 100000 in
theorem g_X5_endOf_6 (S : sT) (call : cT) (n : Nat) (a0 : Nat) (x1 : Int32) (x2 : Int32) (x3 : Int32) (x4 : Int32) (x5 : Int32) (x6 : Int32) (h : pH) : bd S call dflT E_X5_endOf (n + 1) 6 [some (.ref a0), some (.int x1), some (.int x2), some (.int x3), some (.int x4), some (.int x5), some (.int x6)] [] h = ((if 30 ≤ x6 then some (.inl (some (.int x5)), h) else rC h (.ref a0) 8 (cI (call 332 [.ref a0, .int x6, .int x4] h) (fun y2 h1 => (if 0 ≤ (x5 + ((x2 + (x3 * x6)) + y2)) then bd S call dflT E_X5_endOf n 6 [some (.ref a0), some (.int x1), some (.int x2), some (.int x3), some (.int x4), some (.int (x5 + ((x2 + (x3 * x6)) + y2))), some (.int (x6 + 1))] [] h1 else some (.inl (some (.int (-1000000000))), h1)))))) := rfl
theorem dX5_leastEnd_0 : decode cX5_leastEnd 0 = .ok (.aload_n 0, 1) := by decide +kernel
theorem dX5_leastEnd_1 : decode cX5_leastEnd 1 = .ok (.getfield 31, 3) := by decide +kernel
theorem dX5_leastEnd_4 : decode cX5_leastEnd 4 = .ok (.ifCond .ne 15, 3) := by decide +kernel
theorem dX5_leastEnd_7 : decode cX5_leastEnd 7 = .ok (.aload_n 0, 1) := by decide +kernel
theorem dX5_leastEnd_8 : decode cX5_leastEnd 8 = .ok (.iload_n 1, 1) := by decide +kernel
theorem dX5_leastEnd_9 : decode cX5_leastEnd 9 = .ok (.iload_n 2, 1) := by decide +kernel
theorem dX5_leastEnd_10 : decode cX5_leastEnd 10 = .ok (.ineg, 1) := by decide +kernel
theorem dX5_leastEnd_11 : decode cX5_leastEnd 11 = .ok (.iconst 0, 1) := by decide +kernel
theorem dX5_leastEnd_12 : decode cX5_leastEnd 12 = .ok (.iload_n 3, 1) := by decide +kernel
theorem dX5_leastEnd_13 : decode cX5_leastEnd 13 = .ok (.invokevirtual 40, 3) := by decide +kernel
theorem dX5_leastEnd_16 : decode cX5_leastEnd 16 = .ok (.goto 23, 3) := by decide +kernel
theorem dX5_leastEnd_19 : decode cX5_leastEnd 19 = .ok (.aload_n 0, 1) := by decide +kernel
theorem dX5_leastEnd_20 : decode cX5_leastEnd 20 = .ok (.iload_n 1, 1) := by decide +kernel
theorem dX5_leastEnd_21 : decode cX5_leastEnd 21 = .ok (.aload_n 0, 1) := by decide +kernel
theorem dX5_leastEnd_22 : decode cX5_leastEnd 22 = .ok (.getfield 21, 3) := by decide +kernel
theorem dX5_leastEnd_25 : decode cX5_leastEnd 25 = .ok (.iconst 0, 1) := by decide +kernel
theorem dX5_leastEnd_26 : decode cX5_leastEnd 26 = .ok (.iaload, 1) := by decide +kernel
theorem dX5_leastEnd_27 : decode cX5_leastEnd 27 = .ok (.iload_n 2, 1) := by decide +kernel
theorem dX5_leastEnd_28 : decode cX5_leastEnd 28 = .ok (.isub, 1) := by decide +kernel
theorem dX5_leastEnd_29 : decode cX5_leastEnd 29 = .ok (.aload_n 0, 1) := by decide +kernel
theorem dX5_leastEnd_30 : decode cX5_leastEnd 30 = .ok (.getfield 24, 3) := by decide +kernel
theorem dX5_leastEnd_33 : decode cX5_leastEnd 33 = .ok (.iconst 0, 1) := by decide +kernel
theorem dX5_leastEnd_34 : decode cX5_leastEnd 34 = .ok (.iaload, 1) := by decide +kernel
theorem dX5_leastEnd_35 : decode cX5_leastEnd 35 = .ok (.iload_n 3, 1) := by decide +kernel
theorem dX5_leastEnd_36 : decode cX5_leastEnd 36 = .ok (.invokevirtual 40, 3) := by decide +kernel
theorem dX5_leastEnd_39 : decode cX5_leastEnd 39 = .ok (.istore 4, 2) := by decide +kernel
theorem dX5_leastEnd_41 : decode cX5_leastEnd 41 = .ok (.iconst 1, 1) := by decide +kernel
theorem dX5_leastEnd_42 : decode cX5_leastEnd 42 = .ok (.istore 5, 2) := by decide +kernel
theorem dX5_leastEnd_44 : decode cX5_leastEnd 44 = .ok (.iload 5, 2) := by decide +kernel
theorem dX5_leastEnd_46 : decode cX5_leastEnd 46 = .ok (.aload_n 0, 1) := by decide +kernel
theorem dX5_leastEnd_47 : decode cX5_leastEnd 47 = .ok (.getfield 31, 3) := by decide +kernel
theorem dX5_leastEnd_50 : decode cX5_leastEnd 50 = .ok (.if_icmp .ge 38, 3) := by decide +kernel
theorem dX5_leastEnd_53 : decode cX5_leastEnd 53 = .ok (.iload 4, 2) := by decide +kernel
theorem dX5_leastEnd_55 : decode cX5_leastEnd 55 = .ok (.aload_n 0, 1) := by decide +kernel
theorem dX5_leastEnd_56 : decode cX5_leastEnd 56 = .ok (.iload_n 1, 1) := by decide +kernel
theorem dX5_leastEnd_57 : decode cX5_leastEnd 57 = .ok (.aload_n 0, 1) := by decide +kernel
theorem dX5_leastEnd_58 : decode cX5_leastEnd 58 = .ok (.getfield 21, 3) := by decide +kernel
theorem dX5_leastEnd_61 : decode cX5_leastEnd 61 = .ok (.iload 5, 2) := by decide +kernel
theorem dX5_leastEnd_63 : decode cX5_leastEnd 63 = .ok (.iaload, 1) := by decide +kernel
theorem dX5_leastEnd_64 : decode cX5_leastEnd 64 = .ok (.iload_n 2, 1) := by decide +kernel
theorem dX5_leastEnd_65 : decode cX5_leastEnd 65 = .ok (.isub, 1) := by decide +kernel
theorem dX5_leastEnd_66 : decode cX5_leastEnd 66 = .ok (.aload_n 0, 1) := by decide +kernel
theorem dX5_leastEnd_67 : decode cX5_leastEnd 67 = .ok (.getfield 24, 3) := by decide +kernel
theorem dX5_leastEnd_70 : decode cX5_leastEnd 70 = .ok (.iload 5, 2) := by decide +kernel
theorem dX5_leastEnd_72 : decode cX5_leastEnd 72 = .ok (.iaload, 1) := by decide +kernel
theorem dX5_leastEnd_73 : decode cX5_leastEnd 73 = .ok (.iload_n 3, 1) := by decide +kernel
theorem dX5_leastEnd_74 : decode cX5_leastEnd 74 = .ok (.invokevirtual 40, 3) := by decide +kernel
theorem dX5_leastEnd_77 : decode cX5_leastEnd 77 = .ok (.invokestatic 44, 3) := by decide +kernel
theorem dX5_leastEnd_80 : decode cX5_leastEnd 80 = .ok (.istore 4, 2) := by decide +kernel
theorem dX5_leastEnd_82 : decode cX5_leastEnd 82 = .ok (.iinc 5 1, 3) := by decide +kernel
theorem dX5_leastEnd_85 : decode cX5_leastEnd 85 = .ok (.goto (-41), 3) := by decide +kernel
theorem dX5_leastEnd_88 : decode cX5_leastEnd 88 = .ok (.iload 4, 2) := by decide +kernel
theorem dX5_leastEnd_90 : decode cX5_leastEnd 90 = .ok (.ireturn, 1) := by decide +kernel
noncomputable def E_X5_leastEnd : mE := (mX5_leastEnd, [(35, [(0, (.aload_n 0, 1, false, false, 0, 0, 0, 0, 0, 0, [])), (1, (.getfield 31, 4, false, false, 8, 1, 0, 0, 0, 0, [])), (4, (.ifCond .ne 15, 7, false, false, 19, 0, 0, 0, 0, 0, [])), (7, (.aload_n 0, 8, false, false, 0, 0, 0, 0, 0, 0, [])), (8, (.iload_n 1, 9, false, false, 1, 0, 0, 0, 0, 0, [])), (9, (.iload_n 2, 10, false, false, 2, 0, 0, 0, 0, 0, [])), (10, (.ineg, 11, false, false, 0, 0, 0, 0, 0, 0, [])), (11, (.iconst 0, 12, false, false, 0, 0, 0, 0, 0, 0, [])), (12, (.iload_n 3, 13, false, false, 3, 0, 0, 0, 0, 0, [])), (13, (.invokevirtual 40, 16, false, false, 333, 4, 1, 8, 0, 0, [])), (16, (.goto 23, 19, false, false, 39, 0, 0, 0, 0, 0, [])), (19, (.aload_n 0, 20, false, false, 0, 0, 0, 0, 0, 0, [])), (20, (.iload_n 1, 21, false, false, 1, 0, 0, 0, 0, 0, [])), (21, (.aload_n 0, 22, false, false, 0, 0, 0, 0, 0, 0, [])), (22, (.getfield 21, 25, false, false, 8, 5, 1, 0, 0, 0, [])), (25, (.iconst 0, 26, false, false, 0, 0, 0, 0, 0, 0, [])), (26, (.iaload, 27, false, false, 0, 0, 0, 0, 0, 0, [])), (27, (.iload_n 2, 28, false, false, 2, 0, 0, 0, 0, 0, [])), (28, (.isub, 29, false, false, 0, 0, 0, 0, 0, 0, [])), (29, (.aload_n 0, 30, false, false, 0, 0, 0, 0, 0, 0, [])), (30, (.getfield 24, 33, false, false, 8, 6, 1, 0, 0, 0, [])), (33, (.iconst 0, 34, false, false, 0, 0, 0, 0, 0, 0, [])), (34, (.iaload, 35, false, false, 0, 0, 0, 0, 0, 0, [])), (35, (.iload_n 3, 36, false, false, 3, 0, 0, 0, 0, 0, []))]),
  (77, [(36, (.invokevirtual 40, 39, false, false, 333, 4, 1, 8, 0, 0, [])), (39, (.istore 4, 41, false, false, 4, 0, 0, 0, 0, 0, [])), (41, (.iconst 1, 42, false, false, 0, 0, 0, 0, 1, 0, [])), (42, (.istore 5, 44, true, false, 5, 0, 0, 0, 0, 0, [])), (44, (.iload 5, 46, false, false, 5, 0, 0, 0, 0, 0, [])), (46, (.aload_n 0, 47, false, false, 0, 0, 0, 0, 0, 0, [])), (47, (.getfield 31, 50, false, false, 8, 1, 0, 0, 0, 0, [])), (50, (.if_icmp .ge 38, 53, false, false, 88, 0, 0, 0, 0, 0, [])), (53, (.iload 4, 55, false, false, 4, 0, 0, 0, 0, 0, [])), (55, (.aload_n 0, 56, false, false, 0, 0, 0, 0, 0, 0, [])), (56, (.iload_n 1, 57, false, false, 1, 0, 0, 0, 0, 0, [])), (57, (.aload_n 0, 58, false, false, 0, 0, 0, 0, 0, 0, [])), (58, (.getfield 21, 61, false, false, 8, 5, 1, 0, 0, 0, [])), (61, (.iload 5, 63, false, false, 5, 0, 0, 0, 0, 0, [])), (63, (.iaload, 64, false, false, 0, 0, 0, 0, 0, 0, [])), (64, (.iload_n 2, 65, false, false, 2, 0, 0, 0, 0, 0, [])), (65, (.isub, 66, false, false, 0, 0, 0, 0, 0, 0, [])), (66, (.aload_n 0, 67, false, false, 0, 0, 0, 0, 0, 0, [])), (67, (.getfield 24, 70, false, false, 8, 6, 1, 0, 0, 0, [])), (70, (.iload 5, 72, false, false, 5, 0, 0, 0, 0, 0, [])), (72, (.iaload, 73, false, false, 0, 0, 0, 0, 0, 0, [])), (73, (.iload_n 3, 74, false, false, 3, 0, 0, 0, 0, 0, [])), (74, (.invokevirtual 40, 77, false, false, 333, 4, 1, 8, 0, 0, [])), (77, (.invokestatic 44, 80, false, false, 0, 2, 1, 6, 0, 0, []))]),
  (90, [(80, (.istore 4, 82, false, false, 4, 0, 0, 0, 0, 0, [])), (82, (.iinc 5 1, 85, false, false, 5, 0, 0, 0, 1, 0, [])), (85, (.goto (-41), 88, false, true, 44, 0, 0, 0, 0, 0, [])), (88, (.iload 4, 90, false, false, 4, 0, 0, 0, 0, 0, [])), (90, (.ireturn, 91, false, false, 0, 0, 0, 0, 0, 0, []))])], 0, [])
set_option maxRecDepth 100000 in
theorem v_X5_leastEnd : VE MYT dflT E_X5_leastEnd := ⟨⟨⟨⟨⟨dX5_leastEnd_0, rfl⟩, rfl⟩, ⟨⟨dX5_leastEnd_1, rfl⟩, Or.inl ⟨by decide, _, _, fX5_31⟩⟩, ⟨⟨dX5_leastEnd_4, rfl⟩, rfl⟩, ⟨⟨dX5_leastEnd_7, rfl⟩, rfl⟩, ⟨⟨dX5_leastEnd_8, rfl⟩, rfl⟩, ⟨⟨dX5_leastEnd_9, rfl⟩, rfl⟩, ⟨⟨dX5_leastEnd_10, rfl⟩, trivial⟩, ⟨⟨dX5_leastEnd_11, rfl⟩, rfl⟩, ⟨⟨dX5_leastEnd_12, rfl⟩, rfl⟩, ⟨⟨dX5_leastEnd_13, rfl⟩, Or.inr ⟨by decide, ⟨_, my_333, sX5_40⟩, fun q => absurd q (by decide)⟩⟩, ⟨⟨dX5_leastEnd_16, rfl⟩, rfl⟩, ⟨⟨dX5_leastEnd_19, rfl⟩, rfl⟩, ⟨⟨dX5_leastEnd_20, rfl⟩, rfl⟩, ⟨⟨dX5_leastEnd_21, rfl⟩, rfl⟩, ⟨⟨dX5_leastEnd_22, rfl⟩, Or.inl ⟨by decide, _, _, fX5_21⟩⟩, ⟨⟨dX5_leastEnd_25, rfl⟩, rfl⟩, ⟨⟨dX5_leastEnd_26, rfl⟩, trivial⟩, ⟨⟨dX5_leastEnd_27, rfl⟩, rfl⟩, ⟨⟨dX5_leastEnd_28, rfl⟩, trivial⟩, ⟨⟨dX5_leastEnd_29, rfl⟩, rfl⟩, ⟨⟨dX5_leastEnd_30, rfl⟩, Or.inl ⟨by decide, _, _, fX5_24⟩⟩, ⟨⟨dX5_leastEnd_33, rfl⟩, rfl⟩, ⟨⟨dX5_leastEnd_34, rfl⟩, trivial⟩, ⟨⟨dX5_leastEnd_35, rfl⟩, rfl⟩, trivial⟩,
  ⟨⟨⟨dX5_leastEnd_36, rfl⟩, Or.inr ⟨by decide, ⟨_, my_333, sX5_40⟩, fun q => absurd q (by decide)⟩⟩, ⟨⟨dX5_leastEnd_39, rfl⟩, rfl⟩, ⟨⟨dX5_leastEnd_41, rfl⟩, rfl⟩, ⟨⟨dX5_leastEnd_42, rfl⟩, rfl⟩, ⟨⟨dX5_leastEnd_44, rfl⟩, rfl⟩, ⟨⟨dX5_leastEnd_46, rfl⟩, rfl⟩, ⟨⟨dX5_leastEnd_47, rfl⟩, Or.inl ⟨by decide, _, _, fX5_31⟩⟩, ⟨⟨dX5_leastEnd_50, rfl⟩, rfl⟩, ⟨⟨dX5_leastEnd_53, rfl⟩, rfl⟩, ⟨⟨dX5_leastEnd_55, rfl⟩, rfl⟩, ⟨⟨dX5_leastEnd_56, rfl⟩, rfl⟩, ⟨⟨dX5_leastEnd_57, rfl⟩, rfl⟩, ⟨⟨dX5_leastEnd_58, rfl⟩, Or.inl ⟨by decide, _, _, fX5_21⟩⟩, ⟨⟨dX5_leastEnd_61, rfl⟩, rfl⟩, ⟨⟨dX5_leastEnd_63, rfl⟩, trivial⟩, ⟨⟨dX5_leastEnd_64, rfl⟩, rfl⟩, ⟨⟨dX5_leastEnd_65, rfl⟩, trivial⟩, ⟨⟨dX5_leastEnd_66, rfl⟩, rfl⟩, ⟨⟨dX5_leastEnd_67, rfl⟩, Or.inl ⟨by decide, _, _, fX5_24⟩⟩, ⟨⟨dX5_leastEnd_70, rfl⟩, rfl⟩, ⟨⟨dX5_leastEnd_72, rfl⟩, trivial⟩, ⟨⟨dX5_leastEnd_73, rfl⟩, rfl⟩, ⟨⟨dX5_leastEnd_74, rfl⟩, Or.inr ⟨by decide, ⟨_, my_333, sX5_40⟩, fun q => absurd q (by decide)⟩⟩, ⟨⟨dX5_leastEnd_77, rfl⟩, Or.inr (Or.inr (Or.inr (Or.inr (Or.inr (Or.inl ⟨rfl, sX5_44⟩)))))⟩, trivial⟩,
  ⟨⟨⟨dX5_leastEnd_80, rfl⟩, rfl⟩, ⟨⟨dX5_leastEnd_82, rfl⟩, ⟨rfl, rfl⟩⟩, ⟨⟨dX5_leastEnd_85, rfl⟩, rfl⟩, ⟨⟨dX5_leastEnd_88, rfl⟩, rfl⟩, ⟨⟨dX5_leastEnd_90, rfl⟩, Or.inl ⟨rfl, rfl⟩⟩, trivial⟩, trivial⟩, by decide, Or.inl ⟨rfl, by decide, rfl⟩⟩
set_option maxRecDepth 100000 in
theorem g_X5_leastEnd_0 (S : sT) (call : cT) (n : Nat) (a0 : Nat) (x1 : Int32) (x2 : Int32) (x3 : Int32) (h : pH) : bd S call dflT E_X5_leastEnd (n + 1) 0 [some (.ref a0), some (.int x1), some (.int x2), some (.int x3), none, none] [] h = (gI h (.ref a0) 8 1 (fun y1 => (if y1 = 0 then rC h (.ref a0) 8 (cI (call 333 [.ref a0, .int x1, .int (-x2), .int 0, .int x3] h) (fun y9 h8 => bd S call dflT E_X5_leastEnd n 44 [some (.ref a0), some (.int x1), some (.int x2), some (.int x3), some (.int y9), some (.int 1)] [] h8)) else gV h (.ref a0) 8 5 (fun w2 => aI h w2 0 0 (fun y3 => gV h (.ref a0) 8 6 (fun w4 => aI h w4 0 0 (fun y5 => rC h (.ref a0) 8 (cI (call 333 [.ref a0, .int x1, .int (y3 - x2), .int y5, .int x3] h) (fun y7 h6 => bd S call dflT E_X5_leastEnd n 44 [some (.ref a0), some (.int x1), some (.int x2), some (.int x3), some (.int y7), some (.int 1)] [] h6))))))))) := rfl
set_option maxRecDepth 100000 in
theorem g_X5_leastEnd_44 (S : sT) (call : cT) (n : Nat) (a0 : Nat) (x1 : Int32) (x2 : Int32) (x3 : Int32) (x4 : Int32) (x5 : Int32) (h : pH) : bd S call dflT E_X5_leastEnd (n + 1) 44 [some (.ref a0), some (.int x1), some (.int x2), some (.int x3), some (.int x4), some (.int x5)] [] h = (gI h (.ref a0) 8 1 (fun y1 => (if y1 ≤ x5 then some (.inl (some (.int x4)), h) else gV h (.ref a0) 8 5 (fun w2 => aI h w2 0 x5 (fun y3 => gV h (.ref a0) 8 6 (fun w4 => aI h w4 0 x5 (fun y5 => rC h (.ref a0) 8 (cI (call 333 [.ref a0, .int x1, .int (y3 - x2), .int y5, .int x3] h) (fun y7 h6 => bd S call dflT E_X5_leastEnd n 44 [some (.ref a0), some (.int x1), some (.int x2), some (.int x3), some (.int (if y7 < x4 then y7 else x4)), some (.int (x5 + 1))] [] h6))))))))) := rfl
theorem dX5_bestSet_0 : decode cX5_bestSet 0 = .ok (.iconst (-1), 1) := by decide +kernel
theorem dX5_bestSet_1 : decode cX5_bestSet 1 = .ok (.istore_n 3, 1) := by decide +kernel
theorem dX5_bestSet_2 : decode cX5_bestSet 2 = .ok (.ldc 53, 2) := by decide +kernel
theorem dX5_bestSet_4 : decode cX5_bestSet 4 = .ok (.istore 4, 2) := by decide +kernel
theorem dX5_bestSet_6 : decode cX5_bestSet 6 = .ok (.iconst 0, 1) := by decide +kernel
theorem dX5_bestSet_7 : decode cX5_bestSet 7 = .ok (.istore 5, 2) := by decide +kernel
theorem dX5_bestSet_9 : decode cX5_bestSet 9 = .ok (.iload 5, 2) := by decide +kernel
theorem dX5_bestSet_11 : decode cX5_bestSet 11 = .ok (.iconst 1, 1) := by decide +kernel
theorem dX5_bestSet_12 : decode cX5_bestSet 12 = .ok (.aload_n 0, 1) := by decide +kernel
theorem dX5_bestSet_13 : decode cX5_bestSet 13 = .ok (.getfield 27, 3) := by decide +kernel
theorem dX5_bestSet_16 : decode cX5_bestSet 16 = .ok (.ishl, 1) := by decide +kernel
theorem dX5_bestSet_17 : decode cX5_bestSet 17 = .ok (.if_icmp .ge 69, 3) := by decide +kernel
theorem dX5_bestSet_20 : decode cX5_bestSet 20 = .ok (.aload_n 0, 1) := by decide +kernel
theorem dX5_bestSet_21 : decode cX5_bestSet 21 = .ok (.iload_n 1, 1) := by decide +kernel
theorem dX5_bestSet_22 : decode cX5_bestSet 22 = .ok (.iload_n 2, 1) := by decide +kernel
theorem dX5_bestSet_23 : decode cX5_bestSet 23 = .ok (.iload 5, 2) := by decide +kernel
theorem dX5_bestSet_25 : decode cX5_bestSet 25 = .ok (.invokevirtual 54, 3) := by decide +kernel
theorem dX5_bestSet_28 : decode cX5_bestSet 28 = .ok (.istore 6, 2) := by decide +kernel
theorem dX5_bestSet_30 : decode cX5_bestSet 30 = .ok (.iload_n 3, 1) := by decide +kernel
theorem dX5_bestSet_31 : decode cX5_bestSet 31 = .ok (.iconst (-1), 1) := by decide +kernel
theorem dX5_bestSet_32 : decode cX5_bestSet 32 = .ok (.if_icmp .eq 19, 3) := by decide +kernel
theorem dX5_bestSet_35 : decode cX5_bestSet 35 = .ok (.iload 5, 2) := by decide +kernel
theorem dX5_bestSet_37 : decode cX5_bestSet 37 = .ok (.invokestatic 58, 3) := by decide +kernel
theorem dX5_bestSet_40 : decode cX5_bestSet 40 = .ok (.iload_n 3, 1) := by decide +kernel
theorem dX5_bestSet_41 : decode cX5_bestSet 41 = .ok (.invokestatic 58, 3) := by decide +kernel
theorem dX5_bestSet_44 : decode cX5_bestSet 44 = .ok (.if_icmp .ge 7, 3) := by decide +kernel
theorem dX5_bestSet_47 : decode cX5_bestSet 47 = .ok (.iconst 1, 1) := by decide +kernel
theorem dX5_bestSet_48 : decode cX5_bestSet 48 = .ok (.goto 4, 3) := by decide +kernel
theorem dX5_bestSet_51 : decode cX5_bestSet 51 = .ok (.iconst 0, 1) := by decide +kernel
theorem dX5_bestSet_52 : decode cX5_bestSet 52 = .ok (.istore 7, 2) := by decide +kernel
theorem dX5_bestSet_54 : decode cX5_bestSet 54 = .ok (.iload 6, 2) := by decide +kernel
theorem dX5_bestSet_56 : decode cX5_bestSet 56 = .ok (.iload 4, 2) := by decide +kernel
theorem dX5_bestSet_58 : decode cX5_bestSet 58 = .ok (.if_icmp .gt 15, 3) := by decide +kernel
theorem dX5_bestSet_61 : decode cX5_bestSet 61 = .ok (.iload 6, 2) := by decide +kernel
theorem dX5_bestSet_63 : decode cX5_bestSet 63 = .ok (.iload 4, 2) := by decide +kernel
theorem dX5_bestSet_65 : decode cX5_bestSet 65 = .ok (.if_icmp .ne 15, 3) := by decide +kernel
theorem dX5_bestSet_68 : decode cX5_bestSet 68 = .ok (.iload 7, 2) := by decide +kernel
theorem dX5_bestSet_70 : decode cX5_bestSet 70 = .ok (.ifCond .eq 10, 3) := by decide +kernel
theorem dX5_bestSet_73 : decode cX5_bestSet 73 = .ok (.iload 5, 2) := by decide +kernel
theorem dX5_bestSet_75 : decode cX5_bestSet 75 = .ok (.istore_n 3, 1) := by decide +kernel
theorem dX5_bestSet_76 : decode cX5_bestSet 76 = .ok (.iload 6, 2) := by decide +kernel
theorem dX5_bestSet_78 : decode cX5_bestSet 78 = .ok (.istore 4, 2) := by decide +kernel
theorem dX5_bestSet_80 : decode cX5_bestSet 80 = .ok (.iinc 5 1, 3) := by decide +kernel
theorem dX5_bestSet_83 : decode cX5_bestSet 83 = .ok (.goto (-74), 3) := by decide +kernel
theorem dX5_bestSet_86 : decode cX5_bestSet 86 = .ok (.iload_n 3, 1) := by decide +kernel
theorem dX5_bestSet_87 : decode cX5_bestSet 87 = .ok (.ireturn, 1) := by decide +kernel
noncomputable def E_X5_bestSet : mE := (mX5_bestSet, [(40, [(0, (.iconst (-1), 1, false, false, 0, 0, 0, 0, -1, 0, [])), (1, (.istore_n 3, 2, false, false, 3, 0, 0, 0, 0, 0, [])), (2, (.ldc 53, 4, false, false, 0, 0, 0, 0, -1000000000, 0, [])), (4, (.istore 4, 6, false, false, 4, 0, 0, 0, 0, 0, [])), (6, (.iconst 0, 7, false, false, 0, 0, 0, 0, 0, 0, [])), (7, (.istore 5, 9, true, false, 5, 0, 0, 0, 0, 0, [])), (9, (.iload 5, 11, false, false, 5, 0, 0, 0, 0, 0, [])), (11, (.iconst 1, 12, false, false, 0, 0, 0, 0, 1, 0, [])), (12, (.aload_n 0, 13, false, false, 0, 0, 0, 0, 0, 0, [])), (13, (.getfield 27, 16, false, false, 8, 0, 0, 0, 0, 0, [])), (16, (.ishl, 17, false, false, 0, 0, 0, 0, 0, 0, [])), (17, (.if_icmp .ge 69, 20, false, false, 86, 0, 0, 0, 0, 0, [])), (20, (.aload_n 0, 21, false, false, 0, 0, 0, 0, 0, 0, [])), (21, (.iload_n 1, 22, false, false, 1, 0, 0, 0, 0, 0, [])), (22, (.iload_n 2, 23, false, false, 2, 0, 0, 0, 0, 0, [])), (23, (.iload 5, 25, false, false, 5, 0, 0, 0, 0, 0, [])), (25, (.invokevirtual 54, 28, false, false, 334, 3, 1, 8, 0, 0, [])), (28, (.istore 6, 30, false, false, 6, 0, 0, 0, 0, 0, [])), (30, (.iload_n 3, 31, false, false, 3, 0, 0, 0, 0, 0, [])), (31, (.iconst (-1), 32, false, false, 0, 0, 0, 0, -1, 0, [])), (32, (.if_icmp .eq 19, 35, false, false, 51, 0, 0, 0, 0, 0, [])), (35, (.iload 5, 37, false, false, 5, 0, 0, 0, 0, 0, [])), (37, (.invokestatic 58, 40, false, false, 341, 1, 1, 0, 0, 0, [])), (40, (.iload_n 3, 41, false, false, 3, 0, 0, 0, 0, 0, []))]),
  (87, [(41, (.invokestatic 58, 44, false, false, 341, 1, 1, 0, 0, 0, [])), (44, (.if_icmp .ge 7, 47, false, false, 51, 0, 0, 0, 0, 0, [])), (47, (.iconst 1, 48, false, false, 0, 0, 0, 0, 1, 0, [])), (48, (.goto 4, 51, false, true, 52, 0, 0, 0, 0, 0, [])), (51, (.iconst 0, 52, true, false, 0, 0, 0, 0, 0, 0, [])), (52, (.istore 7, 54, false, false, 7, 0, 0, 0, 0, 0, [])), (54, (.iload 6, 56, false, false, 6, 0, 0, 0, 0, 0, [])), (56, (.iload 4, 58, false, false, 4, 0, 0, 0, 0, 0, [])), (58, (.if_icmp .gt 15, 61, false, false, 73, 0, 0, 0, 0, 0, [])), (61, (.iload 6, 63, false, false, 6, 0, 0, 0, 0, 0, [])), (63, (.iload 4, 65, false, false, 4, 0, 0, 0, 0, 0, [])), (65, (.if_icmp .ne 15, 68, false, false, 80, 0, 0, 0, 0, 0, [])), (68, (.iload 7, 70, false, false, 7, 0, 0, 0, 0, 0, [])), (70, (.ifCond .eq 10, 73, false, false, 80, 0, 0, 0, 0, 0, [])), (73, (.iload 5, 75, false, false, 5, 0, 0, 0, 0, 0, [])), (75, (.istore_n 3, 76, false, false, 3, 0, 0, 0, 0, 0, [])), (76, (.iload 6, 78, false, false, 6, 0, 0, 0, 0, 0, [])), (78, (.istore 4, 80, false, false, 4, 0, 0, 0, 0, 0, [])), (80, (.iinc 5 1, 83, false, false, 5, 0, 0, 0, 1, 0, [])), (83, (.goto (-74), 86, false, true, 9, 0, 0, 0, 0, 0, [])), (86, (.iload_n 3, 87, false, false, 3, 0, 0, 0, 0, 0, [])), (87, (.ireturn, 88, false, false, 0, 0, 0, 0, 0, 0, []))])], 0, [])
set_option maxRecDepth 100000 in
theorem v_X5_bestSet : VE MYT dflT E_X5_bestSet := ⟨⟨⟨⟨⟨dX5_bestSet_0, rfl⟩, rfl⟩, ⟨⟨dX5_bestSet_1, rfl⟩, rfl⟩, ⟨⟨dX5_bestSet_2, rfl⟩, Or.inl ⟨rfl, kX5_53⟩⟩, ⟨⟨dX5_bestSet_4, rfl⟩, rfl⟩, ⟨⟨dX5_bestSet_6, rfl⟩, rfl⟩, ⟨⟨dX5_bestSet_7, rfl⟩, rfl⟩, ⟨⟨dX5_bestSet_9, rfl⟩, rfl⟩, ⟨⟨dX5_bestSet_11, rfl⟩, rfl⟩, ⟨⟨dX5_bestSet_12, rfl⟩, rfl⟩, ⟨⟨dX5_bestSet_13, rfl⟩, Or.inl ⟨by decide, _, _, fX5_27⟩⟩, ⟨⟨dX5_bestSet_16, rfl⟩, trivial⟩, ⟨⟨dX5_bestSet_17, rfl⟩, rfl⟩, ⟨⟨dX5_bestSet_20, rfl⟩, rfl⟩, ⟨⟨dX5_bestSet_21, rfl⟩, rfl⟩, ⟨⟨dX5_bestSet_22, rfl⟩, rfl⟩, ⟨⟨dX5_bestSet_23, rfl⟩, rfl⟩, ⟨⟨dX5_bestSet_25, rfl⟩, Or.inr ⟨by decide, ⟨_, my_334, sX5_54⟩, fun q => absurd q (by decide)⟩⟩, ⟨⟨dX5_bestSet_28, rfl⟩, rfl⟩, ⟨⟨dX5_bestSet_30, rfl⟩, rfl⟩, ⟨⟨dX5_bestSet_31, rfl⟩, rfl⟩, ⟨⟨dX5_bestSet_32, rfl⟩, rfl⟩, ⟨⟨dX5_bestSet_35, rfl⟩, rfl⟩, ⟨⟨dX5_bestSet_37, rfl⟩, Or.inl ⟨rfl, _, my_341, sX5_58⟩⟩, ⟨⟨dX5_bestSet_40, rfl⟩, rfl⟩, trivial⟩,
  ⟨⟨⟨dX5_bestSet_41, rfl⟩, Or.inl ⟨rfl, _, my_341, sX5_58⟩⟩, ⟨⟨dX5_bestSet_44, rfl⟩, rfl⟩, ⟨⟨dX5_bestSet_47, rfl⟩, rfl⟩, ⟨⟨dX5_bestSet_48, rfl⟩, rfl⟩, ⟨⟨dX5_bestSet_51, rfl⟩, rfl⟩, ⟨⟨dX5_bestSet_52, rfl⟩, rfl⟩, ⟨⟨dX5_bestSet_54, rfl⟩, rfl⟩, ⟨⟨dX5_bestSet_56, rfl⟩, rfl⟩, ⟨⟨dX5_bestSet_58, rfl⟩, rfl⟩, ⟨⟨dX5_bestSet_61, rfl⟩, rfl⟩, ⟨⟨dX5_bestSet_63, rfl⟩, rfl⟩, ⟨⟨dX5_bestSet_65, rfl⟩, rfl⟩, ⟨⟨dX5_bestSet_68, rfl⟩, rfl⟩, ⟨⟨dX5_bestSet_70, rfl⟩, rfl⟩, ⟨⟨dX5_bestSet_73, rfl⟩, rfl⟩, ⟨⟨dX5_bestSet_75, rfl⟩, rfl⟩, ⟨⟨dX5_bestSet_76, rfl⟩, rfl⟩, ⟨⟨dX5_bestSet_78, rfl⟩, rfl⟩, ⟨⟨dX5_bestSet_80, rfl⟩, ⟨rfl, rfl⟩⟩, ⟨⟨dX5_bestSet_83, rfl⟩, rfl⟩, ⟨⟨dX5_bestSet_86, rfl⟩, rfl⟩, ⟨⟨dX5_bestSet_87, rfl⟩, Or.inl ⟨rfl, rfl⟩⟩, trivial⟩, trivial⟩, by decide, Or.inl ⟨rfl, by decide, rfl⟩⟩
set_option maxRecDepth 100000 in
theorem g_X5_bestSet_0 (S : sT) (call : cT) (n : Nat) (a0 : Nat) (x1 : Int32) (x2 : Int32) (h : pH) : bd S call dflT E_X5_bestSet (n + 1) 0 [some (.ref a0), some (.int x1), some (.int x2), none, none, none, none, none] [] h = (bd S call dflT E_X5_bestSet n 9 [some (.ref a0), some (.int x1), some (.int x2), some (.int (-1)), some (.int (-1000000000)), some (.int 0), none, none] [] h) := rfl
set_option maxRecDepth 100000 in
theorem g_X5_bestSet_9 (S : sT) (call : cT) (n : Nat) (a0 : Nat) (x1 : Int32) (x2 : Int32) (x3 : Int32) (x4 : Int32) (x5 : Int32) (o6 : Option Value) (o7 : Option Value) (h : pH) : bd S call dflT E_X5_bestSet (n + 1) 9 [some (.ref a0), some (.int x1), some (.int x2), some (.int x3), some (.int x4), some (.int x5), o6, o7] [] h = (gI h (.ref a0) 8 0 (fun y1 => (if (1 <<< (y1 &&& 31)) ≤ x5 then some (.inl (some (.int x3)), h) else rC h (.ref a0) 8 (cI (call 334 [.ref a0, .int x1, .int x2, .int x5] h) (fun y3 h2 => (if x3 = (-1) then bd S call dflT E_X5_bestSet n 52 [some (.ref a0), some (.int x1), some (.int x2), some (.int x3), some (.int x4), some (.int x5), some (.int y3), o7] [.int 0] h2 else cI (call 341 [.int x5] h2) (fun y5 h4 => cI (call 341 [.int x3] h4) (fun y7 h6 => (if y7 ≤ y5 then bd S call dflT E_X5_bestSet n 52 [some (.ref a0), some (.int x1), some (.int x2), some (.int x3), some (.int x4), some (.int x5), some (.int y3), o7] [.int 0] h6 else bd S call dflT E_X5_bestSet n 52 [some (.ref a0), some (.int x1), some (.int x2), some (.int x3), some (.int x4), some (.int x5), some (.int y3), o7] [.int 1] h6))))))))) := rfl
set_option maxRecDepth 100000 in
theorem g_X5_bestSet_52 (S : sT) (call : cT) (n : Nat) (a0 : Nat) (x1 : Int32) (x2 : Int32) (x3 : Int32) (x4 : Int32) (x5 : Int32) (x6 : Int32) (o7 : Option Value) (y0 : Int32) (h : pH) : bd S call dflT E_X5_bestSet (n + 1) 52 [some (.ref a0), some (.int x1), some (.int x2), some (.int x3), some (.int x4), some (.int x5), some (.int x6), o7] [.int y0] h = ((if x4 < x6 then bd S call dflT E_X5_bestSet n 9 [some (.ref a0), some (.int x1), some (.int x2), some (.int x5), some (.int x6), some (.int (x5 + 1)), some (.int x6), some (.int y0)] [] h else (if x6 = x4 then (if y0 = 0 then bd S call dflT E_X5_bestSet n 9 [some (.ref a0), some (.int x1), some (.int x2), some (.int x3), some (.int x4), some (.int (x5 + 1)), some (.int x6), some (.int y0)] [] h else bd S call dflT E_X5_bestSet n 9 [some (.ref a0), some (.int x1), some (.int x2), some (.int x5), some (.int x6), some (.int (x5 + 1)), some (.int x6), some (.int y0)] [] h) else bd S call dflT E_X5_bestSet n 9 [some (.ref a0), some (.int x1), some (.int x2), some (.int x3), some (.int x4), some (.int (x5 + 1)), some (.int x6), some (.int y0)] [] h))) := rfl
theorem dX5_copyFrom_0 : decode cX5_copyFrom 0 = .ok (.aload_n 0, 1) := by decide +kernel
theorem dX5_copyFrom_1 : decode cX5_copyFrom 1 = .ok (.aload_n 1, 1) := by decide +kernel
theorem dX5_copyFrom_2 : decode cX5_copyFrom 2 = .ok (.getfield 27, 3) := by decide +kernel
theorem dX5_copyFrom_5 : decode cX5_copyFrom 5 = .ok (.putfield 27, 3) := by decide +kernel
theorem dX5_copyFrom_8 : decode cX5_copyFrom 8 = .ok (.aload_n 0, 1) := by decide +kernel
theorem dX5_copyFrom_9 : decode cX5_copyFrom 9 = .ok (.aload_n 1, 1) := by decide +kernel
theorem dX5_copyFrom_10 : decode cX5_copyFrom 10 = .ok (.getfield 31, 3) := by decide +kernel
theorem dX5_copyFrom_13 : decode cX5_copyFrom 13 = .ok (.putfield 31, 3) := by decide +kernel
theorem dX5_copyFrom_16 : decode cX5_copyFrom 16 = .ok (.aload_n 1, 1) := by decide +kernel
theorem dX5_copyFrom_17 : decode cX5_copyFrom 17 = .ok (.getfield 11, 3) := by decide +kernel
theorem dX5_copyFrom_20 : decode cX5_copyFrom 20 = .ok (.iconst 0, 1) := by decide +kernel
theorem dX5_copyFrom_21 : decode cX5_copyFrom 21 = .ok (.aload_n 0, 1) := by decide +kernel
theorem dX5_copyFrom_22 : decode cX5_copyFrom 22 = .ok (.getfield 11, 3) := by decide +kernel
theorem dX5_copyFrom_25 : decode cX5_copyFrom 25 = .ok (.iconst 0, 1) := by decide +kernel
theorem dX5_copyFrom_26 : decode cX5_copyFrom 26 = .ok (.bipush 6, 2) := by decide +kernel
theorem dX5_copyFrom_28 : decode cX5_copyFrom 28 = .ok (.invokestatic 34, 3) := by decide +kernel
theorem dX5_copyFrom_31 : decode cX5_copyFrom 31 = .ok (.aload_n 1, 1) := by decide +kernel
theorem dX5_copyFrom_32 : decode cX5_copyFrom 32 = .ok (.getfield 15, 3) := by decide +kernel
theorem dX5_copyFrom_35 : decode cX5_copyFrom 35 = .ok (.iconst 0, 1) := by decide +kernel
theorem dX5_copyFrom_36 : decode cX5_copyFrom 36 = .ok (.aload_n 0, 1) := by decide +kernel
theorem dX5_copyFrom_37 : decode cX5_copyFrom 37 = .ok (.getfield 15, 3) := by decide +kernel
theorem dX5_copyFrom_40 : decode cX5_copyFrom 40 = .ok (.iconst 0, 1) := by decide +kernel
theorem dX5_copyFrom_41 : decode cX5_copyFrom 41 = .ok (.bipush 6, 2) := by decide +kernel
theorem dX5_copyFrom_43 : decode cX5_copyFrom 43 = .ok (.invokestatic 34, 3) := by decide +kernel
theorem dX5_copyFrom_46 : decode cX5_copyFrom 46 = .ok (.aload_n 1, 1) := by decide +kernel
theorem dX5_copyFrom_47 : decode cX5_copyFrom 47 = .ok (.getfield 18, 3) := by decide +kernel
theorem dX5_copyFrom_50 : decode cX5_copyFrom 50 = .ok (.iconst 0, 1) := by decide +kernel
theorem dX5_copyFrom_51 : decode cX5_copyFrom 51 = .ok (.aload_n 0, 1) := by decide +kernel
theorem dX5_copyFrom_52 : decode cX5_copyFrom 52 = .ok (.getfield 18, 3) := by decide +kernel
theorem dX5_copyFrom_55 : decode cX5_copyFrom 55 = .ok (.iconst 0, 1) := by decide +kernel
theorem dX5_copyFrom_56 : decode cX5_copyFrom 56 = .ok (.bipush 6, 2) := by decide +kernel
theorem dX5_copyFrom_58 : decode cX5_copyFrom 58 = .ok (.invokestatic 34, 3) := by decide +kernel
theorem dX5_copyFrom_61 : decode cX5_copyFrom 61 = .ok (.aload_n 1, 1) := by decide +kernel
theorem dX5_copyFrom_62 : decode cX5_copyFrom 62 = .ok (.getfield 21, 3) := by decide +kernel
theorem dX5_copyFrom_65 : decode cX5_copyFrom 65 = .ok (.iconst 0, 1) := by decide +kernel
theorem dX5_copyFrom_66 : decode cX5_copyFrom 66 = .ok (.aload_n 0, 1) := by decide +kernel
theorem dX5_copyFrom_67 : decode cX5_copyFrom 67 = .ok (.getfield 21, 3) := by decide +kernel
theorem dX5_copyFrom_70 : decode cX5_copyFrom 70 = .ok (.iconst 0, 1) := by decide +kernel
theorem dX5_copyFrom_71 : decode cX5_copyFrom 71 = .ok (.iconst 4, 1) := by decide +kernel
theorem dX5_copyFrom_72 : decode cX5_copyFrom 72 = .ok (.invokestatic 34, 3) := by decide +kernel
theorem dX5_copyFrom_75 : decode cX5_copyFrom 75 = .ok (.aload_n 1, 1) := by decide +kernel
theorem dX5_copyFrom_76 : decode cX5_copyFrom 76 = .ok (.getfield 24, 3) := by decide +kernel
theorem dX5_copyFrom_79 : decode cX5_copyFrom 79 = .ok (.iconst 0, 1) := by decide +kernel
theorem dX5_copyFrom_80 : decode cX5_copyFrom 80 = .ok (.aload_n 0, 1) := by decide +kernel
theorem dX5_copyFrom_81 : decode cX5_copyFrom 81 = .ok (.getfield 24, 3) := by decide +kernel
theorem dX5_copyFrom_84 : decode cX5_copyFrom 84 = .ok (.iconst 0, 1) := by decide +kernel
theorem dX5_copyFrom_85 : decode cX5_copyFrom 85 = .ok (.iconst 4, 1) := by decide +kernel
theorem dX5_copyFrom_86 : decode cX5_copyFrom 86 = .ok (.invokestatic 34, 3) := by decide +kernel
theorem dX5_copyFrom_89 : decode cX5_copyFrom 89 = .ok (.return_, 1) := by decide +kernel
noncomputable def E_X5_copyFrom : mE := (mX5_copyFrom, [(43, [(0, (.aload_n 0, 1, false, false, 0, 0, 0, 0, 0, 0, [])), (1, (.aload_n 1, 2, false, false, 1, 0, 0, 0, 0, 0, [])), (2, (.getfield 27, 5, false, false, 8, 0, 0, 0, 0, 0, [])), (5, (.putfield 27, 8, false, false, 8, 0, 0, 0, 0, 0, [])), (8, (.aload_n 0, 9, false, false, 0, 0, 0, 0, 0, 0, [])), (9, (.aload_n 1, 10, false, false, 1, 0, 0, 0, 0, 0, [])), (10, (.getfield 31, 13, false, false, 8, 1, 0, 0, 0, 0, [])), (13, (.putfield 31, 16, false, false, 8, 1, 0, 0, 0, 0, [])), (16, (.aload_n 1, 17, false, false, 1, 0, 0, 0, 0, 0, [])), (17, (.getfield 11, 20, false, false, 8, 2, 1, 0, 0, 0, [])), (20, (.iconst 0, 21, false, false, 0, 0, 0, 0, 0, 0, [])), (21, (.aload_n 0, 22, false, false, 0, 0, 0, 0, 0, 0, [])), (22, (.getfield 11, 25, false, false, 8, 2, 1, 0, 0, 0, [])), (25, (.iconst 0, 26, false, false, 0, 0, 0, 0, 0, 0, [])), (26, (.bipush 6, 28, false, false, 0, 0, 0, 0, 6, 0, [])), (28, (.invokestatic 34, 31, false, false, 0, 5, 0, 2, 0, 0, [])), (31, (.aload_n 1, 32, false, false, 1, 0, 0, 0, 0, 0, [])), (32, (.getfield 15, 35, false, false, 8, 3, 1, 0, 0, 0, [])), (35, (.iconst 0, 36, false, false, 0, 0, 0, 0, 0, 0, [])), (36, (.aload_n 0, 37, false, false, 0, 0, 0, 0, 0, 0, [])), (37, (.getfield 15, 40, false, false, 8, 3, 1, 0, 0, 0, [])), (40, (.iconst 0, 41, false, false, 0, 0, 0, 0, 0, 0, [])), (41, (.bipush 6, 43, false, false, 0, 0, 0, 0, 6, 0, [])), (43, (.invokestatic 34, 46, false, false, 0, 5, 0, 2, 0, 0, []))]),
  (86, [(46, (.aload_n 1, 47, false, false, 1, 0, 0, 0, 0, 0, [])), (47, (.getfield 18, 50, false, false, 8, 4, 1, 0, 0, 0, [])), (50, (.iconst 0, 51, false, false, 0, 0, 0, 0, 0, 0, [])), (51, (.aload_n 0, 52, false, false, 0, 0, 0, 0, 0, 0, [])), (52, (.getfield 18, 55, false, false, 8, 4, 1, 0, 0, 0, [])), (55, (.iconst 0, 56, false, false, 0, 0, 0, 0, 0, 0, [])), (56, (.bipush 6, 58, false, false, 0, 0, 0, 0, 6, 0, [])), (58, (.invokestatic 34, 61, false, false, 0, 5, 0, 2, 0, 0, [])), (61, (.aload_n 1, 62, false, false, 1, 0, 0, 0, 0, 0, [])), (62, (.getfield 21, 65, false, false, 8, 5, 1, 0, 0, 0, [])), (65, (.iconst 0, 66, false, false, 0, 0, 0, 0, 0, 0, [])), (66, (.aload_n 0, 67, false, false, 0, 0, 0, 0, 0, 0, [])), (67, (.getfield 21, 70, false, false, 8, 5, 1, 0, 0, 0, [])), (70, (.iconst 0, 71, false, false, 0, 0, 0, 0, 0, 0, [])), (71, (.iconst 4, 72, false, false, 0, 0, 0, 0, 4, 0, [])), (72, (.invokestatic 34, 75, false, false, 0, 5, 0, 2, 0, 0, [])), (75, (.aload_n 1, 76, false, false, 1, 0, 0, 0, 0, 0, [])), (76, (.getfield 24, 79, false, false, 8, 6, 1, 0, 0, 0, [])), (79, (.iconst 0, 80, false, false, 0, 0, 0, 0, 0, 0, [])), (80, (.aload_n 0, 81, false, false, 0, 0, 0, 0, 0, 0, [])), (81, (.getfield 24, 84, false, false, 8, 6, 1, 0, 0, 0, [])), (84, (.iconst 0, 85, false, false, 0, 0, 0, 0, 0, 0, [])), (85, (.iconst 4, 86, false, false, 0, 0, 0, 0, 4, 0, [])), (86, (.invokestatic 34, 89, false, false, 0, 5, 0, 2, 0, 0, []))]),
  (89, [(89, (.return_, 90, false, false, 0, 0, 0, 0, 0, 0, []))])], 0, [])
set_option maxRecDepth 100000 in
theorem v_X5_copyFrom : VE MYT dflT E_X5_copyFrom := ⟨⟨⟨⟨⟨dX5_copyFrom_0, rfl⟩, rfl⟩, ⟨⟨dX5_copyFrom_1, rfl⟩, rfl⟩, ⟨⟨dX5_copyFrom_2, rfl⟩, Or.inl ⟨by decide, _, _, fX5_27⟩⟩, ⟨⟨dX5_copyFrom_5, rfl⟩, Or.inl ⟨rfl, fX5_27⟩⟩, ⟨⟨dX5_copyFrom_8, rfl⟩, rfl⟩, ⟨⟨dX5_copyFrom_9, rfl⟩, rfl⟩, ⟨⟨dX5_copyFrom_10, rfl⟩, Or.inl ⟨by decide, _, _, fX5_31⟩⟩, ⟨⟨dX5_copyFrom_13, rfl⟩, Or.inl ⟨rfl, fX5_31⟩⟩, ⟨⟨dX5_copyFrom_16, rfl⟩, rfl⟩, ⟨⟨dX5_copyFrom_17, rfl⟩, Or.inl ⟨by decide, _, _, fX5_11⟩⟩, ⟨⟨dX5_copyFrom_20, rfl⟩, rfl⟩, ⟨⟨dX5_copyFrom_21, rfl⟩, rfl⟩, ⟨⟨dX5_copyFrom_22, rfl⟩, Or.inl ⟨by decide, _, _, fX5_11⟩⟩, ⟨⟨dX5_copyFrom_25, rfl⟩, rfl⟩, ⟨⟨dX5_copyFrom_26, rfl⟩, rfl⟩, ⟨⟨dX5_copyFrom_28, rfl⟩, Or.inr (Or.inr (Or.inl ⟨rfl, acX5_34, ac_1, ac_2, ac_3⟩))⟩, ⟨⟨dX5_copyFrom_31, rfl⟩, rfl⟩, ⟨⟨dX5_copyFrom_32, rfl⟩, Or.inl ⟨by decide, _, _, fX5_15⟩⟩, ⟨⟨dX5_copyFrom_35, rfl⟩, rfl⟩, ⟨⟨dX5_copyFrom_36, rfl⟩, rfl⟩, ⟨⟨dX5_copyFrom_37, rfl⟩, Or.inl ⟨by decide, _, _, fX5_15⟩⟩, ⟨⟨dX5_copyFrom_40, rfl⟩, rfl⟩, ⟨⟨dX5_copyFrom_41, rfl⟩, rfl⟩, ⟨⟨dX5_copyFrom_43, rfl⟩, Or.inr (Or.inr (Or.inl ⟨rfl, acX5_34, ac_1, ac_2, ac_3⟩))⟩, trivial⟩,
  ⟨⟨⟨dX5_copyFrom_46, rfl⟩, rfl⟩, ⟨⟨dX5_copyFrom_47, rfl⟩, Or.inl ⟨by decide, _, _, fX5_18⟩⟩, ⟨⟨dX5_copyFrom_50, rfl⟩, rfl⟩, ⟨⟨dX5_copyFrom_51, rfl⟩, rfl⟩, ⟨⟨dX5_copyFrom_52, rfl⟩, Or.inl ⟨by decide, _, _, fX5_18⟩⟩, ⟨⟨dX5_copyFrom_55, rfl⟩, rfl⟩, ⟨⟨dX5_copyFrom_56, rfl⟩, rfl⟩, ⟨⟨dX5_copyFrom_58, rfl⟩, Or.inr (Or.inr (Or.inl ⟨rfl, acX5_34, ac_1, ac_2, ac_3⟩))⟩, ⟨⟨dX5_copyFrom_61, rfl⟩, rfl⟩, ⟨⟨dX5_copyFrom_62, rfl⟩, Or.inl ⟨by decide, _, _, fX5_21⟩⟩, ⟨⟨dX5_copyFrom_65, rfl⟩, rfl⟩, ⟨⟨dX5_copyFrom_66, rfl⟩, rfl⟩, ⟨⟨dX5_copyFrom_67, rfl⟩, Or.inl ⟨by decide, _, _, fX5_21⟩⟩, ⟨⟨dX5_copyFrom_70, rfl⟩, rfl⟩, ⟨⟨dX5_copyFrom_71, rfl⟩, rfl⟩, ⟨⟨dX5_copyFrom_72, rfl⟩, Or.inr (Or.inr (Or.inl ⟨rfl, acX5_34, ac_1, ac_2, ac_3⟩))⟩, ⟨⟨dX5_copyFrom_75, rfl⟩, rfl⟩, ⟨⟨dX5_copyFrom_76, rfl⟩, Or.inl ⟨by decide, _, _, fX5_24⟩⟩, ⟨⟨dX5_copyFrom_79, rfl⟩, rfl⟩, ⟨⟨dX5_copyFrom_80, rfl⟩, rfl⟩, ⟨⟨dX5_copyFrom_81, rfl⟩, Or.inl ⟨by decide, _, _, fX5_24⟩⟩, ⟨⟨dX5_copyFrom_84, rfl⟩, rfl⟩, ⟨⟨dX5_copyFrom_85, rfl⟩, rfl⟩, ⟨⟨dX5_copyFrom_86, rfl⟩, Or.inr (Or.inr (Or.inl ⟨rfl, acX5_34, ac_1, ac_2, ac_3⟩))⟩, trivial⟩,
  ⟨⟨⟨dX5_copyFrom_89, rfl⟩, rfl⟩, trivial⟩, trivial⟩, by decide, Or.inl ⟨rfl, by decide, rfl⟩⟩
set_option maxRecDepth 100000 in
theorem g_X5_copyFrom_0 (S : sT) (call : cT) (n : Nat) (a0 : Nat) (v1 : Value) (h : pH) : bd S call dflT E_X5_copyFrom (n + 1) 0 [some (.ref a0), some (v1)] [] h = (iA v1 (gI h v1 8 0 (fun y1 => pF h (.ref a0) 8 0 (.int y1) (fun h2 => iA v1 (gI h2 v1 8 1 (fun y3 => pF h2 (.ref a0) 8 1 (.int y3) (fun h4 => iA v1 (gV h4 v1 8 2 (fun w5 => gV h4 (.ref a0) 8 2 (fun w6 => cpI h4 w5 0 w6 0 6 (fun h7 => iA v1 (gV h7 v1 8 3 (fun w8 => gV h7 (.ref a0) 8 3 (fun w9 => cpI h7 w8 0 w9 0 6 (fun h10 => iA v1 (gV h10 v1 8 4 (fun w11 => gV h10 (.ref a0) 8 4 (fun w12 => cpI h10 w11 0 w12 0 6 (fun h13 => iA v1 (gV h13 v1 8 5 (fun w14 => gV h13 (.ref a0) 8 5 (fun w15 => cpI h13 w14 0 w15 0 4 (fun h16 => iA v1 (gV h16 v1 8 6 (fun w17 => gV h16 (.ref a0) 8 6 (fun w18 => cpI h16 w17 0 w18 0 4 (fun h19 => some (.inl none, h19)))))))))))))))))))))))))))) := rfl
