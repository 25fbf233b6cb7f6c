/-! by program: methods as data, that they are right, what their bodies do -/
theorem dX6_init_0 : decode cX6_init 0 = .ok (.aload_n 0, 1) := by decide +kernel
theorem dX6_init_1 : decode cX6_init 1 = .ok (.invokespecial 5, 3) := by decide +kernel
theorem dX6_init_4 : decode cX6_init 4 = .ok (.aload_n 0, 1) := by decide +kernel
theorem dX6_init_5 : decode cX6_init 5 = .ok (.sipush 400, 3) := by decide +kernel
theorem dX6_init_8 : decode cX6_init 8 = .ok (.newarray .byte, 2) := by decide +kernel
theorem dX6_init_10 : decode cX6_init 10 = .ok (.putfield 11, 3) := by decide +kernel
theorem dX6_init_13 : decode cX6_init 13 = .ok (.aload_n 0, 1) := by decide +kernel
theorem dX6_init_14 : decode cX6_init 14 = .ok (.iconst (-1), 1) := by decide +kernel
theorem dX6_init_15 : decode cX6_init 15 = .ok (.putfield 17, 3) := by decide +kernel
theorem dX6_init_18 : decode cX6_init 18 = .ok (.aload_n 0, 1) := by decide +kernel
theorem dX6_init_19 : decode cX6_init 19 = .ok (.sipush 496, 3) := by decide +kernel
theorem dX6_init_22 : decode cX6_init 22 = .ok (.newarray .int, 2) := by decide +kernel
theorem dX6_init_24 : decode cX6_init 24 = .ok (.putfield 21, 3) := by decide +kernel
theorem dX6_init_27 : decode cX6_init 27 = .ok (.return_, 1) := by decide +kernel
noncomputable def E_X6_init : mE := (mX6_init, [(27, [(0, (.aload_n 0, 1, false, false, 0, 0, 0, 0, 0, 0, [])), (1, (.invokespecial 5, 4, false, false, 0, 0, 0, 1, 0, 0, [])), (4, (.aload_n 0, 5, false, false, 0, 0, 0, 0, 0, 0, [])), (5, (.sipush 400, 8, false, false, 0, 0, 0, 0, 400, 0, [])), (8, (.newarray .byte, 10, false, false, 0, 0, 1, 0, 0, 0, [])), (10, (.putfield 11, 13, false, false, 9, 0, 4, 0, 0, 0, [])), (13, (.aload_n 0, 14, false, false, 0, 0, 0, 0, 0, 0, [])), (14, (.iconst (-1), 15, false, false, 0, 0, 0, 0, -1, 0, [])), (15, (.putfield 17, 18, false, false, 9, 2, 0, 0, 0, 0, [])), (18, (.aload_n 0, 19, false, false, 0, 0, 0, 0, 0, 0, [])), (19, (.sipush 496, 22, false, false, 0, 0, 0, 0, 496, 0, [])), (22, (.newarray .int, 24, false, false, 0, 0, 0, 0, 0, 0, [])), (24, (.putfield 21, 27, false, false, 9, 8, 4, 0, 0, 0, [])), (27, (.return_, 28, false, false, 0, 0, 0, 0, 0, 0, []))])], 0, [])
set_option maxRecDepth 100000 in
theorem v_X6_init : VE MYT dflT E_X6_init := ⟨⟨⟨⟨⟨dX6_init_0, rfl⟩, rfl⟩, ⟨⟨dX6_init_1, rfl⟩, Or.inr ⟨rfl, oX6_5, o_1, o_2⟩⟩, ⟨⟨dX6_init_4, rfl⟩, rfl⟩, ⟨⟨dX6_init_5, rfl⟩, rfl⟩, ⟨⟨dX6_init_8, rfl⟩, Or.inr (Or.inl ⟨rfl, rfl, a_byte⟩)⟩, ⟨⟨dX6_init_10, rfl⟩, Or.inr (Or.inr (Or.inr (Or.inr ⟨rfl, ⟨_, (Or.inr ⟨_, rfl⟩), fX6_11⟩, rfl, rfl⟩)))⟩, ⟨⟨dX6_init_13, rfl⟩, rfl⟩, ⟨⟨dX6_init_14, rfl⟩, rfl⟩, ⟨⟨dX6_init_15, rfl⟩, Or.inl ⟨rfl, fX6_17⟩⟩, ⟨⟨dX6_init_18, rfl⟩, rfl⟩, ⟨⟨dX6_init_19, rfl⟩, rfl⟩, ⟨⟨dX6_init_22, rfl⟩, Or.inl ⟨rfl, rfl, a_int⟩⟩, ⟨⟨dX6_init_24, rfl⟩, Or.inr (Or.inr (Or.inr (Or.inr ⟨rfl, ⟨_, (Or.inr ⟨_, rfl⟩), fX6_21⟩, rfl, rfl⟩)))⟩, ⟨⟨dX6_init_27, rfl⟩, rfl⟩, trivial⟩, trivial⟩, by decide, Or.inl ⟨rfl, by decide, rfl⟩⟩
set_option maxRecDepth 100000 in
theorem g_X6_init_0 (S : sT) (call : cT) (n : Nat) (a0 : Nat) (h : pH) : bd S call dflT E_X6_init (n + 1) 0 [some (.ref a0)] [] h = (mkI h 1 400 (fun h1 => pF h1 (.ref a0) 9 0 (.ref (List.length h)) (fun h2 => pF h2 (.ref a0) 9 2 (.int (-1)) (fun h3 => mkI h3 0 496 (fun h4 => pF h4 (.ref a0) 9 8 (.ref (List.length h3)) (fun h5 => some (.inl none, h5))))))) := rfl
theorem dX6_addBytes_0 : decode cX6_addBytes 0 = .ok (.bipush 24, 2) := by decide +kernel
theorem dX6_addBytes_2 : decode cX6_addBytes 2 = .ok (.istore_n 2, 1) := by decide +kernel
theorem dX6_addBytes_3 : decode cX6_addBytes 3 = .ok (.iload_n 2, 1) := by decide +kernel
theorem dX6_addBytes_4 : decode cX6_addBytes 4 = .ok (.ifCond .lt 42, 3) := by decide +kernel
theorem dX6_addBytes_7 : decode cX6_addBytes 7 = .ok (.aload_n 0, 1) := by decide +kernel
theorem dX6_addBytes_8 : decode cX6_addBytes 8 = .ok (.getfield 25, 3) := by decide +kernel
theorem dX6_addBytes_11 : decode cX6_addBytes 11 = .ok (.sipush 400, 3) := by decide +kernel
theorem dX6_addBytes_14 : decode cX6_addBytes 14 = .ok (.if_icmp .ge 32, 3) := by decide +kernel
theorem dX6_addBytes_17 : decode cX6_addBytes 17 = .ok (.aload_n 0, 1) := by decide +kernel
theorem dX6_addBytes_18 : decode cX6_addBytes 18 = .ok (.getfield 11, 3) := by decide +kernel
theorem dX6_addBytes_21 : decode cX6_addBytes 21 = .ok (.aload_n 0, 1) := by decide +kernel
theorem dX6_addBytes_22 : decode cX6_addBytes 22 = .ok (.getfield 25, 3) := by decide +kernel
theorem dX6_addBytes_25 : decode cX6_addBytes 25 = .ok (.iload_n 1, 1) := by decide +kernel
theorem dX6_addBytes_26 : decode cX6_addBytes 26 = .ok (.iload_n 2, 1) := by decide +kernel
theorem dX6_addBytes_27 : decode cX6_addBytes 27 = .ok (.ishr, 1) := by decide +kernel
theorem dX6_addBytes_28 : decode cX6_addBytes 28 = .ok (.i2b, 1) := by decide +kernel
theorem dX6_addBytes_29 : decode cX6_addBytes 29 = .ok (.bastore, 1) := by decide +kernel
theorem dX6_addBytes_30 : decode cX6_addBytes 30 = .ok (.aload_n 0, 1) := by decide +kernel
theorem dX6_addBytes_31 : decode cX6_addBytes 31 = .ok (.dup, 1) := by decide +kernel
theorem dX6_addBytes_32 : decode cX6_addBytes 32 = .ok (.getfield 25, 3) := by decide +kernel
theorem dX6_addBytes_35 : decode cX6_addBytes 35 = .ok (.iconst 1, 1) := by decide +kernel
theorem dX6_addBytes_36 : decode cX6_addBytes 36 = .ok (.iadd, 1) := by decide +kernel
theorem dX6_addBytes_37 : decode cX6_addBytes 37 = .ok (.putfield 25, 3) := by decide +kernel
theorem dX6_addBytes_40 : decode cX6_addBytes 40 = .ok (.iinc 2 (-8), 3) := by decide +kernel
theorem dX6_addBytes_43 : decode cX6_addBytes 43 = .ok (.goto (-40), 3) := by decide +kernel
theorem dX6_addBytes_46 : decode cX6_addBytes 46 = .ok (.return_, 1) := by decide +kernel
noncomputable def E_X6_addBytes : mE := (mX6_addBytes, [(40, [(0, (.bipush 24, 2, false, false, 0, 0, 0, 0, 24, 0, [])), (2, (.istore_n 2, 3, true, false, 2, 0, 0, 0, 0, 0, [])), (3, (.iload_n 2, 4, false, false, 2, 0, 0, 0, 0, 0, [])), (4, (.ifCond .lt 42, 7, false, false, 46, 0, 0, 0, 0, 0, [])), (7, (.aload_n 0, 8, false, false, 0, 0, 0, 0, 0, 0, [])), (8, (.getfield 25, 11, false, false, 9, 1, 0, 0, 0, 0, [])), (11, (.sipush 400, 14, false, false, 0, 0, 0, 0, 400, 0, [])), (14, (.if_icmp .ge 32, 17, false, false, 46, 0, 0, 0, 0, 0, [])), (17, (.aload_n 0, 18, false, false, 0, 0, 0, 0, 0, 0, [])), (18, (.getfield 11, 21, false, false, 9, 0, 1, 0, 0, 0, [])), (21, (.aload_n 0, 22, false, false, 0, 0, 0, 0, 0, 0, [])), (22, (.getfield 25, 25, false, false, 9, 1, 0, 0, 0, 0, [])), (25, (.iload_n 1, 26, false, false, 1, 0, 0, 0, 0, 0, [])), (26, (.iload_n 2, 27, false, false, 2, 0, 0, 0, 0, 0, [])), (27, (.ishr, 28, false, false, 0, 0, 0, 0, 0, 0, [])), (28, (.i2b, 29, false, false, 0, 0, 0, 0, 0, 0, [])), (29, (.bastore, 30, false, false, 0, 0, 0, 0, 0, 0, [])), (30, (.aload_n 0, 31, false, false, 0, 0, 0, 0, 0, 0, [])), (31, (.dup, 32, false, false, 0, 0, 0, 0, 0, 0, [])), (32, (.getfield 25, 35, false, false, 9, 1, 0, 0, 0, 0, [])), (35, (.iconst 1, 36, false, false, 0, 0, 0, 0, 1, 0, [])), (36, (.iadd, 37, false, false, 0, 0, 0, 0, 0, 0, [])), (37, (.putfield 25, 40, false, false, 9, 1, 0, 0, 0, 0, [])), (40, (.iinc 2 (-8), 43, false, false, 2, 0, 0, 0, -8, 0, []))]),
  (46, [(43, (.goto (-40), 46, false, true, 3, 0, 0, 0, 0, 0, [])), (46, (.return_, 47, false, false, 0, 0, 0, 0, 0, 0, []))])], 0, [])
set_option maxRecDepth 100000 in
theorem v_X6_addBytes : VE MYT dflT E_X6_addBytes := ⟨⟨⟨⟨⟨dX6_addBytes_0, rfl⟩, rfl⟩, ⟨⟨dX6_addBytes_2, rfl⟩, rfl⟩, ⟨⟨dX6_addBytes_3, rfl⟩, rfl⟩, ⟨⟨dX6_addBytes_4, rfl⟩, rfl⟩, ⟨⟨dX6_addBytes_7, rfl⟩, rfl⟩, ⟨⟨dX6_addBytes_8, rfl⟩, Or.inl ⟨by decide, _, _, fX6_25⟩⟩, ⟨⟨dX6_addBytes_11, rfl⟩, rfl⟩, ⟨⟨dX6_addBytes_14, rfl⟩, rfl⟩, ⟨⟨dX6_addBytes_17, rfl⟩, rfl⟩, ⟨⟨dX6_addBytes_18, rfl⟩, Or.inl ⟨by decide, _, _, fX6_11⟩⟩, ⟨⟨dX6_addBytes_21, rfl⟩, rfl⟩, ⟨⟨dX6_addBytes_22, rfl⟩, Or.inl ⟨by decide, _, _, fX6_25⟩⟩, ⟨⟨dX6_addBytes_25, rfl⟩, rfl⟩, ⟨⟨dX6_addBytes_26, rfl⟩, rfl⟩, ⟨⟨dX6_addBytes_27, rfl⟩, trivial⟩, ⟨⟨dX6_addBytes_28, rfl⟩, trivial⟩, ⟨⟨dX6_addBytes_29, rfl⟩, trivial⟩, ⟨⟨dX6_addBytes_30, rfl⟩, rfl⟩, ⟨⟨dX6_addBytes_31, rfl⟩, trivial⟩, ⟨⟨dX6_addBytes_32, rfl⟩, Or.inl ⟨by decide, _, _, fX6_25⟩⟩, ⟨⟨dX6_addBytes_35, rfl⟩, rfl⟩, ⟨⟨dX6_addBytes_36, rfl⟩, trivial⟩, ⟨⟨dX6_addBytes_37, rfl⟩, Or.inl ⟨rfl, fX6_25⟩⟩, ⟨⟨dX6_addBytes_40, rfl⟩, ⟨rfl, rfl⟩⟩, trivial⟩,
  ⟨⟨⟨dX6_addBytes_43, rfl⟩, rfl⟩, ⟨⟨dX6_addBytes_46, rfl⟩, rfl⟩, trivial⟩, trivial⟩, by decide, Or.inl ⟨rfl, by decide, rfl⟩⟩
set_option maxRecDepth 100000 in
theorem g_X6_addBytes_0 (S : sT) (call : cT) (n : Nat) (a0 : Nat) (x1 : Int32) (h : pH) : bd S call dflT E_X6_addBytes (n + 1) 0 [some (.ref a0), some (.int x1), none] [] h = (bd S call dflT E_X6_addBytes n 3 [some (.ref a0), some (.int x1), some (.int 24)] [] h) := rfl
set_option maxRecDepth 100000 in
theorem g_X6_addBytes_3 (S : sT) (call : cT) (n : Nat) (a0 : Nat) (x1 : Int32) (x2 : Int32) (h : pH) : bd S call dflT E_X6_addBytes (n + 1) 3 [some (.ref a0), some (.int x1), some (.int x2)] [] h = ((if x2 < 0 then some (.inl none, h) else gI h (.ref a0) 9 1 (fun y1 => (if 400 ≤ y1 then some (.inl none, h) else gV h (.ref a0) 9 0 (fun w2 => gI h (.ref a0) 9 1 (fun y3 => sI h w2 1 y3 ((x1 >>> (x2 &&& 31)).toInt8.toInt32).toInt8.toInt32 (fun h4 => gI h4 (.ref a0) 9 1 (fun y5 => pF h4 (.ref a0) 9 1 (.int (y5 + 1)) (fun h6 => bd S call dflT E_X6_addBytes n 3 [some (.ref a0), some (.int x1), some (.int (x2 + (-8)))] [] h6))))))))) := rfl
theorem dX6_useTape_0 : decode cX6_useTape 0 = .ok (.aload_n 0, 1) := by decide +kernel
theorem dX6_useTape_1 : decode cX6_useTape 1 = .ok (.aload_n 0, 1) := by decide +kernel
theorem dX6_useTape_2 : decode cX6_useTape 2 = .ok (.getfield 25, 3) := by decide +kernel
theorem dX6_useTape_5 : decode cX6_useTape 5 = .ok (.putfield 28, 3) := by decide +kernel
theorem dX6_useTape_8 : decode cX6_useTape 8 = .ok (.aload_n 0, 1) := by decide +kernel
theorem dX6_useTape_9 : decode cX6_useTape 9 = .ok (.iconst 0, 1) := by decide +kernel
theorem dX6_useTape_10 : decode cX6_useTape 10 = .ok (.putfield 25, 3) := by decide +kernel
theorem dX6_useTape_13 : decode cX6_useTape 13 = .ok (.return_, 1) := by decide +kernel
noncomputable def E_X6_useTape : mE := (mX6_useTape, [(13, [(0, (.aload_n 0, 1, false, false, 0, 0, 0, 0, 0, 0, [])), (1, (.aload_n 0, 2, false, false, 0, 0, 0, 0, 0, 0, [])), (2, (.getfield 25, 5, false, false, 9, 1, 0, 0, 0, 0, [])), (5, (.putfield 28, 8, false, false, 9, 3, 0, 0, 0, 0, [])), (8, (.aload_n 0, 9, false, false, 0, 0, 0, 0, 0, 0, [])), (9, (.iconst 0, 10, false, false, 0, 0, 0, 0, 0, 0, [])), (10, (.putfield 25, 13, false, false, 9, 1, 0, 0, 0, 0, [])), (13, (.return_, 14, false, false, 0, 0, 0, 0, 0, 0, []))])], 0, [])
set_option maxRecDepth 100000 in
theorem v_X6_useTape : VE MYT dflT E_X6_useTape := ⟨⟨⟨⟨⟨dX6_useTape_0, rfl⟩, rfl⟩, ⟨⟨dX6_useTape_1, rfl⟩, rfl⟩, ⟨⟨dX6_useTape_2, rfl⟩, Or.inl ⟨by decide, _, _, fX6_25⟩⟩, ⟨⟨dX6_useTape_5, rfl⟩, Or.inl ⟨rfl, fX6_28⟩⟩, ⟨⟨dX6_useTape_8, rfl⟩, rfl⟩, ⟨⟨dX6_useTape_9, rfl⟩, rfl⟩, ⟨⟨dX6_useTape_10, rfl⟩, Or.inl ⟨rfl, fX6_25⟩⟩, ⟨⟨dX6_useTape_13, rfl⟩, rfl⟩, trivial⟩, trivial⟩, by decide, Or.inl ⟨rfl, by decide, rfl⟩⟩
set_option maxRecDepth 100000 in
theorem g_X6_useTape_0 (S : sT) (call : cT) (n : Nat) (a0 : Nat) (h : pH) : bd S call dflT E_X6_useTape (n + 1) 0 [some (.ref a0)] [] h = (gI h (.ref a0) 9 1 (fun y1 => pF h (.ref a0) 9 3 (.int y1) (fun h2 => pF h2 (.ref a0) 9 1 (.int 0) (fun h3 => some (.inl none, h3))))) := rfl
theorem dX6_isLetter_0 : decode cX6_isLetter 0 = .ok (.iload_n 0, 1) := by decide +kernel
theorem dX6_isLetter_1 : decode cX6_isLetter 1 = .ok (.bipush 97, 2) := by decide +kernel
theorem dX6_isLetter_3 : decode cX6_isLetter 3 = .ok (.if_icmp .lt 13, 3) := by decide +kernel
theorem dX6_isLetter_6 : decode cX6_isLetter 6 = .ok (.iload_n 0, 1) := by decide +kernel
theorem dX6_isLetter_7 : decode cX6_isLetter 7 = .ok (.bipush 122, 2) := by decide +kernel
theorem dX6_isLetter_9 : decode cX6_isLetter 9 = .ok (.if_icmp .gt 7, 3) := by decide +kernel
theorem dX6_isLetter_12 : decode cX6_isLetter 12 = .ok (.iconst 1, 1) := by decide +kernel
theorem dX6_isLetter_13 : decode cX6_isLetter 13 = .ok (.goto 4, 3) := by decide +kernel
theorem dX6_isLetter_16 : decode cX6_isLetter 16 = .ok (.iconst 0, 1) := by decide +kernel
theorem dX6_isLetter_17 : decode cX6_isLetter 17 = .ok (.ireturn, 1) := by decide +kernel
noncomputable def E_X6_isLetter : mE := (mX6_isLetter, [(17, [(0, (.iload_n 0, 1, false, false, 0, 0, 0, 0, 0, 0, [])), (1, (.bipush 97, 3, false, false, 0, 0, 0, 0, 97, 0, [])), (3, (.if_icmp .lt 13, 6, false, false, 16, 0, 0, 0, 0, 0, [])), (6, (.iload_n 0, 7, false, false, 0, 0, 0, 0, 0, 0, [])), (7, (.bipush 122, 9, false, false, 0, 0, 0, 0, 122, 0, [])), (9, (.if_icmp .gt 7, 12, false, false, 16, 0, 0, 0, 0, 0, [])), (12, (.iconst 1, 13, false, false, 0, 0, 0, 0, 1, 0, [])), (13, (.goto 4, 16, false, false, 17, 0, 0, 0, 0, 0, [])), (16, (.iconst 0, 17, false, false, 0, 0, 0, 0, 0, 0, [])), (17, (.ireturn, 18, false, false, 0, 0, 1, 0, 0, 0, []))])], 0, [])
set_option maxRecDepth 100000 in
theorem v_X6_isLetter : VE MYT dflT E_X6_isLetter := ⟨⟨⟨⟨⟨dX6_isLetter_0, rfl⟩, rfl⟩, ⟨⟨dX6_isLetter_1, rfl⟩, rfl⟩, ⟨⟨dX6_isLetter_3, rfl⟩, rfl⟩, ⟨⟨dX6_isLetter_6, rfl⟩, rfl⟩, ⟨⟨dX6_isLetter_7, rfl⟩, rfl⟩, ⟨⟨dX6_isLetter_9, rfl⟩, rfl⟩, ⟨⟨dX6_isLetter_12, rfl⟩, rfl⟩, ⟨⟨dX6_isLetter_13, rfl⟩, rfl⟩, ⟨⟨dX6_isLetter_16, rfl⟩, rfl⟩, ⟨⟨dX6_isLetter_17, rfl⟩, Or.inr (Or.inl ⟨rfl, rfl⟩)⟩, trivial⟩, trivial⟩, by decide, Or.inl ⟨rfl, by decide, rfl⟩⟩
set_option maxRecDepth 100000 in
theorem g_X6_isLetter_0 (S : sT) (call : cT) (n : Nat) (x0 : Int32) (h : pH) : bd S call dflT E_X6_isLetter (n + 1) 0 [some (.int x0)] [] h = ((if x0 < 97 then zR 0 (some (.inl (some (.int 0)), h)) else (if 122 < x0 then zR 0 (some (.inl (some (.int 0)), h)) else zR 1 (some (.inl (some (.int 1)), h))))) := rfl
theorem dX6_wordFrom_0 : decode cX6_wordFrom 0 = .ok (.iconst 0, 1) := by decide +kernel
theorem dX6_wordFrom_1 : decode cX6_wordFrom 1 = .ok (.istore_n 2, 1) := by decide +kernel
theorem dX6_wordFrom_2 : decode cX6_wordFrom 2 = .ok (.iload_n 1, 1) := by decide +kernel
theorem dX6_wordFrom_3 : decode cX6_wordFrom 3 = .ok (.istore_n 3, 1) := by decide +kernel
theorem dX6_wordFrom_4 : decode cX6_wordFrom 4 = .ok (.iconst 1, 1) := by decide +kernel
theorem dX6_wordFrom_5 : decode cX6_wordFrom 5 = .ok (.istore 4, 2) := by decide +kernel
theorem dX6_wordFrom_7 : decode cX6_wordFrom 7 = .ok (.iconst 0, 1) := by decide +kernel
theorem dX6_wordFrom_8 : decode cX6_wordFrom 8 = .ok (.istore 5, 2) := by decide +kernel
theorem dX6_wordFrom_10 : decode cX6_wordFrom 10 = .ok (.iload 5, 2) := by decide +kernel
theorem dX6_wordFrom_12 : decode cX6_wordFrom 12 = .ok (.ldc 137, 2) := by decide +kernel
theorem dX6_wordFrom_14 : decode cX6_wordFrom 14 = .ok (.invokevirtual 139, 3) := by decide +kernel
theorem dX6_wordFrom_17 : decode cX6_wordFrom 17 = .ok (.if_icmp .gt 99, 3) := by decide +kernel
theorem dX6_wordFrom_20 : decode cX6_wordFrom 20 = .ok (.iload 5, 2) := by decide +kernel
theorem dX6_wordFrom_22 : decode cX6_wordFrom 22 = .ok (.ldc 137, 2) := by decide +kernel
theorem dX6_wordFrom_24 : decode cX6_wordFrom 24 = .ok (.invokevirtual 139, 3) := by decide +kernel
theorem dX6_wordFrom_27 : decode cX6_wordFrom 27 = .ok (.if_icmp .ge 13, 3) := by decide +kernel
theorem dX6_wordFrom_30 : decode cX6_wordFrom 30 = .ok (.ldc 137, 2) := by decide +kernel
theorem dX6_wordFrom_32 : decode cX6_wordFrom 32 = .ok (.iload 5, 2) := by decide +kernel
theorem dX6_wordFrom_34 : decode cX6_wordFrom 34 = .ok (.invokevirtual 144, 3) := by decide +kernel
theorem dX6_wordFrom_37 : decode cX6_wordFrom 37 = .ok (.goto 5, 3) := by decide +kernel
theorem dX6_wordFrom_40 : decode cX6_wordFrom 40 = .ok (.bipush 32, 2) := by decide +kernel
theorem dX6_wordFrom_42 : decode cX6_wordFrom 42 = .ok (.istore 6, 2) := by decide +kernel
theorem dX6_wordFrom_44 : decode cX6_wordFrom 44 = .ok (.iload 6, 2) := by decide +kernel
theorem dX6_wordFrom_46 : decode cX6_wordFrom 46 = .ok (.bipush 32, 2) := by decide +kernel
theorem dX6_wordFrom_48 : decode cX6_wordFrom 48 = .ok (.if_icmp .ne 29, 3) := by decide +kernel
theorem dX6_wordFrom_51 : decode cX6_wordFrom 51 = .ok (.iload 4, 2) := by decide +kernel
theorem dX6_wordFrom_53 : decode cX6_wordFrom 53 = .ok (.ifCond .eq 13, 3) := by decide +kernel
theorem dX6_wordFrom_56 : decode cX6_wordFrom 56 = .ok (.iload_n 3, 1) := by decide +kernel
theorem dX6_wordFrom_57 : decode cX6_wordFrom 57 = .ok (.aload_n 0, 1) := by decide +kernel
theorem dX6_wordFrom_58 : decode cX6_wordFrom 58 = .ok (.getfield 31, 3) := by decide +kernel
theorem dX6_wordFrom_61 : decode cX6_wordFrom 61 = .ok (.if_icmp .ne 5, 3) := by decide +kernel
theorem dX6_wordFrom_64 : decode cX6_wordFrom 64 = .ok (.iload_n 2, 1) := by decide +kernel
theorem dX6_wordFrom_65 : decode cX6_wordFrom 65 = .ok (.ireturn, 1) := by decide +kernel
theorem dX6_wordFrom_66 : decode cX6_wordFrom 66 = .ok (.iinc 2 1, 3) := by decide +kernel
theorem dX6_wordFrom_69 : decode cX6_wordFrom 69 = .ok (.iload_n 1, 1) := by decide +kernel
theorem dX6_wordFrom_70 : decode cX6_wordFrom 70 = .ok (.istore_n 3, 1) := by decide +kernel
theorem dX6_wordFrom_71 : decode cX6_wordFrom 71 = .ok (.iconst 1, 1) := by decide +kernel
theorem dX6_wordFrom_72 : decode cX6_wordFrom 72 = .ok (.istore 4, 2) := by decide +kernel
theorem dX6_wordFrom_74 : decode cX6_wordFrom 74 = .ok (.goto 36, 3) := by decide +kernel
theorem dX6_wordFrom_77 : decode cX6_wordFrom 77 = .ok (.iload 4, 2) := by decide +kernel
theorem dX6_wordFrom_79 : decode cX6_wordFrom 79 = .ok (.ifCond .eq 28, 3) := by decide +kernel
theorem dX6_wordFrom_82 : decode cX6_wordFrom 82 = .ok (.iload_n 3, 1) := by decide +kernel
theorem dX6_wordFrom_83 : decode cX6_wordFrom 83 = .ok (.aload_n 0, 1) := by decide +kernel
theorem dX6_wordFrom_84 : decode cX6_wordFrom 84 = .ok (.getfield 31, 3) := by decide +kernel
theorem dX6_wordFrom_87 : decode cX6_wordFrom 87 = .ok (.if_icmp .ge 20, 3) := by decide +kernel
theorem dX6_wordFrom_90 : decode cX6_wordFrom 90 = .ok (.aload_n 0, 1) := by decide +kernel
theorem dX6_wordFrom_91 : decode cX6_wordFrom 91 = .ok (.getfield 11, 3) := by decide +kernel
theorem dX6_wordFrom_94 : decode cX6_wordFrom 94 = .ok (.iload_n 3, 1) := by decide +kernel
theorem dX6_wordFrom_95 : decode cX6_wordFrom 95 = .ok (.baload, 1) := by decide +kernel
theorem dX6_wordFrom_96 : decode cX6_wordFrom 96 = .ok (.iload 6, 2) := by decide +kernel
theorem dX6_wordFrom_98 : decode cX6_wordFrom 98 = .ok (.if_icmp .ne 9, 3) := by decide +kernel
theorem dX6_wordFrom_101 : decode cX6_wordFrom 101 = .ok (.iinc 3 1, 3) := by decide +kernel
theorem dX6_wordFrom_104 : decode cX6_wordFrom 104 = .ok (.goto 6, 3) := by decide +kernel
theorem dX6_wordFrom_107 : decode cX6_wordFrom 107 = .ok (.iconst 0, 1) := by decide +kernel
theorem dX6_wordFrom_108 : decode cX6_wordFrom 108 = .ok (.istore 4, 2) := by decide +kernel
theorem dX6_wordFrom_110 : decode cX6_wordFrom 110 = .ok (.iinc 5 1, 3) := by decide +kernel
theorem dX6_wordFrom_113 : decode cX6_wordFrom 113 = .ok (.goto (-103), 3) := by decide +kernel
theorem dX6_wordFrom_116 : decode cX6_wordFrom 116 = .ok (.iconst (-1), 1) := by decide +kernel
theorem dX6_wordFrom_117 : decode cX6_wordFrom 117 = .ok (.ireturn, 1) := by decide +kernel
noncomputable def E_X6_wordFrom : mE := (mX6_wordFrom, [(46, [(0, (.iconst 0, 1, false, false, 0, 0, 0, 0, 0, 0, [])), (1, (.istore_n 2, 2, false, false, 2, 0, 0, 0, 0, 0, [])), (2, (.iload_n 1, 3, false, false, 1, 0, 0, 0, 0, 0, [])), (3, (.istore_n 3, 4, false, false, 3, 0, 0, 0, 0, 0, [])), (4, (.iconst 1, 5, false, false, 0, 0, 0, 0, 1, 0, [])), (5, (.istore 4, 7, false, false, 4, 0, 0, 0, 0, 0, [])), (7, (.iconst 0, 8, false, false, 0, 0, 0, 0, 0, 0, [])), (8, (.istore 5, 10, true, false, 5, 0, 0, 0, 0, 0, [])), (10, (.iload 5, 12, false, false, 5, 0, 0, 0, 0, 0, [])), (12, (.ldc 137, 14, false, false, 102, 2, 1, 0, 0, 0, [])), (14, (.invokevirtual 139, 17, false, false, 58, 0, 9, 0, 0, 0, [])), (17, (.if_icmp .gt 99, 20, false, false, 116, 0, 0, 0, 0, 0, [])), (20, (.iload 5, 22, false, false, 5, 0, 0, 0, 0, 0, [])), (22, (.ldc 137, 24, false, false, 102, 2, 1, 0, 0, 0, [])), (24, (.invokevirtual 139, 27, false, false, 58, 0, 9, 0, 0, 0, [])), (27, (.if_icmp .ge 13, 30, false, false, 40, 0, 0, 0, 0, 0, [])), (30, (.ldc 137, 32, false, false, 102, 2, 1, 0, 0, 0, [])), (32, (.iload 5, 34, false, false, 5, 0, 0, 0, 0, 0, [])), (34, (.invokevirtual 144, 37, false, false, 62, 1, 9, 0, 0, 0, [])), (37, (.goto 5, 40, false, true, 42, 0, 0, 0, 0, 0, [])), (40, (.bipush 32, 42, true, false, 0, 0, 0, 0, 32, 0, [])), (42, (.istore 6, 44, false, false, 6, 0, 0, 0, 0, 0, [])), (44, (.iload 6, 46, false, false, 6, 0, 0, 0, 0, 0, [])), (46, (.bipush 32, 48, false, false, 0, 0, 0, 0, 32, 0, []))]),
  (94, [(48, (.if_icmp .ne 29, 51, false, false, 77, 0, 0, 0, 0, 0, [])), (51, (.iload 4, 53, false, false, 4, 0, 0, 0, 0, 0, [])), (53, (.ifCond .eq 13, 56, false, false, 66, 0, 0, 0, 0, 0, [])), (56, (.iload_n 3, 57, false, false, 3, 0, 0, 0, 0, 0, [])), (57, (.aload_n 0, 58, false, false, 0, 0, 0, 0, 0, 0, [])), (58, (.getfield 31, 61, false, false, 9, 4, 0, 0, 0, 0, [])), (61, (.if_icmp .ne 5, 64, false, false, 66, 0, 0, 0, 0, 0, [])), (64, (.iload_n 2, 65, false, false, 2, 0, 0, 0, 0, 0, [])), (65, (.ireturn, 66, false, false, 0, 0, 0, 0, 0, 0, [])), (66, (.iinc 2 1, 69, false, false, 2, 0, 0, 0, 1, 0, [])), (69, (.iload_n 1, 70, false, false, 1, 0, 0, 0, 0, 0, [])), (70, (.istore_n 3, 71, false, false, 3, 0, 0, 0, 0, 0, [])), (71, (.iconst 1, 72, false, false, 0, 0, 0, 0, 1, 0, [])), (72, (.istore 4, 74, false, false, 4, 0, 0, 0, 0, 0, [])), (74, (.goto 36, 77, false, false, 110, 0, 0, 0, 0, 0, [])), (77, (.iload 4, 79, false, false, 4, 0, 0, 0, 0, 0, [])), (79, (.ifCond .eq 28, 82, false, false, 107, 0, 0, 0, 0, 0, [])), (82, (.iload_n 3, 83, false, false, 3, 0, 0, 0, 0, 0, [])), (83, (.aload_n 0, 84, false, false, 0, 0, 0, 0, 0, 0, [])), (84, (.getfield 31, 87, false, false, 9, 4, 0, 0, 0, 0, [])), (87, (.if_icmp .ge 20, 90, false, false, 107, 0, 0, 0, 0, 0, [])), (90, (.aload_n 0, 91, false, false, 0, 0, 0, 0, 0, 0, [])), (91, (.getfield 11, 94, false, false, 9, 0, 1, 0, 0, 0, [])), (94, (.iload_n 3, 95, false, false, 3, 0, 0, 0, 0, 0, []))]),
  (117, [(95, (.baload, 96, false, false, 0, 0, 0, 0, 0, 0, [])), (96, (.iload 6, 98, false, false, 6, 0, 0, 0, 0, 0, [])), (98, (.if_icmp .ne 9, 101, false, false, 107, 0, 0, 0, 0, 0, [])), (101, (.iinc 3 1, 104, false, false, 3, 0, 0, 0, 1, 0, [])), (104, (.goto 6, 107, false, false, 110, 0, 0, 0, 0, 0, [])), (107, (.iconst 0, 108, false, false, 0, 0, 0, 0, 0, 0, [])), (108, (.istore 4, 110, false, false, 4, 0, 0, 0, 0, 0, [])), (110, (.iinc 5 1, 113, false, false, 5, 0, 0, 0, 1, 0, [])), (113, (.goto (-103), 116, false, true, 10, 0, 0, 0, 0, 0, [])), (116, (.iconst (-1), 117, false, false, 0, 0, 0, 0, -1, 0, [])), (117, (.ireturn, 118, false, false, 0, 0, 0, 0, 0, 0, []))])], 0, [])
set_option maxRecDepth 100000 in
theorem v_X6_wordFrom : VE MYT dflT E_X6_wordFrom := ⟨⟨⟨⟨⟨dX6_wordFrom_0, rfl⟩, rfl⟩, ⟨⟨dX6_wordFrom_1, rfl⟩, rfl⟩, ⟨⟨dX6_wordFrom_2, rfl⟩, rfl⟩, ⟨⟨dX6_wordFrom_3, rfl⟩, rfl⟩, ⟨⟨dX6_wordFrom_4, rfl⟩, rfl⟩, ⟨⟨dX6_wordFrom_5, rfl⟩, rfl⟩, ⟨⟨dX6_wordFrom_7, rfl⟩, rfl⟩, ⟨⟨dX6_wordFrom_8, rfl⟩, rfl⟩, ⟨⟨dX6_wordFrom_10, rfl⟩, rfl⟩, ⟨⟨dX6_wordFrom_12, rfl⟩, Or.inr ⟨rfl, rfl, _, rfl, rfl, rfl⟩⟩, ⟨⟨dX6_wordFrom_14, rfl⟩, Or.inl ⟨rfl, _, my_58, sX6_139⟩⟩, ⟨⟨dX6_wordFrom_17, rfl⟩, rfl⟩, ⟨⟨dX6_wordFrom_20, rfl⟩, rfl⟩, ⟨⟨dX6_wordFrom_22, rfl⟩, Or.inr ⟨rfl, rfl, _, rfl, rfl, rfl⟩⟩, ⟨⟨dX6_wordFrom_24, rfl⟩, Or.inl ⟨rfl, _, my_58, sX6_139⟩⟩, ⟨⟨dX6_wordFrom_27, rfl⟩, rfl⟩, ⟨⟨dX6_wordFrom_30, rfl⟩, Or.inr ⟨rfl, rfl, _, rfl, rfl, rfl⟩⟩, ⟨⟨dX6_wordFrom_32, rfl⟩, rfl⟩, ⟨⟨dX6_wordFrom_34, rfl⟩, Or.inl ⟨rfl, _, my_62, sX6_144⟩⟩, ⟨⟨dX6_wordFrom_37, rfl⟩, rfl⟩, ⟨⟨dX6_wordFrom_40, rfl⟩, rfl⟩, ⟨⟨dX6_wordFrom_42, rfl⟩, rfl⟩, ⟨⟨dX6_wordFrom_44, rfl⟩, rfl⟩, ⟨⟨dX6_wordFrom_46, rfl⟩, rfl⟩, trivial⟩,
  ⟨⟨⟨dX6_wordFrom_48, rfl⟩, rfl⟩, ⟨⟨dX6_wordFrom_51, rfl⟩, rfl⟩, ⟨⟨dX6_wordFrom_53, rfl⟩, rfl⟩, ⟨⟨dX6_wordFrom_56, rfl⟩, rfl⟩, ⟨⟨dX6_wordFrom_57, rfl⟩, rfl⟩, ⟨⟨dX6_wordFrom_58, rfl⟩, Or.inl ⟨by decide, _, _, fX6_31⟩⟩, ⟨⟨dX6_wordFrom_61, rfl⟩, rfl⟩, ⟨⟨dX6_wordFrom_64, rfl⟩, rfl⟩, ⟨⟨dX6_wordFrom_65, rfl⟩, Or.inl ⟨rfl, rfl⟩⟩, ⟨⟨dX6_wordFrom_66, rfl⟩, ⟨rfl, rfl⟩⟩, ⟨⟨dX6_wordFrom_69, rfl⟩, rfl⟩, ⟨⟨dX6_wordFrom_70, rfl⟩, rfl⟩, ⟨⟨dX6_wordFrom_71, rfl⟩, rfl⟩, ⟨⟨dX6_wordFrom_72, rfl⟩, rfl⟩, ⟨⟨dX6_wordFrom_74, rfl⟩, rfl⟩, ⟨⟨dX6_wordFrom_77, rfl⟩, rfl⟩, ⟨⟨dX6_wordFrom_79, rfl⟩, rfl⟩, ⟨⟨dX6_wordFrom_82, rfl⟩, rfl⟩, ⟨⟨dX6_wordFrom_83, rfl⟩, rfl⟩, ⟨⟨dX6_wordFrom_84, rfl⟩, Or.inl ⟨by decide, _, _, fX6_31⟩⟩, ⟨⟨dX6_wordFrom_87, rfl⟩, rfl⟩, ⟨⟨dX6_wordFrom_90, rfl⟩, rfl⟩, ⟨⟨dX6_wordFrom_91, rfl⟩, Or.inl ⟨by decide, _, _, fX6_11⟩⟩, ⟨⟨dX6_wordFrom_94, rfl⟩, rfl⟩, trivial⟩,
  ⟨⟨⟨dX6_wordFrom_95, rfl⟩, trivial⟩, ⟨⟨dX6_wordFrom_96, rfl⟩, rfl⟩, ⟨⟨dX6_wordFrom_98, rfl⟩, rfl⟩, ⟨⟨dX6_wordFrom_101, rfl⟩, ⟨rfl, rfl⟩⟩, ⟨⟨dX6_wordFrom_104, rfl⟩, rfl⟩, ⟨⟨dX6_wordFrom_107, rfl⟩, rfl⟩, ⟨⟨dX6_wordFrom_108, rfl⟩, rfl⟩, ⟨⟨dX6_wordFrom_110, rfl⟩, ⟨rfl, rfl⟩⟩, ⟨⟨dX6_wordFrom_113, rfl⟩, rfl⟩, ⟨⟨dX6_wordFrom_116, rfl⟩, rfl⟩, ⟨⟨dX6_wordFrom_117, rfl⟩, Or.inl ⟨rfl, rfl⟩⟩, trivial⟩, trivial⟩, by decide, Or.inl ⟨rfl, by decide, rfl⟩⟩
set_option maxRecDepth 100000 in
theorem g_X6_wordFrom_0 (S : sT) (call : cT) (n : Nat) (a0 : Nat) (x1 : Int32) (h : pH) : bd S call dflT E_X6_wordFrom (n + 1) 0 [some (.ref a0), some (.int x1), none, none, none, none, none] [] h = (bd S call dflT E_X6_wordFrom n 10 [some (.ref a0), some (.int x1), some (.int 0), some (.int x1), some (.int 1), some (.int 0), none] [] h) := rfl
set_option maxRecDepth 100000 in
theorem g_X6_wordFrom_10 (S : sT) (call : cT) (n : Nat) (a0 : Nat) (x1 : Int32) (x2 : Int32) (x3 : Int32) (x4 : Int32) (x5 : Int32) (o6 : Option Value) (h : pH) : bd S call dflT E_X6_wordFrom (n + 1) 10 [some (.ref a0), some (.int x1), some (.int x2), some (.int x3), some (.int x4), some (.int x5), o6] [] h = (cIx tN (call 58 [.retAddr 102] h) (fun y2 h1 => (if y2 < x5 then some (.inl (some (.int (-1))), h1) else cIx tN (call 58 [.retAddr 102] h1) (fun y4 h3 => (if y4 ≤ x5 then bd S call dflT E_X6_wordFrom n 42 [some (.ref a0), some (.int x1), some (.int x2), some (.int x3), some (.int x4), some (.int x5), o6] [.int 32] h3 else cIx tN (call 62 [.retAddr 102, .int x5] h3) (fun y6 h5 => bd S call dflT E_X6_wordFrom n 42 [some (.ref a0), some (.int x1), some (.int x2), some (.int x3), some (.int x4), some (.int x5), o6] [.int y6] h5)))))) := rfl
set_option maxRecDepth 100000 in
theorem g_X6_wordFrom_42 (S : sT) (call : cT) (n : Nat) (a0 : Nat) (x1 : Int32) (x2 : Int32) (x3 : Int32) (x4 : Int32) (x5 : Int32) (o6 : Option Value) (y0 : Int32) (h : pH) : bd S call dflT E_X6_wordFrom (n + 1) 42 [some (.ref a0), some (.int x1), some (.int x2), some (.int x3), some (.int x4), some (.int x5), o6] [.int y0] h = ((if y0 = 32 then (if x4 = 0 then bd S call dflT E_X6_wordFrom n 10 [some (.ref a0), some (.int x1), some (.int (x2 + 1)), some (.int x1), some (.int 1), some (.int (x5 + 1)), some (.int y0)] [] h else gI h (.ref a0) 9 4 (fun y4 => (if x3 = y4 then some (.inl (some (.int x2)), h) else bd S call dflT E_X6_wordFrom n 10 [some (.ref a0), some (.int x1), some (.int (x2 + 1)), some (.int x1), some (.int 1), some (.int (x5 + 1)), some (.int y0)] [] h))) else (if x4 = 0 then bd S call dflT E_X6_wordFrom n 10 [some (.ref a0), some (.int x1), some (.int x2), some (.int x3), some (.int 0), some (.int (x5 + 1)), some (.int y0)] [] h else gI h (.ref a0) 9 4 (fun y1 => (if y1 ≤ x3 then bd S call dflT E_X6_wordFrom n 10 [some (.ref a0), some (.int x1), some (.int x2), some (.int x3), some (.int 0), some (.int (x5 + 1)), some (.int y0)] [] h else gV h (.ref a0) 9 0 (fun w2 => aI h w2 1 x3 (fun y3 => (if y3 = y0 then bd S call dflT E_X6_wordFrom n 10 [some (.ref a0), some (.int x1), some (.int x2), some (.int (x3 + 1)), some (.int x4), some (.int (x5 + 1)), some (.int y0)] [] h else bd S call dflT E_X6_wordFrom n 10 [some (.ref a0), some (.int x1), some (.int x2), some (.int x3), some (.int 0), some (.int (x5 + 1)), some (.int y0)] [] h)))))))) := rfl
theorem dX6_isDigit_0 : decode cX6_isDigit 0 = .ok (.iload_n 0, 1) := by decide +kernel
theorem dX6_isDigit_1 : decode cX6_isDigit 1 = .ok (.bipush 48, 2) := by decide +kernel
theorem dX6_isDigit_3 : decode cX6_isDigit 3 = .ok (.if_icmp .lt 13, 3) := by decide +kernel
theorem dX6_isDigit_6 : decode cX6_isDigit 6 = .ok (.iload_n 0, 1) := by decide +kernel
theorem dX6_isDigit_7 : decode cX6_isDigit 7 = .ok (.bipush 57, 2) := by decide +kernel
theorem dX6_isDigit_9 : decode cX6_isDigit 9 = .ok (.if_icmp .gt 7, 3) := by decide +kernel
theorem dX6_isDigit_12 : decode cX6_isDigit 12 = .ok (.iconst 1, 1) := by decide +kernel
theorem dX6_isDigit_13 : decode cX6_isDigit 13 = .ok (.goto 4, 3) := by decide +kernel
theorem dX6_isDigit_16 : decode cX6_isDigit 16 = .ok (.iconst 0, 1) := by decide +kernel
theorem dX6_isDigit_17 : decode cX6_isDigit 17 = .ok (.ireturn, 1) := by decide +kernel
noncomputable def E_X6_isDigit : mE := (mX6_isDigit, [(17, [(0, (.iload_n 0, 1, false, false, 0, 0, 0, 0, 0, 0, [])), (1, (.bipush 48, 3, false, false, 0, 0, 0, 0, 48, 0, [])), (3, (.if_icmp .lt 13, 6, false, false, 16, 0, 0, 0, 0, 0, [])), (6, (.iload_n 0, 7, false, false, 0, 0, 0, 0, 0, 0, [])), (7, (.bipush 57, 9, false, false, 0, 0, 0, 0, 57, 0, [])), (9, (.if_icmp .gt 7, 12, false, false, 16, 0, 0, 0, 0, 0, [])), (12, (.iconst 1, 13, false, false, 0, 0, 0, 0, 1, 0, [])), (13, (.goto 4, 16, false, false, 17, 0, 0, 0, 0, 0, [])), (16, (.iconst 0, 17, false, false, 0, 0, 0, 0, 0, 0, [])), (17, (.ireturn, 18, false, false, 0, 0, 1, 0, 0, 0, []))])], 0, [])
set_option maxRecDepth 100000 in
theorem v_X6_isDigit : VE MYT dflT E_X6_isDigit := ⟨⟨⟨⟨⟨dX6_isDigit_0, rfl⟩, rfl⟩, ⟨⟨dX6_isDigit_1, rfl⟩, rfl⟩, ⟨⟨dX6_isDigit_3, rfl⟩, rfl⟩, ⟨⟨dX6_isDigit_6, rfl⟩, rfl⟩, ⟨⟨dX6_isDigit_7, rfl⟩, rfl⟩, ⟨⟨dX6_isDigit_9, rfl⟩, rfl⟩, ⟨⟨dX6_isDigit_12, rfl⟩, rfl⟩, ⟨⟨dX6_isDigit_13, rfl⟩, rfl⟩, ⟨⟨dX6_isDigit_16, rfl⟩, rfl⟩, ⟨⟨dX6_isDigit_17, rfl⟩, Or.inr (Or.inl ⟨rfl, rfl⟩)⟩, trivial⟩, trivial⟩, by decide, Or.inl ⟨rfl, by decide, rfl⟩⟩
set_option maxRecDepth 100000 in
theorem g_X6_isDigit_0 (S : sT) (call : cT) (n : Nat) (x0 : Int32) (h : pH) : bd S call dflT E_X6_isDigit (n + 1) 0 [some (.int x0)] [] h = ((if x0 < 48 then zR 0 (some (.inl (some (.int 0)), h)) else (if 57 < x0 then zR 0 (some (.inl (some (.int 0)), h)) else zR 1 (some (.inl (some (.int 1)), h))))) := rfl
theorem dX6_next_0 : decode cX6_next 0 = .ok (.aload_n 0, 1) := by decide +kernel
theorem dX6_next_1 : decode cX6_next 1 = .ok (.getfield 31, 3) := by decide +kernel
theorem dX6_next_4 : decode cX6_next 4 = .ok (.aload_n 0, 1) := by decide +kernel
theorem dX6_next_5 : decode cX6_next 5 = .ok (.getfield 28, 3) := by decide +kernel
theorem dX6_next_8 : decode cX6_next 8 = .ok (.if_icmp .ge 30, 3) := by decide +kernel
theorem dX6_next_11 : decode cX6_next 11 = .ok (.aload_n 0, 1) := by decide +kernel
theorem dX6_next_12 : decode cX6_next 12 = .ok (.getfield 11, 3) := by decide +kernel
theorem dX6_next_15 : decode cX6_next 15 = .ok (.aload_n 0, 1) := by decide +kernel
theorem dX6_next_16 : decode cX6_next 16 = .ok (.getfield 31, 3) := by decide +kernel
theorem dX6_next_19 : decode cX6_next 19 = .ok (.baload, 1) := by decide +kernel
theorem dX6_next_20 : decode cX6_next 20 = .ok (.bipush 32, 2) := by decide +kernel
theorem dX6_next_22 : decode cX6_next 22 = .ok (.if_icmp .ne 16, 3) := by decide +kernel
theorem dX6_next_25 : decode cX6_next 25 = .ok (.aload_n 0, 1) := by decide +kernel
theorem dX6_next_26 : decode cX6_next 26 = .ok (.dup, 1) := by decide +kernel
theorem dX6_next_27 : decode cX6_next 27 = .ok (.getfield 31, 3) := by decide +kernel
theorem dX6_next_30 : decode cX6_next 30 = .ok (.iconst 1, 1) := by decide +kernel
theorem dX6_next_31 : decode cX6_next 31 = .ok (.iadd, 1) := by decide +kernel
theorem dX6_next_32 : decode cX6_next 32 = .ok (.putfield 31, 3) := by decide +kernel
theorem dX6_next_35 : decode cX6_next 35 = .ok (.goto (-35), 3) := by decide +kernel
theorem dX6_next_38 : decode cX6_next 38 = .ok (.aload_n 0, 1) := by decide +kernel
theorem dX6_next_39 : decode cX6_next 39 = .ok (.aload_n 0, 1) := by decide +kernel
theorem dX6_next_40 : decode cX6_next 40 = .ok (.getfield 31, 3) := by decide +kernel
theorem dX6_next_43 : decode cX6_next 43 = .ok (.putfield 47, 3) := by decide +kernel
theorem dX6_next_46 : decode cX6_next 46 = .ok (.aload_n 0, 1) := by decide +kernel
theorem dX6_next_47 : decode cX6_next 47 = .ok (.iconst 0, 1) := by decide +kernel
theorem dX6_next_48 : decode cX6_next 48 = .ok (.putfield 81, 3) := by decide +kernel
theorem dX6_next_51 : decode cX6_next 51 = .ok (.aload_n 0, 1) := by decide +kernel
theorem dX6_next_52 : decode cX6_next 52 = .ok (.getfield 31, 3) := by decide +kernel
theorem dX6_next_55 : decode cX6_next 55 = .ok (.aload_n 0, 1) := by decide +kernel
theorem dX6_next_56 : decode cX6_next 56 = .ok (.getfield 28, 3) := by decide +kernel
theorem dX6_next_59 : decode cX6_next 59 = .ok (.if_icmp .lt 11, 3) := by decide +kernel
theorem dX6_next_62 : decode cX6_next 62 = .ok (.aload_n 0, 1) := by decide +kernel
theorem dX6_next_63 : decode cX6_next 63 = .ok (.iconst 0, 1) := by decide +kernel
theorem dX6_next_64 : decode cX6_next 64 = .ok (.putfield 60, 3) := by decide +kernel
theorem dX6_next_67 : decode cX6_next 67 = .ok (.goto 207, 3) := by decide +kernel
theorem dX6_next_70 : decode cX6_next 70 = .ok (.aload_n 0, 1) := by decide +kernel
theorem dX6_next_71 : decode cX6_next 71 = .ok (.getfield 11, 3) := by decide +kernel
theorem dX6_next_74 : decode cX6_next 74 = .ok (.aload_n 0, 1) := by decide +kernel
theorem dX6_next_75 : decode cX6_next 75 = .ok (.getfield 31, 3) := by decide +kernel
theorem dX6_next_78 : decode cX6_next 78 = .ok (.baload, 1) := by decide +kernel
theorem dX6_next_79 : decode cX6_next 79 = .ok (.invokestatic 126, 3) := by decide +kernel
theorem dX6_next_82 : decode cX6_next 82 = .ok (.ifCond .eq 62, 3) := by decide +kernel
theorem dX6_next_85 : decode cX6_next 85 = .ok (.aload_n 0, 1) := by decide +kernel
theorem dX6_next_86 : decode cX6_next 86 = .ok (.iconst 1, 1) := by decide +kernel
theorem dX6_next_87 : decode cX6_next 87 = .ok (.putfield 60, 3) := by decide +kernel
theorem dX6_next_90 : decode cX6_next 90 = .ok (.aload_n 0, 1) := by decide +kernel
theorem dX6_next_91 : decode cX6_next 91 = .ok (.getfield 31, 3) := by decide +kernel
theorem dX6_next_94 : decode cX6_next 94 = .ok (.aload_n 0, 1) := by decide +kernel
theorem dX6_next_95 : decode cX6_next 95 = .ok (.getfield 28, 3) := by decide +kernel
theorem dX6_next_98 : decode cX6_next 98 = .ok (.if_icmp .ge 31, 3) := by decide +kernel
theorem dX6_next_101 : decode cX6_next 101 = .ok (.aload_n 0, 1) := by decide +kernel
theorem dX6_next_102 : decode cX6_next 102 = .ok (.getfield 11, 3) := by decide +kernel
theorem dX6_next_105 : decode cX6_next 105 = .ok (.aload_n 0, 1) := by decide +kernel
theorem dX6_next_106 : decode cX6_next 106 = .ok (.getfield 31, 3) := by decide +kernel
theorem dX6_next_109 : decode cX6_next 109 = .ok (.baload, 1) := by decide +kernel
theorem dX6_next_110 : decode cX6_next 110 = .ok (.invokestatic 126, 3) := by decide +kernel
theorem dX6_next_113 : decode cX6_next 113 = .ok (.ifCond .eq 16, 3) := by decide +kernel
theorem dX6_next_116 : decode cX6_next 116 = .ok (.aload_n 0, 1) := by decide +kernel
theorem dX6_next_117 : decode cX6_next 117 = .ok (.dup, 1) := by decide +kernel
theorem dX6_next_118 : decode cX6_next 118 = .ok (.getfield 31, 3) := by decide +kernel
theorem dX6_next_121 : decode cX6_next 121 = .ok (.iconst 1, 1) := by decide +kernel
theorem dX6_next_122 : decode cX6_next 122 = .ok (.iadd, 1) := by decide +kernel
theorem dX6_next_123 : decode cX6_next 123 = .ok (.putfield 31, 3) := by decide +kernel
theorem dX6_next_126 : decode cX6_next 126 = .ok (.goto (-36), 3) := by decide +kernel
theorem dX6_next_129 : decode cX6_next 129 = .ok (.aload_n 0, 1) := by decide +kernel
theorem dX6_next_130 : decode cX6_next 130 = .ok (.aload_n 0, 1) := by decide +kernel
theorem dX6_next_131 : decode cX6_next 131 = .ok (.aload_n 0, 1) := by decide +kernel
theorem dX6_next_132 : decode cX6_next 132 = .ok (.getfield 47, 3) := by decide +kernel
theorem dX6_next_135 : decode cX6_next 135 = .ok (.invokevirtual 129, 3) := by decide +kernel
theorem dX6_next_138 : decode cX6_next 138 = .ok (.putfield 81, 3) := by decide +kernel
theorem dX6_next_141 : decode cX6_next 141 = .ok (.goto 133, 3) := by decide +kernel
theorem dX6_next_144 : decode cX6_next 144 = .ok (.aload_n 0, 1) := by decide +kernel
theorem dX6_next_145 : decode cX6_next 145 = .ok (.getfield 11, 3) := by decide +kernel
theorem dX6_next_148 : decode cX6_next 148 = .ok (.aload_n 0, 1) := by decide +kernel
theorem dX6_next_149 : decode cX6_next 149 = .ok (.getfield 31, 3) := by decide +kernel
theorem dX6_next_152 : decode cX6_next 152 = .ok (.baload, 1) := by decide +kernel
theorem dX6_next_153 : decode cX6_next 153 = .ok (.invokestatic 133, 3) := by decide +kernel
theorem dX6_next_156 : decode cX6_next 156 = .ok (.ifCond .eq 90, 3) := by decide +kernel
theorem dX6_next_159 : decode cX6_next 159 = .ok (.aload_n 0, 1) := by decide +kernel
theorem dX6_next_160 : decode cX6_next 160 = .ok (.iconst 2, 1) := by decide +kernel
theorem dX6_next_161 : decode cX6_next 161 = .ok (.putfield 60, 3) := by decide +kernel
theorem dX6_next_164 : decode cX6_next 164 = .ok (.aload_n 0, 1) := by decide +kernel
theorem dX6_next_165 : decode cX6_next 165 = .ok (.getfield 31, 3) := by decide +kernel
theorem dX6_next_168 : decode cX6_next 168 = .ok (.aload_n 0, 1) := by decide +kernel
theorem dX6_next_169 : decode cX6_next 169 = .ok (.getfield 28, 3) := by decide +kernel
theorem dX6_next_172 : decode cX6_next 172 = .ok (.if_icmp .ge 102, 3) := by decide +kernel
theorem dX6_next_175 : decode cX6_next 175 = .ok (.aload_n 0, 1) := by decide +kernel
theorem dX6_next_176 : decode cX6_next 176 = .ok (.getfield 11, 3) := by decide +kernel
theorem dX6_next_179 : decode cX6_next 179 = .ok (.aload_n 0, 1) := by decide +kernel
theorem dX6_next_180 : decode cX6_next 180 = .ok (.getfield 31, 3) := by decide +kernel
theorem dX6_next_183 : decode cX6_next 183 = .ok (.baload, 1) := by decide +kernel
theorem dX6_next_184 : decode cX6_next 184 = .ok (.invokestatic 133, 3) := by decide +kernel
theorem dX6_next_187 : decode cX6_next 187 = .ok (.ifCond .eq 87, 3) := by decide +kernel
theorem dX6_next_190 : decode cX6_next 190 = .ok (.aload_n 0, 1) := by decide +kernel
theorem dX6_next_191 : decode cX6_next 191 = .ok (.aload_n 0, 1) := by decide +kernel
theorem dX6_next_192 : decode cX6_next 192 = .ok (.getfield 31, 3) := by decide +kernel
theorem dX6_next_195 : decode cX6_next 195 = .ok (.aload_n 0, 1) := by decide +kernel
theorem dX6_next_196 : decode cX6_next 196 = .ok (.getfield 47, 3) := by decide +kernel
theorem dX6_next_199 : decode cX6_next 199 = .ok (.isub, 1) := by decide +kernel
theorem dX6_next_200 : decode cX6_next 200 = .ok (.bipush 6, 2) := by decide +kernel
theorem dX6_next_202 : decode cX6_next 202 = .ok (.if_icmp .ge 26, 3) := by decide +kernel
theorem dX6_next_205 : decode cX6_next 205 = .ok (.aload_n 0, 1) := by decide +kernel
theorem dX6_next_206 : decode cX6_next 206 = .ok (.getfield 81, 3) := by decide +kernel
theorem dX6_next_209 : decode cX6_next 209 = .ok (.bipush 10, 2) := by decide +kernel
theorem dX6_next_211 : decode cX6_next 211 = .ok (.imul, 1) := by decide +kernel
theorem dX6_next_212 : decode cX6_next 212 = .ok (.aload_n 0, 1) := by decide +kernel
theorem dX6_next_213 : decode cX6_next 213 = .ok (.getfield 11, 3) := by decide +kernel
theorem dX6_next_216 : decode cX6_next 216 = .ok (.aload_n 0, 1) := by decide +kernel
theorem dX6_next_217 : decode cX6_next 217 = .ok (.getfield 31, 3) := by decide +kernel
theorem dX6_next_220 : decode cX6_next 220 = .ok (.baload, 1) := by decide +kernel
theorem dX6_next_221 : decode cX6_next 221 = .ok (.iadd, 1) := by decide +kernel
theorem dX6_next_222 : decode cX6_next 222 = .ok (.bipush 48, 2) := by decide +kernel
theorem dX6_next_224 : decode cX6_next 224 = .ok (.isub, 1) := by decide +kernel
theorem dX6_next_225 : decode cX6_next 225 = .ok (.goto 5, 3) := by decide +kernel
theorem dX6_next_228 : decode cX6_next 228 = .ok (.ldc 136, 2) := by decide +kernel
theorem dX6_next_230 : decode cX6_next 230 = .ok (.putfield 81, 3) := by decide +kernel
theorem dX6_next_233 : decode cX6_next 233 = .ok (.aload_n 0, 1) := by decide +kernel
theorem dX6_next_234 : decode cX6_next 234 = .ok (.dup, 1) := by decide +kernel
theorem dX6_next_235 : decode cX6_next 235 = .ok (.getfield 31, 3) := by decide +kernel
theorem dX6_next_238 : decode cX6_next 238 = .ok (.iconst 1, 1) := by decide +kernel
theorem dX6_next_239 : decode cX6_next 239 = .ok (.iadd, 1) := by decide +kernel
theorem dX6_next_240 : decode cX6_next 240 = .ok (.putfield 31, 3) := by decide +kernel
theorem dX6_next_243 : decode cX6_next 243 = .ok (.goto (-79), 3) := by decide +kernel
theorem dX6_next_246 : decode cX6_next 246 = .ok (.aload_n 0, 1) := by decide +kernel
theorem dX6_next_247 : decode cX6_next 247 = .ok (.iconst 3, 1) := by decide +kernel
theorem dX6_next_248 : decode cX6_next 248 = .ok (.putfield 60, 3) := by decide +kernel
theorem dX6_next_251 : decode cX6_next 251 = .ok (.aload_n 0, 1) := by decide +kernel
theorem dX6_next_252 : decode cX6_next 252 = .ok (.aload_n 0, 1) := by decide +kernel
theorem dX6_next_253 : decode cX6_next 253 = .ok (.getfield 11, 3) := by decide +kernel
theorem dX6_next_256 : decode cX6_next 256 = .ok (.aload_n 0, 1) := by decide +kernel
theorem dX6_next_257 : decode cX6_next 257 = .ok (.getfield 31, 3) := by decide +kernel
theorem dX6_next_260 : decode cX6_next 260 = .ok (.baload, 1) := by decide +kernel
theorem dX6_next_261 : decode cX6_next 261 = .ok (.putfield 81, 3) := by decide +kernel
theorem dX6_next_264 : decode cX6_next 264 = .ok (.aload_n 0, 1) := by decide +kernel
theorem dX6_next_265 : decode cX6_next 265 = .ok (.dup, 1) := by decide +kernel
theorem dX6_next_266 : decode cX6_next 266 = .ok (.getfield 31, 3) := by decide +kernel
theorem dX6_next_269 : decode cX6_next 269 = .ok (.iconst 1, 1) := by decide +kernel
theorem dX6_next_270 : decode cX6_next 270 = .ok (.iadd, 1) := by decide +kernel
theorem dX6_next_271 : decode cX6_next 271 = .ok (.putfield 31, 3) := by decide +kernel
theorem dX6_next_274 : decode cX6_next 274 = .ok (.return_, 1) := by decide +kernel
noncomputable def E_X6_next : mE := (mX6_next, [(46, [(0, (.aload_n 0, 1, false, false, 0, 0, 0, 0, 0, 0, [])), (1, (.getfield 31, 4, false, false, 9, 4, 0, 0, 0, 0, [])), (4, (.aload_n 0, 5, false, false, 0, 0, 0, 0, 0, 0, [])), (5, (.getfield 28, 8, false, false, 9, 3, 0, 0, 0, 0, [])), (8, (.if_icmp .ge 30, 11, false, true, 38, 0, 0, 0, 0, 0, [])), (11, (.aload_n 0, 12, false, false, 0, 0, 0, 0, 0, 0, [])), (12, (.getfield 11, 15, false, false, 9, 0, 1, 0, 0, 0, [])), (15, (.aload_n 0, 16, false, false, 0, 0, 0, 0, 0, 0, [])), (16, (.getfield 31, 19, false, false, 9, 4, 0, 0, 0, 0, [])), (19, (.baload, 20, false, false, 0, 0, 0, 0, 0, 0, [])), (20, (.bipush 32, 22, false, false, 0, 0, 0, 0, 32, 0, [])), (22, (.if_icmp .ne 16, 25, false, true, 38, 0, 0, 0, 0, 0, [])), (25, (.aload_n 0, 26, false, false, 0, 0, 0, 0, 0, 0, [])), (26, (.dup, 27, false, false, 0, 0, 0, 0, 0, 0, [])), (27, (.getfield 31, 30, false, false, 9, 4, 0, 0, 0, 0, [])), (30, (.iconst 1, 31, false, false, 0, 0, 0, 0, 1, 0, [])), (31, (.iadd, 32, false, false, 0, 0, 0, 0, 0, 0, [])), (32, (.putfield 31, 35, false, false, 9, 4, 0, 0, 0, 0, [])), (35, (.goto (-35), 38, false, true, 0, 0, 0, 0, 0, 0, [])), (38, (.aload_n 0, 39, false, false, 0, 0, 0, 0, 0, 0, [])), (39, (.aload_n 0, 40, false, false, 0, 0, 0, 0, 0, 0, [])), (40, (.getfield 31, 43, false, false, 9, 4, 0, 0, 0, 0, [])), (43, (.putfield 47, 46, false, false, 9, 5, 0, 0, 0, 0, [])), (46, (.aload_n 0, 47, false, false, 0, 0, 0, 0, 0, 0, []))]),
  (94, [(47, (.iconst 0, 48, false, false, 0, 0, 0, 0, 0, 0, [])), (48, (.putfield 81, 51, false, false, 9, 7, 0, 0, 0, 0, [])), (51, (.aload_n 0, 52, false, false, 0, 0, 0, 0, 0, 0, [])), (52, (.getfield 31, 55, false, false, 9, 4, 0, 0, 0, 0, [])), (55, (.aload_n 0, 56, false, false, 0, 0, 0, 0, 0, 0, [])), (56, (.getfield 28, 59, false, false, 9, 3, 0, 0, 0, 0, [])), (59, (.if_icmp .lt 11, 62, false, false, 70, 0, 0, 0, 0, 0, [])), (62, (.aload_n 0, 63, false, false, 0, 0, 0, 0, 0, 0, [])), (63, (.iconst 0, 64, false, false, 0, 0, 0, 0, 0, 0, [])), (64, (.putfield 60, 67, false, false, 9, 6, 0, 0, 0, 0, [])), (67, (.goto 207, 70, false, false, 274, 0, 0, 0, 0, 0, [])), (70, (.aload_n 0, 71, false, false, 0, 0, 0, 0, 0, 0, [])), (71, (.getfield 11, 74, false, false, 9, 0, 1, 0, 0, 0, [])), (74, (.aload_n 0, 75, false, false, 0, 0, 0, 0, 0, 0, [])), (75, (.getfield 31, 78, false, false, 9, 4, 0, 0, 0, 0, [])), (78, (.baload, 79, false, false, 0, 0, 0, 0, 0, 0, [])), (79, (.invokestatic 126, 82, false, false, 56, 1, 1, 0, 0, 0, [])), (82, (.ifCond .eq 62, 85, false, false, 144, 0, 0, 0, 0, 0, [])), (85, (.aload_n 0, 86, false, false, 0, 0, 0, 0, 0, 0, [])), (86, (.iconst 1, 87, false, false, 0, 0, 0, 0, 1, 0, [])), (87, (.putfield 60, 90, true, false, 9, 6, 0, 0, 0, 0, [])), (90, (.aload_n 0, 91, false, false, 0, 0, 0, 0, 0, 0, [])), (91, (.getfield 31, 94, false, false, 9, 4, 0, 0, 0, 0, [])), (94, (.aload_n 0, 95, false, false, 0, 0, 0, 0, 0, 0, []))]),
  (144, [(95, (.getfield 28, 98, false, false, 9, 3, 0, 0, 0, 0, [])), (98, (.if_icmp .ge 31, 101, false, false, 129, 0, 0, 0, 0, 0, [])), (101, (.aload_n 0, 102, false, false, 0, 0, 0, 0, 0, 0, [])), (102, (.getfield 11, 105, false, false, 9, 0, 1, 0, 0, 0, [])), (105, (.aload_n 0, 106, false, false, 0, 0, 0, 0, 0, 0, [])), (106, (.getfield 31, 109, false, false, 9, 4, 0, 0, 0, 0, [])), (109, (.baload, 110, false, false, 0, 0, 0, 0, 0, 0, [])), (110, (.invokestatic 126, 113, false, false, 56, 1, 1, 0, 0, 0, [])), (113, (.ifCond .eq 16, 116, false, false, 129, 0, 0, 0, 0, 0, [])), (116, (.aload_n 0, 117, false, false, 0, 0, 0, 0, 0, 0, [])), (117, (.dup, 118, false, false, 0, 0, 0, 0, 0, 0, [])), (118, (.getfield 31, 121, false, false, 9, 4, 0, 0, 0, 0, [])), (121, (.iconst 1, 122, false, false, 0, 0, 0, 0, 1, 0, [])), (122, (.iadd, 123, false, false, 0, 0, 0, 0, 0, 0, [])), (123, (.putfield 31, 126, false, false, 9, 4, 0, 0, 0, 0, [])), (126, (.goto (-36), 129, false, true, 90, 0, 0, 0, 0, 0, [])), (129, (.aload_n 0, 130, false, false, 0, 0, 0, 0, 0, 0, [])), (130, (.aload_n 0, 131, false, false, 0, 0, 0, 0, 0, 0, [])), (131, (.aload_n 0, 132, false, false, 0, 0, 0, 0, 0, 0, [])), (132, (.getfield 47, 135, false, false, 9, 5, 0, 0, 0, 0, [])), (135, (.invokevirtual 129, 138, false, false, 63, 1, 1, 9, 0, 0, [])), (138, (.putfield 81, 141, false, false, 9, 7, 0, 0, 0, 0, [])), (141, (.goto 133, 144, false, false, 274, 0, 0, 0, 0, 0, [])), (144, (.aload_n 0, 145, false, false, 0, 0, 0, 0, 0, 0, []))]),
  (192, [(145, (.getfield 11, 148, false, false, 9, 0, 1, 0, 0, 0, [])), (148, (.aload_n 0, 149, false, false, 0, 0, 0, 0, 0, 0, [])), (149, (.getfield 31, 152, false, false, 9, 4, 0, 0, 0, 0, [])), (152, (.baload, 153, false, false, 0, 0, 0, 0, 0, 0, [])), (153, (.invokestatic 133, 156, false, false, 64, 1, 1, 0, 0, 0, [])), (156, (.ifCond .eq 90, 159, false, false, 246, 0, 0, 0, 0, 0, [])), (159, (.aload_n 0, 160, false, false, 0, 0, 0, 0, 0, 0, [])), (160, (.iconst 2, 161, false, false, 0, 0, 0, 0, 2, 0, [])), (161, (.putfield 60, 164, true, false, 9, 6, 0, 0, 0, 0, [])), (164, (.aload_n 0, 165, false, false, 0, 0, 0, 0, 0, 0, [])), (165, (.getfield 31, 168, false, false, 9, 4, 0, 0, 0, 0, [])), (168, (.aload_n 0, 169, false, false, 0, 0, 0, 0, 0, 0, [])), (169, (.getfield 28, 172, false, false, 9, 3, 0, 0, 0, 0, [])), (172, (.if_icmp .ge 102, 175, false, false, 274, 0, 0, 0, 0, 0, [])), (175, (.aload_n 0, 176, false, false, 0, 0, 0, 0, 0, 0, [])), (176, (.getfield 11, 179, false, false, 9, 0, 1, 0, 0, 0, [])), (179, (.aload_n 0, 180, false, false, 0, 0, 0, 0, 0, 0, [])), (180, (.getfield 31, 183, false, false, 9, 4, 0, 0, 0, 0, [])), (183, (.baload, 184, false, false, 0, 0, 0, 0, 0, 0, [])), (184, (.invokestatic 133, 187, false, false, 64, 1, 1, 0, 0, 0, [])), (187, (.ifCond .eq 87, 190, false, false, 274, 0, 0, 0, 0, 0, [])), (190, (.aload_n 0, 191, false, false, 0, 0, 0, 0, 0, 0, [])), (191, (.aload_n 0, 192, false, false, 0, 0, 0, 0, 0, 0, [])), (192, (.getfield 31, 195, false, false, 9, 4, 0, 0, 0, 0, []))]),
  (238, [(195, (.aload_n 0, 196, false, false, 0, 0, 0, 0, 0, 0, [])), (196, (.getfield 47, 199, false, false, 9, 5, 0, 0, 0, 0, [])), (199, (.isub, 200, false, false, 0, 0, 0, 0, 0, 0, [])), (200, (.bipush 6, 202, false, false, 0, 0, 0, 0, 6, 0, [])), (202, (.if_icmp .ge 26, 205, false, false, 228, 0, 0, 0, 0, 0, [])), (205, (.aload_n 0, 206, false, false, 0, 0, 0, 0, 0, 0, [])), (206, (.getfield 81, 209, false, false, 9, 7, 0, 0, 0, 0, [])), (209, (.bipush 10, 211, false, false, 0, 0, 0, 0, 10, 0, [])), (211, (.imul, 212, false, false, 0, 0, 0, 0, 0, 0, [])), (212, (.aload_n 0, 213, false, false, 0, 0, 0, 0, 0, 0, [])), (213, (.getfield 11, 216, false, false, 9, 0, 1, 0, 0, 0, [])), (216, (.aload_n 0, 217, false, false, 0, 0, 0, 0, 0, 0, [])), (217, (.getfield 31, 220, false, false, 9, 4, 0, 0, 0, 0, [])), (220, (.baload, 221, false, false, 0, 0, 0, 0, 0, 0, [])), (221, (.iadd, 222, false, false, 0, 0, 0, 0, 0, 0, [])), (222, (.bipush 48, 224, false, false, 0, 0, 0, 0, 48, 0, [])), (224, (.isub, 225, false, false, 0, 0, 0, 0, 0, 0, [])), (225, (.goto 5, 228, false, false, 230, 0, 0, 0, 0, 0, [])), (228, (.ldc 136, 230, false, false, 0, 0, 0, 0, 1000000, 0, [])), (230, (.putfield 81, 233, false, false, 9, 7, 0, 0, 0, 0, [])), (233, (.aload_n 0, 234, false, false, 0, 0, 0, 0, 0, 0, [])), (234, (.dup, 235, false, false, 0, 0, 0, 0, 0, 0, [])), (235, (.getfield 31, 238, false, false, 9, 4, 0, 0, 0, 0, [])), (238, (.iconst 1, 239, false, false, 0, 0, 0, 0, 1, 0, []))]),
  (274, [(239, (.iadd, 240, false, false, 0, 0, 0, 0, 0, 0, [])), (240, (.putfield 31, 243, false, false, 9, 4, 0, 0, 0, 0, [])), (243, (.goto (-79), 246, false, true, 164, 0, 0, 0, 0, 0, [])), (246, (.aload_n 0, 247, false, false, 0, 0, 0, 0, 0, 0, [])), (247, (.iconst 3, 248, false, false, 0, 0, 0, 0, 3, 0, [])), (248, (.putfield 60, 251, false, false, 9, 6, 0, 0, 0, 0, [])), (251, (.aload_n 0, 252, false, false, 0, 0, 0, 0, 0, 0, [])), (252, (.aload_n 0, 253, false, false, 0, 0, 0, 0, 0, 0, [])), (253, (.getfield 11, 256, false, false, 9, 0, 1, 0, 0, 0, [])), (256, (.aload_n 0, 257, false, false, 0, 0, 0, 0, 0, 0, [])), (257, (.getfield 31, 260, false, false, 9, 4, 0, 0, 0, 0, [])), (260, (.baload, 261, false, false, 0, 0, 0, 0, 0, 0, [])), (261, (.putfield 81, 264, false, false, 9, 7, 0, 0, 0, 0, [])), (264, (.aload_n 0, 265, false, false, 0, 0, 0, 0, 0, 0, [])), (265, (.dup, 266, false, false, 0, 0, 0, 0, 0, 0, [])), (266, (.getfield 31, 269, false, false, 9, 4, 0, 0, 0, 0, [])), (269, (.iconst 1, 270, false, false, 0, 0, 0, 0, 1, 0, [])), (270, (.iadd, 271, false, false, 0, 0, 0, 0, 0, 0, [])), (271, (.putfield 31, 274, false, false, 9, 4, 0, 0, 0, 0, [])), (274, (.return_, 275, false, false, 0, 0, 0, 0, 0, 0, []))])], 0, [])
set_option maxRecDepth 100000 in
theorem v_X6_next : VE MYT dflT E_X6_next := ⟨⟨⟨⟨⟨dX6_next_0, rfl⟩, rfl⟩, ⟨⟨dX6_next_1, rfl⟩, Or.inl ⟨by decide, _, _, fX6_31⟩⟩, ⟨⟨dX6_next_4, rfl⟩, rfl⟩, ⟨⟨dX6_next_5, rfl⟩, Or.inl ⟨by decide, _, _, fX6_28⟩⟩, ⟨⟨dX6_next_8, rfl⟩, rfl⟩, ⟨⟨dX6_next_11, rfl⟩, rfl⟩, ⟨⟨dX6_next_12, rfl⟩, Or.inl ⟨by decide, _, _, fX6_11⟩⟩, ⟨⟨dX6_next_15, rfl⟩, rfl⟩, ⟨⟨dX6_next_16, rfl⟩, Or.inl ⟨by decide, _, _, fX6_31⟩⟩, ⟨⟨dX6_next_19, rfl⟩, trivial⟩, ⟨⟨dX6_next_20, rfl⟩, rfl⟩, ⟨⟨dX6_next_22, rfl⟩, rfl⟩, ⟨⟨dX6_next_25, rfl⟩, rfl⟩, ⟨⟨dX6_next_26, rfl⟩, trivial⟩, ⟨⟨dX6_next_27, rfl⟩, Or.inl ⟨by decide, _, _, fX6_31⟩⟩, ⟨⟨dX6_next_30, rfl⟩, rfl⟩, ⟨⟨dX6_next_31, rfl⟩, trivial⟩, ⟨⟨dX6_next_32, rfl⟩, Or.inl ⟨rfl, fX6_31⟩⟩, ⟨⟨dX6_next_35, rfl⟩, rfl⟩, ⟨⟨dX6_next_38, rfl⟩, rfl⟩, ⟨⟨dX6_next_39, rfl⟩, rfl⟩, ⟨⟨dX6_next_40, rfl⟩, Or.inl ⟨by decide, _, _, fX6_31⟩⟩, ⟨⟨dX6_next_43, rfl⟩, Or.inl ⟨rfl, fX6_47⟩⟩, ⟨⟨dX6_next_46, rfl⟩, rfl⟩, trivial⟩,
  ⟨⟨⟨dX6_next_47, rfl⟩, rfl⟩, ⟨⟨dX6_next_48, rfl⟩, Or.inl ⟨rfl, fX6_81⟩⟩, ⟨⟨dX6_next_51, rfl⟩, rfl⟩, ⟨⟨dX6_next_52, rfl⟩, Or.inl ⟨by decide, _, _, fX6_31⟩⟩, ⟨⟨dX6_next_55, rfl⟩, rfl⟩, ⟨⟨dX6_next_56, rfl⟩, Or.inl ⟨by decide, _, _, fX6_28⟩⟩, ⟨⟨dX6_next_59, rfl⟩, rfl⟩, ⟨⟨dX6_next_62, rfl⟩, rfl⟩, ⟨⟨dX6_next_63, rfl⟩, rfl⟩, ⟨⟨dX6_next_64, rfl⟩, Or.inl ⟨rfl, fX6_60⟩⟩, ⟨⟨dX6_next_67, rfl⟩, rfl⟩, ⟨⟨dX6_next_70, rfl⟩, rfl⟩, ⟨⟨dX6_next_71, rfl⟩, Or.inl ⟨by decide, _, _, fX6_11⟩⟩, ⟨⟨dX6_next_74, rfl⟩, rfl⟩, ⟨⟨dX6_next_75, rfl⟩, Or.inl ⟨by decide, _, _, fX6_31⟩⟩, ⟨⟨dX6_next_78, rfl⟩, trivial⟩, ⟨⟨dX6_next_79, rfl⟩, Or.inl ⟨rfl, _, my_56, sX6_126⟩⟩, ⟨⟨dX6_next_82, rfl⟩, rfl⟩, ⟨⟨dX6_next_85, rfl⟩, rfl⟩, ⟨⟨dX6_next_86, rfl⟩, rfl⟩, ⟨⟨dX6_next_87, rfl⟩, Or.inl ⟨rfl, fX6_60⟩⟩, ⟨⟨dX6_next_90, rfl⟩, rfl⟩, ⟨⟨dX6_next_91, rfl⟩, Or.inl ⟨by decide, _, _, fX6_31⟩⟩, ⟨⟨dX6_next_94, rfl⟩, rfl⟩, trivial⟩,
  ⟨⟨⟨dX6_next_95, rfl⟩, Or.inl ⟨by decide, _, _, fX6_28⟩⟩, ⟨⟨dX6_next_98, rfl⟩, rfl⟩, ⟨⟨dX6_next_101, rfl⟩, rfl⟩, ⟨⟨dX6_next_102, rfl⟩, Or.inl ⟨by decide, _, _, fX6_11⟩⟩, ⟨⟨dX6_next_105, rfl⟩, rfl⟩, ⟨⟨dX6_next_106, rfl⟩, Or.inl ⟨by decide, _, _, fX6_31⟩⟩, ⟨⟨dX6_next_109, rfl⟩, trivial⟩, ⟨⟨dX6_next_110, rfl⟩, Or.inl ⟨rfl, _, my_56, sX6_126⟩⟩, ⟨⟨dX6_next_113, rfl⟩, rfl⟩, ⟨⟨dX6_next_116, rfl⟩, rfl⟩, ⟨⟨dX6_next_117, rfl⟩, trivial⟩, ⟨⟨dX6_next_118, rfl⟩, Or.inl ⟨by decide, _, _, fX6_31⟩⟩, ⟨⟨dX6_next_121, rfl⟩, rfl⟩, ⟨⟨dX6_next_122, rfl⟩, trivial⟩, ⟨⟨dX6_next_123, rfl⟩, Or.inl ⟨rfl, fX6_31⟩⟩, ⟨⟨dX6_next_126, rfl⟩, rfl⟩, ⟨⟨dX6_next_129, rfl⟩, rfl⟩, ⟨⟨dX6_next_130, rfl⟩, rfl⟩, ⟨⟨dX6_next_131, rfl⟩, rfl⟩, ⟨⟨dX6_next_132, rfl⟩, Or.inl ⟨by decide, _, _, fX6_47⟩⟩, ⟨⟨dX6_next_135, rfl⟩, Or.inr ⟨by decide, ⟨_, my_63, sX6_129⟩, fun q => absurd q (by decide)⟩⟩, ⟨⟨dX6_next_138, rfl⟩, Or.inl ⟨rfl, fX6_81⟩⟩, ⟨⟨dX6_next_141, rfl⟩, rfl⟩, ⟨⟨dX6_next_144, rfl⟩, rfl⟩, trivial⟩,
  ⟨⟨⟨dX6_next_145, rfl⟩, Or.inl ⟨by decide, _, _, fX6_11⟩⟩, ⟨⟨dX6_next_148, rfl⟩, rfl⟩, ⟨⟨dX6_next_149, rfl⟩, Or.inl ⟨by decide, _, _, fX6_31⟩⟩, ⟨⟨dX6_next_152, rfl⟩, trivial⟩, ⟨⟨dX6_next_153, rfl⟩, Or.inl ⟨rfl, _, my_64, sX6_133⟩⟩, ⟨⟨dX6_next_156, rfl⟩, rfl⟩, ⟨⟨dX6_next_159, rfl⟩, rfl⟩, ⟨⟨dX6_next_160, rfl⟩, rfl⟩, ⟨⟨dX6_next_161, rfl⟩, Or.inl ⟨rfl, fX6_60⟩⟩, ⟨⟨dX6_next_164, rfl⟩, rfl⟩, ⟨⟨dX6_next_165, rfl⟩, Or.inl ⟨by decide, _, _, fX6_31⟩⟩, ⟨⟨dX6_next_168, rfl⟩, rfl⟩, ⟨⟨dX6_next_169, rfl⟩, Or.inl ⟨by decide, _, _, fX6_28⟩⟩, ⟨⟨dX6_next_172, rfl⟩, rfl⟩, ⟨⟨dX6_next_175, rfl⟩, rfl⟩, ⟨⟨dX6_next_176, rfl⟩, Or.inl ⟨by decide, _, _, fX6_11⟩⟩, ⟨⟨dX6_next_179, rfl⟩, rfl⟩, ⟨⟨dX6_next_180, rfl⟩, Or.inl ⟨by decide, _, _, fX6_31⟩⟩, ⟨⟨dX6_next_183, rfl⟩, trivial⟩, ⟨⟨dX6_next_184, rfl⟩, Or.inl ⟨rfl, _, my_64, sX6_133⟩⟩, ⟨⟨dX6_next_187, rfl⟩, rfl⟩, ⟨⟨dX6_next_190, rfl⟩, rfl⟩, ⟨⟨dX6_next_191, rfl⟩, rfl⟩, ⟨⟨dX6_next_192, rfl⟩, Or.inl ⟨by decide, _, _, fX6_31⟩⟩, trivial⟩,
  ⟨⟨⟨dX6_next_195, rfl⟩, rfl⟩, ⟨⟨dX6_next_196, rfl⟩, Or.inl ⟨by decide, _, _, fX6_47⟩⟩, ⟨⟨dX6_next_199, rfl⟩, trivial⟩, ⟨⟨dX6_next_200, rfl⟩, rfl⟩, ⟨⟨dX6_next_202, rfl⟩, rfl⟩, ⟨⟨dX6_next_205, rfl⟩, rfl⟩, ⟨⟨dX6_next_206, rfl⟩, Or.inl ⟨by decide, _, _, fX6_81⟩⟩, ⟨⟨dX6_next_209, rfl⟩, rfl⟩, ⟨⟨dX6_next_211, rfl⟩, trivial⟩, ⟨⟨dX6_next_212, rfl⟩, rfl⟩, ⟨⟨dX6_next_213, rfl⟩, Or.inl ⟨by decide, _, _, fX6_11⟩⟩, ⟨⟨dX6_next_216, rfl⟩, rfl⟩, ⟨⟨dX6_next_217, rfl⟩, Or.inl ⟨by decide, _, _, fX6_31⟩⟩, ⟨⟨dX6_next_220, rfl⟩, trivial⟩, ⟨⟨dX6_next_221, rfl⟩, trivial⟩, ⟨⟨dX6_next_222, rfl⟩, rfl⟩, ⟨⟨dX6_next_224, rfl⟩, trivial⟩, ⟨⟨dX6_next_225, rfl⟩, rfl⟩, ⟨⟨dX6_next_228, rfl⟩, Or.inl ⟨rfl, kX6_136⟩⟩, ⟨⟨dX6_next_230, rfl⟩, Or.inl ⟨rfl, fX6_81⟩⟩, ⟨⟨dX6_next_233, rfl⟩, rfl⟩, ⟨⟨dX6_next_234, rfl⟩, trivial⟩, ⟨⟨dX6_next_235, rfl⟩, Or.inl ⟨by decide, _, _, fX6_31⟩⟩, ⟨⟨dX6_next_238, rfl⟩, rfl⟩, trivial⟩,
  ⟨⟨⟨dX6_next_239, rfl⟩, trivial⟩, ⟨⟨dX6_next_240, rfl⟩, Or.inl ⟨rfl, fX6_31⟩⟩, ⟨⟨dX6_next_243, rfl⟩, rfl⟩, ⟨⟨dX6_next_246, rfl⟩, rfl⟩, ⟨⟨dX6_next_247, rfl⟩, rfl⟩, ⟨⟨dX6_next_248, rfl⟩, Or.inl ⟨rfl, fX6_60⟩⟩, ⟨⟨dX6_next_251, rfl⟩, rfl⟩, ⟨⟨dX6_next_252, rfl⟩, rfl⟩, ⟨⟨dX6_next_253, rfl⟩, Or.inl ⟨by decide, _, _, fX6_11⟩⟩, ⟨⟨dX6_next_256, rfl⟩, rfl⟩, ⟨⟨dX6_next_257, rfl⟩, Or.inl ⟨by decide, _, _, fX6_31⟩⟩, ⟨⟨dX6_next_260, rfl⟩, trivial⟩, ⟨⟨dX6_next_261, rfl⟩, Or.inl ⟨rfl, fX6_81⟩⟩, ⟨⟨dX6_next_264, rfl⟩, rfl⟩, ⟨⟨dX6_next_265, rfl⟩, trivial⟩, ⟨⟨dX6_next_266, rfl⟩, Or.inl ⟨by decide, _, _, fX6_31⟩⟩, ⟨⟨dX6_next_269, rfl⟩, rfl⟩, ⟨⟨dX6_next_270, rfl⟩, trivial⟩, ⟨⟨dX6_next_271, rfl⟩, Or.inl ⟨rfl, fX6_31⟩⟩, ⟨⟨dX6_next_274, rfl⟩, rfl⟩, trivial⟩, trivial⟩, by decide, Or.inl ⟨rfl, by decide, rfl⟩⟩
set_option maxRecDepth 100000 in
theorem g_X6_next_0 (S : sT) (call : cT) (n : Nat) (a0 : Nat) (h : pH) : bd S call dflT E_X6_next (n + 1) 0 [some (.ref a0)] [] h = (gI h (.ref a0) 9 4 (fun y1 => gI h (.ref a0) 9 3 (fun y2 => (if y2 ≤ y1 then bd S call dflT E_X6_next n 38 [some (.ref a0)] [] h else gV h (.ref a0) 9 0 (fun w3 => gI h (.ref a0) 9 4 (fun y4 => aI h w3 1 y4 (fun y5 => (if y5 = 32 then gI h (.ref a0) 9 4 (fun y6 => pF h (.ref a0) 9 4 (.int (y6 + 1)) (fun h7 => bd S call dflT E_X6_next n 0 [some (.ref a0)] [] h7)) else bd S call dflT E_X6_next n 38 [some (.ref a0)] [] h)))))))) := rfl
set_option maxRecDepth 100000 in
theorem g_X6_next_38 (S : sT) (call : cT) (n : Nat) (a0 : Nat) (h : pH) : bd S call dflT E_X6_next (n + 1) 38 [some (.ref a0)] [] h = (gI h (.ref a0) 9 4 (fun y1 => pF h (.ref a0) 9 5 (.int y1) (fun h2 => pF h2 (.ref a0) 9 7 (.int 0) (fun h3 => gI h3 (.ref a0) 9 4 (fun y4 => gI h3 (.ref a0) 9 3 (fun y5 => (if y4 < y5 then gV h3 (.ref a0) 9 0 (fun w6 => gI h3 (.ref a0) 9 4 (fun y7 => aI h3 w6 1 y7 (fun y8 => cI (call 56 [.int y8] h3) (fun y10 h9 => (if y10 = 0 then gV h9 (.ref a0) 9 0 (fun w11 => gI h9 (.ref a0) 9 4 (fun y12 => aI h9 w11 1 y12 (fun y13 => cI (call 64 [.int y13] h9) (fun y15 h14 => (if y15 = 0 then pF h14 (.ref a0) 9 6 (.int 3) (fun h16 => gV h16 (.ref a0) 9 0 (fun w17 => gI h16 (.ref a0) 9 4 (fun y18 => aI h16 w17 1 y18 (fun y19 => pF h16 (.ref a0) 9 7 (.int y19) (fun h20 => gI h20 (.ref a0) 9 4 (fun y21 => pF h20 (.ref a0) 9 4 (.int (y21 + 1)) (fun h22 => some (.inl none, h22)))))))) else pF h14 (.ref a0) 9 6 (.int 2) (fun h23 => bd S call dflT E_X6_next n 164 [some (.ref a0)] [] h23)))))) else pF h9 (.ref a0) 9 6 (.int 1) (fun h24 => bd S call dflT E_X6_next n 90 [some (.ref a0)] [] h24)))))) else pF h3 (.ref a0) 9 6 (.int 0) (fun h25 => some (.inl none, h25))))))))) := rfl
set_option maxRecDepth 100000 in
theorem g_X6_next_90 (S : sT) (call : cT) (n : Nat) (a0 : Nat) (h : pH) : bd S call dflT E_X6_next (n + 1) 90 [some (.ref a0)] [] h = (gI h (.ref a0) 9 4 (fun y1 => gI h (.ref a0) 9 3 (fun y2 => (if y2 ≤ y1 then gI h (.ref a0) 9 5 (fun y3 => rC h (.ref a0) 9 (cI (call 63 [.ref a0, .int y3] h) (fun y5 h4 => pF h4 (.ref a0) 9 7 (.int y5) (fun h6 => some (.inl none, h6))))) else gV h (.ref a0) 9 0 (fun w7 => gI h (.ref a0) 9 4 (fun y8 => aI h w7 1 y8 (fun y9 => cI (call 56 [.int y9] h) (fun y11 h10 => (if y11 = 0 then gI h10 (.ref a0) 9 5 (fun y12 => rC h10 (.ref a0) 9 (cI (call 63 [.ref a0, .int y12] h10) (fun y14 h13 => pF h13 (.ref a0) 9 7 (.int y14) (fun h15 => some (.inl none, h15))))) else gI h10 (.ref a0) 9 4 (fun y16 => pF h10 (.ref a0) 9 4 (.int (y16 + 1)) (fun h17 => bd S call dflT E_X6_next n 90 [some (.ref a0)] [] h17))))))))))) := rfl
set_option maxRecDepth 100000 in
theorem g_X6_next_164 (S : sT) (call : cT) (n : Nat) (a0 : Nat) (h : pH) : bd S call dflT E_X6_next (n + 1) 164 [some (.ref a0)] [] h = (gI h (.ref a0) 9 4 (fun y1 => gI h (.ref a0) 9 3 (fun y2 => (if y2 ≤ y1 then some (.inl none, h) else gV h (.ref a0) 9 0 (fun w3 => gI h (.ref a0) 9 4 (fun y4 => aI h w3 1 y4 (fun y5 => cI (call 64 [.int y5] h) (fun y7 h6 => (if y7 = 0 then some (.inl none, h6) else gI h6 (.ref a0) 9 4 (fun y8 => gI h6 (.ref a0) 9 5 (fun y9 => (if 6 ≤ (y8 - y9) then pF h6 (.ref a0) 9 7 (.int 1000000) (fun h10 => gI h10 (.ref a0) 9 4 (fun y11 => pF h10 (.ref a0) 9 4 (.int (y11 + 1)) (fun h12 => bd S call dflT E_X6_next n 164 [some (.ref a0)] [] h12))) else gI h6 (.ref a0) 9 7 (fun y13 => gV h6 (.ref a0) 9 0 (fun w14 => gI h6 (.ref a0) 9 4 (fun y15 => aI h6 w14 1 y15 (fun y16 => pF h6 (.ref a0) 9 7 (.int (((y13 * 10) + y16) - 48)) (fun h17 => gI h17 (.ref a0) 9 4 (fun y18 => pF h17 (.ref a0) 9 4 (.int (y18 + 1)) (fun h19 => bd S call dflT E_X6_next n 164 [some (.ref a0)] [] h19))))))))))))))))))) := rfl
theorem dX6_write_0 : decode cX6_write 0 = .ok (.aload_n 0, 1) := by decide +kernel
theorem dX6_write_1 : decode cX6_write 1 = .ok (.getfield 34, 3) := by decide +kernel
theorem dX6_write_4 : decode cX6_write 4 = .ok (.bipush 16, 2) := by decide +kernel
theorem dX6_write_6 : decode cX6_write 6 = .ok (.if_icmp .ge 18, 3) := by decide +kernel
theorem dX6_write_9 : decode cX6_write 9 = .ok (.aload_n 0, 1) := by decide +kernel
theorem dX6_write_10 : decode cX6_write 10 = .ok (.getfield 21, 3) := by decide +kernel
theorem dX6_write_13 : decode cX6_write 13 = .ok (.bipush 6, 2) := by decide +kernel
theorem dX6_write_15 : decode cX6_write 15 = .ok (.aload_n 0, 1) := by decide +kernel
theorem dX6_write_16 : decode cX6_write 16 = .ok (.getfield 34, 3) := by decide +kernel
theorem dX6_write_19 : decode cX6_write 19 = .ok (.imul, 1) := by decide +kernel
theorem dX6_write_20 : decode cX6_write 20 = .ok (.iload_n 1, 1) := by decide +kernel
theorem dX6_write_21 : decode cX6_write 21 = .ok (.iadd, 1) := by decide +kernel
theorem dX6_write_22 : decode cX6_write 22 = .ok (.iload_n 2, 1) := by decide +kernel
theorem dX6_write_23 : decode cX6_write 23 = .ok (.iastore, 1) := by decide +kernel
theorem dX6_write_24 : decode cX6_write 24 = .ok (.return_, 1) := by decide +kernel
noncomputable def E_X6_write : mE := (mX6_write, [(24, [(0, (.aload_n 0, 1, false, false, 0, 0, 0, 0, 0, 0, [])), (1, (.getfield 34, 4, false, false, 9, 9, 0, 0, 0, 0, [])), (4, (.bipush 16, 6, false, false, 0, 0, 0, 0, 16, 0, [])), (6, (.if_icmp .ge 18, 9, false, false, 24, 0, 0, 0, 0, 0, [])), (9, (.aload_n 0, 10, false, false, 0, 0, 0, 0, 0, 0, [])), (10, (.getfield 21, 13, false, false, 9, 8, 1, 0, 0, 0, [])), (13, (.bipush 6, 15, false, false, 0, 0, 0, 0, 6, 0, [])), (15, (.aload_n 0, 16, false, false, 0, 0, 0, 0, 0, 0, [])), (16, (.getfield 34, 19, false, false, 9, 9, 0, 0, 0, 0, [])), (19, (.imul, 20, false, false, 0, 0, 0, 0, 0, 0, [])), (20, (.iload_n 1, 21, false, false, 1, 0, 0, 0, 0, 0, [])), (21, (.iadd, 22, false, false, 0, 0, 0, 0, 0, 0, [])), (22, (.iload_n 2, 23, false, false, 2, 0, 0, 0, 0, 0, [])), (23, (.iastore, 24, false, false, 0, 0, 0, 0, 0, 0, [])), (24, (.return_, 25, false, false, 0, 0, 0, 0, 0, 0, []))])], 0, [])
set_option maxRecDepth 100000 in
theorem v_X6_write : VE MYT dflT E_X6_write := ⟨⟨⟨⟨⟨dX6_write_0, rfl⟩, rfl⟩, ⟨⟨dX6_write_1, rfl⟩, Or.inl ⟨by decide, _, _, fX6_34⟩⟩, ⟨⟨dX6_write_4, rfl⟩, rfl⟩, ⟨⟨dX6_write_6, rfl⟩, rfl⟩, ⟨⟨dX6_write_9, rfl⟩, rfl⟩, ⟨⟨dX6_write_10, rfl⟩, Or.inl ⟨by decide, _, _, fX6_21⟩⟩, ⟨⟨dX6_write_13, rfl⟩, rfl⟩, ⟨⟨dX6_write_15, rfl⟩, rfl⟩, ⟨⟨dX6_write_16, rfl⟩, Or.inl ⟨by decide, _, _, fX6_34⟩⟩, ⟨⟨dX6_write_19, rfl⟩, trivial⟩, ⟨⟨dX6_write_20, rfl⟩, rfl⟩, ⟨⟨dX6_write_21, rfl⟩, trivial⟩, ⟨⟨dX6_write_22, rfl⟩, rfl⟩, ⟨⟨dX6_write_23, rfl⟩, trivial⟩, ⟨⟨dX6_write_24, rfl⟩, rfl⟩, trivial⟩, trivial⟩, by decide, Or.inl ⟨rfl, by decide, rfl⟩⟩
set_option maxRecDepth 100000 in
theorem g_X6_write_0 (S : sT) (call : cT) (n : Nat) (a0 : Nat) (x1 : Int32) (x2 : Int32) (h : pH) : bd S call dflT E_X6_write (n + 1) 0 [some (.ref a0), some (.int x1), some (.int x2)] [] h = (gI h (.ref a0) 9 9 (fun y1 => (if 16 ≤ y1 then some (.inl none, h) else gV h (.ref a0) 9 8 (fun w2 => gI h (.ref a0) 9 9 (fun y3 => sI h w2 0 ((6 * y3) + x1) x2 (fun h4 => some (.inl none, h4))))))) := rfl
theorem dX6_takeVerb_0 : decode cX6_takeVerb 0 = .ok (.iload_n 1, 1) := by decide +kernel
theorem dX6_takeVerb_1 : decode cX6_takeVerb 1 = .ok (.ifCond .eq 8, 3) := by decide +kernel
theorem dX6_takeVerb_4 : decode cX6_takeVerb 4 = .ok (.bipush 24, 2) := by decide +kernel
theorem dX6_takeVerb_6 : decode cX6_takeVerb 6 = .ok (.goto 5, 3) := by decide +kernel
theorem dX6_takeVerb_9 : decode cX6_takeVerb 9 = .ok (.bipush 17, 2) := by decide +kernel
theorem dX6_takeVerb_11 : decode cX6_takeVerb 11 = .ok (.istore_n 2, 1) := by decide +kernel
theorem dX6_takeVerb_12 : decode cX6_takeVerb 12 = .ok (.iload_n 1, 1) := by decide +kernel
theorem dX6_takeVerb_13 : decode cX6_takeVerb 13 = .ok (.ifCond .eq 8, 3) := by decide +kernel
theorem dX6_takeVerb_16 : decode cX6_takeVerb 16 = .ok (.bipush 30, 2) := by decide +kernel
theorem dX6_takeVerb_18 : decode cX6_takeVerb 18 = .ok (.goto 5, 3) := by decide +kernel
theorem dX6_takeVerb_21 : decode cX6_takeVerb 21 = .ok (.bipush 23, 2) := by decide +kernel
theorem dX6_takeVerb_23 : decode cX6_takeVerb 23 = .ok (.istore_n 3, 1) := by decide +kernel
theorem dX6_takeVerb_24 : decode cX6_takeVerb 24 = .ok (.aload_n 0, 1) := by decide +kernel
theorem dX6_takeVerb_25 : decode cX6_takeVerb 25 = .ok (.getfield 60, 3) := by decide +kernel
theorem dX6_takeVerb_28 : decode cX6_takeVerb 28 = .ok (.iconst 1, 1) := by decide +kernel
theorem dX6_takeVerb_29 : decode cX6_takeVerb 29 = .ok (.if_icmp .ne 19, 3) := by decide +kernel
theorem dX6_takeVerb_32 : decode cX6_takeVerb 32 = .ok (.aload_n 0, 1) := by decide +kernel
theorem dX6_takeVerb_33 : decode cX6_takeVerb 33 = .ok (.getfield 81, 3) := by decide +kernel
theorem dX6_takeVerb_36 : decode cX6_takeVerb 36 = .ok (.iload_n 2, 1) := by decide +kernel
theorem dX6_takeVerb_37 : decode cX6_takeVerb 37 = .ok (.if_icmp .lt 11, 3) := by decide +kernel
theorem dX6_takeVerb_40 : decode cX6_takeVerb 40 = .ok (.aload_n 0, 1) := by decide +kernel
theorem dX6_takeVerb_41 : decode cX6_takeVerb 41 = .ok (.getfield 81, 3) := by decide +kernel
theorem dX6_takeVerb_44 : decode cX6_takeVerb 44 = .ok (.iload_n 3, 1) := by decide +kernel
theorem dX6_takeVerb_45 : decode cX6_takeVerb 45 = .ok (.if_icmp .le 5, 3) := by decide +kernel
theorem dX6_takeVerb_48 : decode cX6_takeVerb 48 = .ok (.iconst 0, 1) := by decide +kernel
theorem dX6_takeVerb_49 : decode cX6_takeVerb 49 = .ok (.ireturn, 1) := by decide +kernel
theorem dX6_takeVerb_50 : decode cX6_takeVerb 50 = .ok (.aload_n 0, 1) := by decide +kernel
theorem dX6_takeVerb_51 : decode cX6_takeVerb 51 = .ok (.iconst 0, 1) := by decide +kernel
theorem dX6_takeVerb_52 : decode cX6_takeVerb 52 = .ok (.aload_n 0, 1) := by decide +kernel
theorem dX6_takeVerb_53 : decode cX6_takeVerb 53 = .ok (.getfield 81, 3) := by decide +kernel
theorem dX6_takeVerb_56 : decode cX6_takeVerb 56 = .ok (.invokevirtual 73, 3) := by decide +kernel
theorem dX6_takeVerb_59 : decode cX6_takeVerb 59 = .ok (.aload_n 0, 1) := by decide +kernel
theorem dX6_takeVerb_60 : decode cX6_takeVerb 60 = .ok (.iconst 1, 1) := by decide +kernel
theorem dX6_takeVerb_61 : decode cX6_takeVerb 61 = .ok (.iconst 0, 1) := by decide +kernel
theorem dX6_takeVerb_62 : decode cX6_takeVerb 62 = .ok (.invokevirtual 73, 3) := by decide +kernel
theorem dX6_takeVerb_65 : decode cX6_takeVerb 65 = .ok (.aload_n 0, 1) := by decide +kernel
theorem dX6_takeVerb_66 : decode cX6_takeVerb 66 = .ok (.iconst 2, 1) := by decide +kernel
theorem dX6_takeVerb_67 : decode cX6_takeVerb 67 = .ok (.iconst 0, 1) := by decide +kernel
theorem dX6_takeVerb_68 : decode cX6_takeVerb 68 = .ok (.invokevirtual 73, 3) := by decide +kernel
theorem dX6_takeVerb_71 : decode cX6_takeVerb 71 = .ok (.aload_n 0, 1) := by decide +kernel
theorem dX6_takeVerb_72 : decode cX6_takeVerb 72 = .ok (.iconst 3, 1) := by decide +kernel
theorem dX6_takeVerb_73 : decode cX6_takeVerb 73 = .ok (.iconst 0, 1) := by decide +kernel
theorem dX6_takeVerb_74 : decode cX6_takeVerb 74 = .ok (.invokevirtual 73, 3) := by decide +kernel
theorem dX6_takeVerb_77 : decode cX6_takeVerb 77 = .ok (.aload_n 0, 1) := by decide +kernel
theorem dX6_takeVerb_78 : decode cX6_takeVerb 78 = .ok (.iconst 4, 1) := by decide +kernel
theorem dX6_takeVerb_79 : decode cX6_takeVerb 79 = .ok (.aload_n 0, 1) := by decide +kernel
theorem dX6_takeVerb_80 : decode cX6_takeVerb 80 = .ok (.getfield 37, 3) := by decide +kernel
theorem dX6_takeVerb_83 : decode cX6_takeVerb 83 = .ok (.invokevirtual 73, 3) := by decide +kernel
theorem dX6_takeVerb_86 : decode cX6_takeVerb 86 = .ok (.aload_n 0, 1) := by decide +kernel
theorem dX6_takeVerb_87 : decode cX6_takeVerb 87 = .ok (.aload_n 0, 1) := by decide +kernel
theorem dX6_takeVerb_88 : decode cX6_takeVerb 88 = .ok (.getfield 81, 3) := by decide +kernel
theorem dX6_takeVerb_91 : decode cX6_takeVerb 91 = .ok (.putfield 84, 3) := by decide +kernel
theorem dX6_takeVerb_94 : decode cX6_takeVerb 94 = .ok (.aload_n 0, 1) := by decide +kernel
theorem dX6_takeVerb_95 : decode cX6_takeVerb 95 = .ok (.invokevirtual 40, 3) := by decide +kernel
theorem dX6_takeVerb_98 : decode cX6_takeVerb 98 = .ok (.iconst 1, 1) := by decide +kernel
theorem dX6_takeVerb_99 : decode cX6_takeVerb 99 = .ok (.ireturn, 1) := by decide +kernel
noncomputable def E_X6_takeVerb : mE := (mX6_takeVerb, [(45, [(0, (.iload_n 1, 1, false, false, 1, 0, 0, 0, 0, 0, [])), (1, (.ifCond .eq 8, 4, false, false, 9, 0, 0, 0, 0, 0, [])), (4, (.bipush 24, 6, false, false, 0, 0, 0, 0, 24, 0, [])), (6, (.goto 5, 9, false, false, 11, 0, 0, 0, 0, 0, [])), (9, (.bipush 17, 11, false, false, 0, 0, 0, 0, 17, 0, [])), (11, (.istore_n 2, 12, false, false, 2, 0, 0, 0, 0, 0, [])), (12, (.iload_n 1, 13, false, false, 1, 0, 0, 0, 0, 0, [])), (13, (.ifCond .eq 8, 16, false, false, 21, 0, 0, 0, 0, 0, [])), (16, (.bipush 30, 18, false, false, 0, 0, 0, 0, 30, 0, [])), (18, (.goto 5, 21, false, true, 23, 0, 0, 0, 0, 0, [])), (21, (.bipush 23, 23, true, false, 0, 0, 0, 0, 23, 0, [])), (23, (.istore_n 3, 24, false, false, 3, 0, 0, 0, 0, 0, [])), (24, (.aload_n 0, 25, false, false, 0, 0, 0, 0, 0, 0, [])), (25, (.getfield 60, 28, false, false, 9, 6, 0, 0, 0, 0, [])), (28, (.iconst 1, 29, false, false, 0, 0, 0, 0, 1, 0, [])), (29, (.if_icmp .ne 19, 32, false, false, 48, 0, 0, 0, 0, 0, [])), (32, (.aload_n 0, 33, false, false, 0, 0, 0, 0, 0, 0, [])), (33, (.getfield 81, 36, false, false, 9, 7, 0, 0, 0, 0, [])), (36, (.iload_n 2, 37, false, false, 2, 0, 0, 0, 0, 0, [])), (37, (.if_icmp .lt 11, 40, false, false, 48, 0, 0, 0, 0, 0, [])), (40, (.aload_n 0, 41, false, false, 0, 0, 0, 0, 0, 0, [])), (41, (.getfield 81, 44, false, false, 9, 7, 0, 0, 0, 0, [])), (44, (.iload_n 3, 45, false, false, 3, 0, 0, 0, 0, 0, [])), (45, (.if_icmp .le 5, 48, false, false, 50, 0, 0, 0, 0, 0, []))]),
  (83, [(48, (.iconst 0, 49, false, false, 0, 0, 0, 0, 0, 0, [])), (49, (.ireturn, 50, false, false, 0, 0, 1, 0, 0, 0, [])), (50, (.aload_n 0, 51, false, false, 0, 0, 0, 0, 0, 0, [])), (51, (.iconst 0, 52, false, false, 0, 0, 0, 0, 0, 0, [])), (52, (.aload_n 0, 53, false, false, 0, 0, 0, 0, 0, 0, [])), (53, (.getfield 81, 56, false, false, 9, 7, 0, 0, 0, 0, [])), (56, (.invokevirtual 73, 59, false, false, 66, 2, 0, 9, 0, 0, [])), (59, (.aload_n 0, 60, false, false, 0, 0, 0, 0, 0, 0, [])), (60, (.iconst 1, 61, false, false, 0, 0, 0, 0, 1, 0, [])), (61, (.iconst 0, 62, false, false, 0, 0, 0, 0, 0, 0, [])), (62, (.invokevirtual 73, 65, false, false, 66, 2, 0, 9, 0, 0, [])), (65, (.aload_n 0, 66, false, false, 0, 0, 0, 0, 0, 0, [])), (66, (.iconst 2, 67, false, false, 0, 0, 0, 0, 2, 0, [])), (67, (.iconst 0, 68, false, false, 0, 0, 0, 0, 0, 0, [])), (68, (.invokevirtual 73, 71, false, false, 66, 2, 0, 9, 0, 0, [])), (71, (.aload_n 0, 72, false, false, 0, 0, 0, 0, 0, 0, [])), (72, (.iconst 3, 73, false, false, 0, 0, 0, 0, 3, 0, [])), (73, (.iconst 0, 74, false, false, 0, 0, 0, 0, 0, 0, [])), (74, (.invokevirtual 73, 77, false, false, 66, 2, 0, 9, 0, 0, [])), (77, (.aload_n 0, 78, false, false, 0, 0, 0, 0, 0, 0, [])), (78, (.iconst 4, 79, false, false, 0, 0, 0, 0, 4, 0, [])), (79, (.aload_n 0, 80, false, false, 0, 0, 0, 0, 0, 0, [])), (80, (.getfield 37, 83, false, false, 9, 10, 0, 0, 0, 0, [])), (83, (.invokevirtual 73, 86, false, false, 66, 2, 0, 9, 0, 0, []))]),
  (99, [(86, (.aload_n 0, 87, false, false, 0, 0, 0, 0, 0, 0, [])), (87, (.aload_n 0, 88, false, false, 0, 0, 0, 0, 0, 0, [])), (88, (.getfield 81, 91, false, false, 9, 7, 0, 0, 0, 0, [])), (91, (.putfield 84, 94, false, false, 9, 11, 0, 0, 0, 0, [])), (94, (.aload_n 0, 95, false, false, 0, 0, 0, 0, 0, 0, [])), (95, (.invokevirtual 40, 98, false, false, 65, 0, 0, 9, 0, 0, [])), (98, (.iconst 1, 99, false, false, 0, 0, 0, 0, 1, 0, [])), (99, (.ireturn, 100, false, false, 0, 0, 1, 0, 0, 0, []))])], 0, [])
set_option maxRecDepth 100000 in
theorem v_X6_takeVerb : VE MYT dflT E_X6_takeVerb := ⟨⟨⟨⟨⟨dX6_takeVerb_0, rfl⟩, rfl⟩, ⟨⟨dX6_takeVerb_1, rfl⟩, rfl⟩, ⟨⟨dX6_takeVerb_4, rfl⟩, rfl⟩, ⟨⟨dX6_takeVerb_6, rfl⟩, rfl⟩, ⟨⟨dX6_takeVerb_9, rfl⟩, rfl⟩, ⟨⟨dX6_takeVerb_11, rfl⟩, rfl⟩, ⟨⟨dX6_takeVerb_12, rfl⟩, rfl⟩, ⟨⟨dX6_takeVerb_13, rfl⟩, rfl⟩, ⟨⟨dX6_takeVerb_16, rfl⟩, rfl⟩, ⟨⟨dX6_takeVerb_18, rfl⟩, rfl⟩, ⟨⟨dX6_takeVerb_21, rfl⟩, rfl⟩, ⟨⟨dX6_takeVerb_23, rfl⟩, rfl⟩, ⟨⟨dX6_takeVerb_24, rfl⟩, rfl⟩, ⟨⟨dX6_takeVerb_25, rfl⟩, Or.inl ⟨by decide, _, _, fX6_60⟩⟩, ⟨⟨dX6_takeVerb_28, rfl⟩, rfl⟩, ⟨⟨dX6_takeVerb_29, rfl⟩, rfl⟩, ⟨⟨dX6_takeVerb_32, rfl⟩, rfl⟩, ⟨⟨dX6_takeVerb_33, rfl⟩, Or.inl ⟨by decide, _, _, fX6_81⟩⟩, ⟨⟨dX6_takeVerb_36, rfl⟩, rfl⟩, ⟨⟨dX6_takeVerb_37, rfl⟩, rfl⟩, ⟨⟨dX6_takeVerb_40, rfl⟩, rfl⟩, ⟨⟨dX6_takeVerb_41, rfl⟩, Or.inl ⟨by decide, _, _, fX6_81⟩⟩, ⟨⟨dX6_takeVerb_44, rfl⟩, rfl⟩, ⟨⟨dX6_takeVerb_45, rfl⟩, rfl⟩, trivial⟩,
  ⟨⟨⟨dX6_takeVerb_48, rfl⟩, rfl⟩, ⟨⟨dX6_takeVerb_49, rfl⟩, Or.inr (Or.inl ⟨rfl, rfl⟩)⟩, ⟨⟨dX6_takeVerb_50, rfl⟩, rfl⟩, ⟨⟨dX6_takeVerb_51, rfl⟩, rfl⟩, ⟨⟨dX6_takeVerb_52, rfl⟩, rfl⟩, ⟨⟨dX6_takeVerb_53, rfl⟩, Or.inl ⟨by decide, _, _, fX6_81⟩⟩, ⟨⟨dX6_takeVerb_56, rfl⟩, Or.inr ⟨by decide, ⟨_, my_66, sX6_73⟩, fun q => absurd q (by decide)⟩⟩, ⟨⟨dX6_takeVerb_59, rfl⟩, rfl⟩, ⟨⟨dX6_takeVerb_60, rfl⟩, rfl⟩, ⟨⟨dX6_takeVerb_61, rfl⟩, rfl⟩, ⟨⟨dX6_takeVerb_62, rfl⟩, Or.inr ⟨by decide, ⟨_, my_66, sX6_73⟩, fun q => absurd q (by decide)⟩⟩, ⟨⟨dX6_takeVerb_65, rfl⟩, rfl⟩, ⟨⟨dX6_takeVerb_66, rfl⟩, rfl⟩, ⟨⟨dX6_takeVerb_67, rfl⟩, rfl⟩, ⟨⟨dX6_takeVerb_68, rfl⟩, Or.inr ⟨by decide, ⟨_, my_66, sX6_73⟩, fun q => absurd q (by decide)⟩⟩, ⟨⟨dX6_takeVerb_71, rfl⟩, rfl⟩, ⟨⟨dX6_takeVerb_72, rfl⟩, rfl⟩, ⟨⟨dX6_takeVerb_73, rfl⟩, rfl⟩, ⟨⟨dX6_takeVerb_74, rfl⟩, Or.inr ⟨by decide, ⟨_, my_66, sX6_73⟩, fun q => absurd q (by decide)⟩⟩, ⟨⟨dX6_takeVerb_77, rfl⟩, rfl⟩, ⟨⟨dX6_takeVerb_78, rfl⟩, rfl⟩, ⟨⟨dX6_takeVerb_79, rfl⟩, rfl⟩, ⟨⟨dX6_takeVerb_80, rfl⟩, Or.inl ⟨by decide, _, _, fX6_37⟩⟩, ⟨⟨dX6_takeVerb_83, rfl⟩, Or.inr ⟨by decide, ⟨_, my_66, sX6_73⟩, fun q => absurd q (by decide)⟩⟩, trivial⟩,
  ⟨⟨⟨dX6_takeVerb_86, rfl⟩, rfl⟩, ⟨⟨dX6_takeVerb_87, rfl⟩, rfl⟩, ⟨⟨dX6_takeVerb_88, rfl⟩, Or.inl ⟨by decide, _, _, fX6_81⟩⟩, ⟨⟨dX6_takeVerb_91, rfl⟩, Or.inl ⟨rfl, fX6_84⟩⟩, ⟨⟨dX6_takeVerb_94, rfl⟩, rfl⟩, ⟨⟨dX6_takeVerb_95, rfl⟩, Or.inr ⟨by decide, ⟨_, my_65, sX6_40⟩, fun q => absurd q (by decide)⟩⟩, ⟨⟨dX6_takeVerb_98, rfl⟩, rfl⟩, ⟨⟨dX6_takeVerb_99, rfl⟩, Or.inr (Or.inl ⟨rfl, rfl⟩)⟩, trivial⟩, trivial⟩, by decide, Or.inl ⟨rfl, by decide, rfl⟩⟩
set_option maxRecDepth 100000 in
theorem g_X6_takeVerb_0 (S : sT) (call : cT) (n : Nat) (a0 : Nat) (x1 : Int32) (h : pH) : bd S call dflT E_X6_takeVerb (n + 1) 0 [some (.ref a0), some (.int x1), none, none] [] h = ((if x1 = 0 then (if x1 = 0 then bd S call dflT E_X6_takeVerb n 23 [some (.ref a0), some (.int x1), some (.int 17), none] [.int 23] h else bd S call dflT E_X6_takeVerb n 23 [some (.ref a0), some (.int x1), some (.int 17), none] [.int 30] h) else (if x1 = 0 then bd S call dflT E_X6_takeVerb n 23 [some (.ref a0), some (.int x1), some (.int 24), none] [.int 23] h else bd S call dflT E_X6_takeVerb n 23 [some (.ref a0), some (.int x1), some (.int 24), none] [.int 30] h))) := rfl
set_option maxRecDepth 100000 in
theorem g_X6_takeVerb_23 (S : sT) (call : cT) (n : Nat) (a0 : Nat) (x1 : Int32) (x2 : Int32) (o3 : Option Value) (y0 : Int32) (h : pH) : bd S call dflT E_X6_takeVerb (n + 1) 23 [some (.ref a0), some (.int x1), some (.int x2), o3] [.int y0] h = (gI h (.ref a0) 9 6 (fun y1 => (if y1 = 1 then gI h (.ref a0) 9 7 (fun y2 => (if y2 < x2 then zR 0 (some (.inl (some (.int 0)), h)) else gI h (.ref a0) 9 7 (fun y3 => (if y3 ≤ y0 then gI h (.ref a0) 9 7 (fun y4 => rC h (.ref a0) 9 (cU (call 66 [.ref a0, .int 0, .int y4] h) (fun h5 => rC h5 (.ref a0) 9 (cU (call 66 [.ref a0, .int 1, .int 0] h5) (fun h6 => rC h6 (.ref a0) 9 (cU (call 66 [.ref a0, .int 2, .int 0] h6) (fun h7 => rC h7 (.ref a0) 9 (cU (call 66 [.ref a0, .int 3, .int 0] h7) (fun h8 => gI h8 (.ref a0) 9 10 (fun y9 => rC h8 (.ref a0) 9 (cU (call 66 [.ref a0, .int 4, .int y9] h8) (fun h10 => gI h10 (.ref a0) 9 7 (fun y11 => pF h10 (.ref a0) 9 11 (.int y11) (fun h12 => rC h12 (.ref a0) 9 (cU (call 65 [.ref a0] h12) (fun h13 => zR 1 (some (.inl (some (.int 1)), h13)))))))))))))))))) else zR 0 (some (.inl (some (.int 0)), h)))))) else zR 0 (some (.inl (some (.int 0)), h))))) := rfl
theorem dX6_takeNumber_0 : decode cX6_takeNumber 0 = .ok (.aload_n 0, 1) := by decide +kernel
theorem dX6_takeNumber_1 : decode cX6_takeNumber 1 = .ok (.getfield 60, 3) := by decide +kernel
theorem dX6_takeNumber_4 : decode cX6_takeNumber 4 = .ok (.iconst 2, 1) := by decide +kernel
theorem dX6_takeNumber_5 : decode cX6_takeNumber 5 = .ok (.if_icmp .ne 11, 3) := by decide +kernel
theorem dX6_takeNumber_8 : decode cX6_takeNumber 8 = .ok (.aload_n 0, 1) := by decide +kernel
theorem dX6_takeNumber_9 : decode cX6_takeNumber 9 = .ok (.getfield 81, 3) := by decide +kernel
theorem dX6_takeNumber_12 : decode cX6_takeNumber 12 = .ok (.iload_n 1, 1) := by decide +kernel
theorem dX6_takeNumber_13 : decode cX6_takeNumber 13 = .ok (.if_icmp .le 5, 3) := by decide +kernel
theorem dX6_takeNumber_16 : decode cX6_takeNumber 16 = .ok (.iconst 0, 1) := by decide +kernel
theorem dX6_takeNumber_17 : decode cX6_takeNumber 17 = .ok (.ireturn, 1) := by decide +kernel
theorem dX6_takeNumber_18 : decode cX6_takeNumber 18 = .ok (.aload_n 0, 1) := by decide +kernel
theorem dX6_takeNumber_19 : decode cX6_takeNumber 19 = .ok (.iconst 1, 1) := by decide +kernel
theorem dX6_takeNumber_20 : decode cX6_takeNumber 20 = .ok (.aload_n 0, 1) := by decide +kernel
theorem dX6_takeNumber_21 : decode cX6_takeNumber 21 = .ok (.getfield 81, 3) := by decide +kernel
theorem dX6_takeNumber_24 : decode cX6_takeNumber 24 = .ok (.invokevirtual 73, 3) := by decide +kernel
theorem dX6_takeNumber_27 : decode cX6_takeNumber 27 = .ok (.aload_n 0, 1) := by decide +kernel
theorem dX6_takeNumber_28 : decode cX6_takeNumber 28 = .ok (.invokevirtual 40, 3) := by decide +kernel
theorem dX6_takeNumber_31 : decode cX6_takeNumber 31 = .ok (.iconst 1, 1) := by decide +kernel
theorem dX6_takeNumber_32 : decode cX6_takeNumber 32 = .ok (.ireturn, 1) := by decide +kernel
noncomputable def E_X6_takeNumber : mE := (mX6_takeNumber, [(32, [(0, (.aload_n 0, 1, false, false, 0, 0, 0, 0, 0, 0, [])), (1, (.getfield 60, 4, false, false, 9, 6, 0, 0, 0, 0, [])), (4, (.iconst 2, 5, false, false, 0, 0, 0, 0, 2, 0, [])), (5, (.if_icmp .ne 11, 8, false, false, 16, 0, 0, 0, 0, 0, [])), (8, (.aload_n 0, 9, false, false, 0, 0, 0, 0, 0, 0, [])), (9, (.getfield 81, 12, false, false, 9, 7, 0, 0, 0, 0, [])), (12, (.iload_n 1, 13, false, false, 1, 0, 0, 0, 0, 0, [])), (13, (.if_icmp .le 5, 16, false, false, 18, 0, 0, 0, 0, 0, [])), (16, (.iconst 0, 17, false, false, 0, 0, 0, 0, 0, 0, [])), (17, (.ireturn, 18, false, false, 0, 0, 1, 0, 0, 0, [])), (18, (.aload_n 0, 19, false, false, 0, 0, 0, 0, 0, 0, [])), (19, (.iconst 1, 20, false, false, 0, 0, 0, 0, 1, 0, [])), (20, (.aload_n 0, 21, false, false, 0, 0, 0, 0, 0, 0, [])), (21, (.getfield 81, 24, false, false, 9, 7, 0, 0, 0, 0, [])), (24, (.invokevirtual 73, 27, false, false, 66, 2, 0, 9, 0, 0, [])), (27, (.aload_n 0, 28, false, false, 0, 0, 0, 0, 0, 0, [])), (28, (.invokevirtual 40, 31, false, false, 65, 0, 0, 9, 0, 0, [])), (31, (.iconst 1, 32, false, false, 0, 0, 0, 0, 1, 0, [])), (32, (.ireturn, 33, false, false, 0, 0, 1, 0, 0, 0, []))])], 0, [])
set_option maxRecDepth 100000 in
theorem v_X6_takeNumber : VE MYT dflT E_X6_takeNumber := ⟨⟨⟨⟨⟨dX6_takeNumber_0, rfl⟩, rfl⟩, ⟨⟨dX6_takeNumber_1, rfl⟩, Or.inl ⟨by decide, _, _, fX6_60⟩⟩, ⟨⟨dX6_takeNumber_4, rfl⟩, rfl⟩, ⟨⟨dX6_takeNumber_5, rfl⟩, rfl⟩, ⟨⟨dX6_takeNumber_8, rfl⟩, rfl⟩, ⟨⟨dX6_takeNumber_9, rfl⟩, Or.inl ⟨by decide, _, _, fX6_81⟩⟩, ⟨⟨dX6_takeNumber_12, rfl⟩, rfl⟩, ⟨⟨dX6_takeNumber_13, rfl⟩, rfl⟩, ⟨⟨dX6_takeNumber_16, rfl⟩, rfl⟩, ⟨⟨dX6_takeNumber_17, rfl⟩, Or.inr (Or.inl ⟨rfl, rfl⟩)⟩, ⟨⟨dX6_takeNumber_18, rfl⟩, rfl⟩, ⟨⟨dX6_takeNumber_19, rfl⟩, rfl⟩, ⟨⟨dX6_takeNumber_20, rfl⟩, rfl⟩, ⟨⟨dX6_takeNumber_21, rfl⟩, Or.inl ⟨by decide, _, _, fX6_81⟩⟩, ⟨⟨dX6_takeNumber_24, rfl⟩, Or.inr ⟨by decide, ⟨_, my_66, sX6_73⟩, fun q => absurd q (by decide)⟩⟩, ⟨⟨dX6_takeNumber_27, rfl⟩, rfl⟩, ⟨⟨dX6_takeNumber_28, rfl⟩, Or.inr ⟨by decide, ⟨_, my_65, sX6_40⟩, fun q => absurd q (by decide)⟩⟩, ⟨⟨dX6_takeNumber_31, rfl⟩, rfl⟩, ⟨⟨dX6_takeNumber_32, rfl⟩, Or.inr (Or.inl ⟨rfl, rfl⟩)⟩, trivial⟩, trivial⟩, by decide, Or.inl ⟨rfl, by decide, rfl⟩⟩
set_option maxRecDepth 100000 in
theorem g_X6_takeNumber_0 (S : sT) (call : cT) (n : Nat) (a0 : Nat) (x1 : Int32) (h : pH) : bd S call dflT E_X6_takeNumber (n + 1) 0 [some (.ref a0), some (.int x1)] [] h = (gI h (.ref a0) 9 6 (fun y1 => (if y1 = 2 then gI h (.ref a0) 9 7 (fun y2 => (if y2 ≤ x1 then gI h (.ref a0) 9 7 (fun y3 => rC h (.ref a0) 9 (cU (call 66 [.ref a0, .int 1, .int y3] h) (fun h4 => rC h4 (.ref a0) 9 (cU (call 65 [.ref a0] h4) (fun h5 => zR 1 (some (.inl (some (.int 1)), h5))))))) else zR 0 (some (.inl (some (.int 0)), h)))) else zR 0 (some (.inl (some (.int 0)), h))))) := rfl
theorem dX6_isWord_0 : decode cX6_isWord 0 = .ok (.aload_n 0, 1) := by decide +kernel
theorem dX6_isWord_1 : decode cX6_isWord 1 = .ok (.getfield 60, 3) := by decide +kernel
theorem dX6_isWord_4 : decode cX6_isWord 4 = .ok (.iconst 1, 1) := by decide +kernel
theorem dX6_isWord_5 : decode cX6_isWord 5 = .ok (.if_icmp .ne 15, 3) := by decide +kernel
theorem dX6_isWord_8 : decode cX6_isWord 8 = .ok (.aload_n 0, 1) := by decide +kernel
theorem dX6_isWord_9 : decode cX6_isWord 9 = .ok (.getfield 81, 3) := by decide +kernel
theorem dX6_isWord_12 : decode cX6_isWord 12 = .ok (.iload_n 1, 1) := by decide +kernel
theorem dX6_isWord_13 : decode cX6_isWord 13 = .ok (.if_icmp .ne 7, 3) := by decide +kernel
theorem dX6_isWord_16 : decode cX6_isWord 16 = .ok (.iconst 1, 1) := by decide +kernel
theorem dX6_isWord_17 : decode cX6_isWord 17 = .ok (.goto 4, 3) := by decide +kernel
theorem dX6_isWord_20 : decode cX6_isWord 20 = .ok (.iconst 0, 1) := by decide +kernel
theorem dX6_isWord_21 : decode cX6_isWord 21 = .ok (.ireturn, 1) := by decide +kernel
noncomputable def E_X6_isWord : mE := (mX6_isWord, [(21, [(0, (.aload_n 0, 1, false, false, 0, 0, 0, 0, 0, 0, [])), (1, (.getfield 60, 4, false, false, 9, 6, 0, 0, 0, 0, [])), (4, (.iconst 1, 5, false, false, 0, 0, 0, 0, 1, 0, [])), (5, (.if_icmp .ne 15, 8, false, false, 20, 0, 0, 0, 0, 0, [])), (8, (.aload_n 0, 9, false, false, 0, 0, 0, 0, 0, 0, [])), (9, (.getfield 81, 12, false, false, 9, 7, 0, 0, 0, 0, [])), (12, (.iload_n 1, 13, false, false, 1, 0, 0, 0, 0, 0, [])), (13, (.if_icmp .ne 7, 16, false, false, 20, 0, 0, 0, 0, 0, [])), (16, (.iconst 1, 17, false, false, 0, 0, 0, 0, 1, 0, [])), (17, (.goto 4, 20, false, false, 21, 0, 0, 0, 0, 0, [])), (20, (.iconst 0, 21, false, false, 0, 0, 0, 0, 0, 0, [])), (21, (.ireturn, 22, false, false, 0, 0, 1, 0, 0, 0, []))])], 0, [])
set_option maxRecDepth 100000 in
theorem v_X6_isWord : VE MYT dflT E_X6_isWord := ⟨⟨⟨⟨⟨dX6_isWord_0, rfl⟩, rfl⟩, ⟨⟨dX6_isWord_1, rfl⟩, Or.inl ⟨by decide, _, _, fX6_60⟩⟩, ⟨⟨dX6_isWord_4, rfl⟩, rfl⟩, ⟨⟨dX6_isWord_5, rfl⟩, rfl⟩, ⟨⟨dX6_isWord_8, rfl⟩, rfl⟩, ⟨⟨dX6_isWord_9, rfl⟩, Or.inl ⟨by decide, _, _, fX6_81⟩⟩, ⟨⟨dX6_isWord_12, rfl⟩, rfl⟩, ⟨⟨dX6_isWord_13, rfl⟩, rfl⟩, ⟨⟨dX6_isWord_16, rfl⟩, rfl⟩, ⟨⟨dX6_isWord_17, rfl⟩, rfl⟩, ⟨⟨dX6_isWord_20, rfl⟩, rfl⟩, ⟨⟨dX6_isWord_21, rfl⟩, Or.inr (Or.inl ⟨rfl, rfl⟩)⟩, trivial⟩, trivial⟩, by decide, Or.inl ⟨rfl, by decide, rfl⟩⟩
set_option maxRecDepth 100000 in
theorem g_X6_isWord_0 (S : sT) (call : cT) (n : Nat) (a0 : Nat) (x1 : Int32) (h : pH) : bd S call dflT E_X6_isWord (n + 1) 0 [some (.ref a0), some (.int x1)] [] h = (gI h (.ref a0) 9 6 (fun y1 => (if y1 = 1 then gI h (.ref a0) 9 7 (fun y2 => (if y2 = x1 then zR 1 (some (.inl (some (.int 1)), h)) else zR 0 (some (.inl (some (.int 0)), h)))) else zR 0 (some (.inl (some (.int 0)), h))))) := rfl
theorem dX6_takeWord_0 : decode cX6_takeWord 0 = .ok (.aload_n 0, 1) := by decide +kernel
theorem dX6_takeWord_1 : decode cX6_takeWord 1 = .ok (.iload_n 1, 1) := by decide +kernel
theorem dX6_takeWord_2 : decode cX6_takeWord 2 = .ok (.invokevirtual 101, 3) := by decide +kernel
theorem dX6_takeWord_5 : decode cX6_takeWord 5 = .ok (.ifCond .ne 5, 3) := by decide +kernel
theorem dX6_takeWord_8 : decode cX6_takeWord 8 = .ok (.iconst 0, 1) := by decide +kernel
theorem dX6_takeWord_9 : decode cX6_takeWord 9 = .ok (.ireturn, 1) := by decide +kernel
theorem dX6_takeWord_10 : decode cX6_takeWord 10 = .ok (.aload_n 0, 1) := by decide +kernel
theorem dX6_takeWord_11 : decode cX6_takeWord 11 = .ok (.invokevirtual 40, 3) := by decide +kernel
theorem dX6_takeWord_14 : decode cX6_takeWord 14 = .ok (.iconst 1, 1) := by decide +kernel
theorem dX6_takeWord_15 : decode cX6_takeWord 15 = .ok (.ireturn, 1) := by decide +kernel
noncomputable def E_X6_takeWord : mE := (mX6_takeWord, [(15, [(0, (.aload_n 0, 1, false, false, 0, 0, 0, 0, 0, 0, [])), (1, (.iload_n 1, 2, false, false, 1, 0, 0, 0, 0, 0, [])), (2, (.invokevirtual 101, 5, false, false, 69, 1, 1, 9, 0, 0, [])), (5, (.ifCond .ne 5, 8, false, false, 10, 0, 0, 0, 0, 0, [])), (8, (.iconst 0, 9, false, false, 0, 0, 0, 0, 0, 0, [])), (9, (.ireturn, 10, false, false, 0, 0, 1, 0, 0, 0, [])), (10, (.aload_n 0, 11, false, false, 0, 0, 0, 0, 0, 0, [])), (11, (.invokevirtual 40, 14, false, false, 65, 0, 0, 9, 0, 0, [])), (14, (.iconst 1, 15, false, false, 0, 0, 0, 0, 1, 0, [])), (15, (.ireturn, 16, false, false, 0, 0, 1, 0, 0, 0, []))])], 0, [])
set_option maxRecDepth 100000 in
theorem v_X6_takeWord : VE MYT dflT E_X6_takeWord := ⟨⟨⟨⟨⟨dX6_takeWord_0, rfl⟩, rfl⟩, ⟨⟨dX6_takeWord_1, rfl⟩, rfl⟩, ⟨⟨dX6_takeWord_2, rfl⟩, Or.inr ⟨by decide, ⟨_, my_69, sX6_101⟩, fun q => absurd q (by decide)⟩⟩, ⟨⟨dX6_takeWord_5, rfl⟩, rfl⟩, ⟨⟨dX6_takeWord_8, rfl⟩, rfl⟩, ⟨⟨dX6_takeWord_9, rfl⟩, Or.inr (Or.inl ⟨rfl, rfl⟩)⟩, ⟨⟨dX6_takeWord_10, rfl⟩, rfl⟩, ⟨⟨dX6_takeWord_11, rfl⟩, Or.inr ⟨by decide, ⟨_, my_65, sX6_40⟩, fun q => absurd q (by decide)⟩⟩, ⟨⟨dX6_takeWord_14, rfl⟩, rfl⟩, ⟨⟨dX6_takeWord_15, rfl⟩, Or.inr (Or.inl ⟨rfl, rfl⟩)⟩, trivial⟩, trivial⟩, by decide, Or.inl ⟨rfl, by decide, rfl⟩⟩
set_option maxRecDepth 100000 in
theorem g_X6_takeWord_0 (S : sT) (call : cT) (n : Nat) (a0 : Nat) (x1 : Int32) (h : pH) : bd S call dflT E_X6_takeWord (n + 1) 0 [some (.ref a0), some (.int x1)] [] h = (rC h (.ref a0) 9 (cI (call 69 [.ref a0, .int x1] h) (fun y2 h1 => (if y2 = 0 then zR 0 (some (.inl (some (.int 0)), h1)) else rC h1 (.ref a0) 9 (cU (call 65 [.ref a0] h1) (fun h3 => zR 1 (some (.inl (some (.int 1)), h3)))))))) := rfl
theorem dX6_takeCrop_0 : decode cX6_takeCrop 0 = .ok (.aload_n 0, 1) := by decide +kernel
theorem dX6_takeCrop_1 : decode cX6_takeCrop 1 = .ok (.bipush 11, 2) := by decide +kernel
theorem dX6_takeCrop_3 : decode cX6_takeCrop 3 = .ok (.invokevirtual 101, 3) := by decide +kernel
theorem dX6_takeCrop_6 : decode cX6_takeCrop 6 = .ok (.istore_n 2, 1) := by decide +kernel
theorem dX6_takeCrop_7 : decode cX6_takeCrop 7 = .ok (.iload_n 2, 1) := by decide +kernel
theorem dX6_takeCrop_8 : decode cX6_takeCrop 8 = .ok (.ifCond .ne 29, 3) := by decide +kernel
theorem dX6_takeCrop_11 : decode cX6_takeCrop 11 = .ok (.aload_n 0, 1) := by decide +kernel
theorem dX6_takeCrop_12 : decode cX6_takeCrop 12 = .ok (.getfield 60, 3) := by decide +kernel
theorem dX6_takeCrop_15 : decode cX6_takeCrop 15 = .ok (.iconst 1, 1) := by decide +kernel
theorem dX6_takeCrop_16 : decode cX6_takeCrop 16 = .ok (.if_icmp .ne 19, 3) := by decide +kernel
theorem dX6_takeCrop_19 : decode cX6_takeCrop 19 = .ok (.aload_n 0, 1) := by decide +kernel
theorem dX6_takeCrop_20 : decode cX6_takeCrop 20 = .ok (.getfield 81, 3) := by decide +kernel
theorem dX6_takeCrop_23 : decode cX6_takeCrop 23 = .ok (.iconst 1, 1) := by decide +kernel
theorem dX6_takeCrop_24 : decode cX6_takeCrop 24 = .ok (.if_icmp .lt 11, 3) := by decide +kernel
theorem dX6_takeCrop_27 : decode cX6_takeCrop 27 = .ok (.aload_n 0, 1) := by decide +kernel
theorem dX6_takeCrop_28 : decode cX6_takeCrop 28 = .ok (.getfield 81, 3) := by decide +kernel
theorem dX6_takeCrop_31 : decode cX6_takeCrop 31 = .ok (.iconst 4, 1) := by decide +kernel
theorem dX6_takeCrop_32 : decode cX6_takeCrop 32 = .ok (.if_icmp .le 5, 3) := by decide +kernel
theorem dX6_takeCrop_35 : decode cX6_takeCrop 35 = .ok (.iconst 0, 1) := by decide +kernel
theorem dX6_takeCrop_36 : decode cX6_takeCrop 36 = .ok (.ireturn, 1) := by decide +kernel
theorem dX6_takeCrop_37 : decode cX6_takeCrop 37 = .ok (.aload_n 0, 1) := by decide +kernel
theorem dX6_takeCrop_38 : decode cX6_takeCrop 38 = .ok (.iload_n 1, 1) := by decide +kernel
theorem dX6_takeCrop_39 : decode cX6_takeCrop 39 = .ok (.iload_n 2, 1) := by decide +kernel
theorem dX6_takeCrop_40 : decode cX6_takeCrop 40 = .ok (.ifCond .eq 7, 3) := by decide +kernel
theorem dX6_takeCrop_43 : decode cX6_takeCrop 43 = .ok (.iconst 5, 1) := by decide +kernel
theorem dX6_takeCrop_44 : decode cX6_takeCrop 44 = .ok (.goto 7, 3) := by decide +kernel
theorem dX6_takeCrop_47 : decode cX6_takeCrop 47 = .ok (.aload_n 0, 1) := by decide +kernel
theorem dX6_takeCrop_48 : decode cX6_takeCrop 48 = .ok (.getfield 81, 3) := by decide +kernel
theorem dX6_takeCrop_51 : decode cX6_takeCrop 51 = .ok (.invokevirtual 73, 3) := by decide +kernel
theorem dX6_takeCrop_54 : decode cX6_takeCrop 54 = .ok (.aload_n 0, 1) := by decide +kernel
theorem dX6_takeCrop_55 : decode cX6_takeCrop 55 = .ok (.invokevirtual 40, 3) := by decide +kernel
theorem dX6_takeCrop_58 : decode cX6_takeCrop 58 = .ok (.iconst 1, 1) := by decide +kernel
theorem dX6_takeCrop_59 : decode cX6_takeCrop 59 = .ok (.ireturn, 1) := by decide +kernel
noncomputable def E_X6_takeCrop : mE := (mX6_takeCrop, [(40, [(0, (.aload_n 0, 1, false, false, 0, 0, 0, 0, 0, 0, [])), (1, (.bipush 11, 3, false, false, 0, 0, 0, 0, 11, 0, [])), (3, (.invokevirtual 101, 6, false, false, 69, 1, 1, 9, 0, 0, [])), (6, (.istore_n 2, 7, false, false, 2, 0, 0, 0, 0, 0, [])), (7, (.iload_n 2, 8, false, false, 2, 0, 0, 0, 0, 0, [])), (8, (.ifCond .ne 29, 11, false, true, 37, 0, 0, 0, 0, 0, [])), (11, (.aload_n 0, 12, false, false, 0, 0, 0, 0, 0, 0, [])), (12, (.getfield 60, 15, false, false, 9, 6, 0, 0, 0, 0, [])), (15, (.iconst 1, 16, false, false, 0, 0, 0, 0, 1, 0, [])), (16, (.if_icmp .ne 19, 19, false, false, 35, 0, 0, 0, 0, 0, [])), (19, (.aload_n 0, 20, false, false, 0, 0, 0, 0, 0, 0, [])), (20, (.getfield 81, 23, false, false, 9, 7, 0, 0, 0, 0, [])), (23, (.iconst 1, 24, false, false, 0, 0, 0, 0, 1, 0, [])), (24, (.if_icmp .lt 11, 27, false, false, 35, 0, 0, 0, 0, 0, [])), (27, (.aload_n 0, 28, false, false, 0, 0, 0, 0, 0, 0, [])), (28, (.getfield 81, 31, false, false, 9, 7, 0, 0, 0, 0, [])), (31, (.iconst 4, 32, false, false, 0, 0, 0, 0, 4, 0, [])), (32, (.if_icmp .le 5, 35, false, true, 37, 0, 0, 0, 0, 0, [])), (35, (.iconst 0, 36, false, false, 0, 0, 0, 0, 0, 0, [])), (36, (.ireturn, 37, false, false, 0, 0, 1, 0, 0, 0, [])), (37, (.aload_n 0, 38, false, false, 0, 0, 0, 0, 0, 0, [])), (38, (.iload_n 1, 39, false, false, 1, 0, 0, 0, 0, 0, [])), (39, (.iload_n 2, 40, false, false, 2, 0, 0, 0, 0, 0, [])), (40, (.ifCond .eq 7, 43, false, false, 47, 0, 0, 0, 0, 0, []))]),
  (59, [(43, (.iconst 5, 44, false, false, 0, 0, 0, 0, 5, 0, [])), (44, (.goto 7, 47, false, false, 51, 0, 0, 0, 0, 0, [])), (47, (.aload_n 0, 48, false, false, 0, 0, 0, 0, 0, 0, [])), (48, (.getfield 81, 51, false, false, 9, 7, 0, 0, 0, 0, [])), (51, (.invokevirtual 73, 54, false, false, 66, 2, 0, 9, 0, 0, [])), (54, (.aload_n 0, 55, false, false, 0, 0, 0, 0, 0, 0, [])), (55, (.invokevirtual 40, 58, false, false, 65, 0, 0, 9, 0, 0, [])), (58, (.iconst 1, 59, false, false, 0, 0, 0, 0, 1, 0, [])), (59, (.ireturn, 60, false, false, 0, 0, 1, 0, 0, 0, []))])], 0, [])
set_option maxRecDepth 100000 in
theorem v_X6_takeCrop : VE MYT dflT E_X6_takeCrop := ⟨⟨⟨⟨⟨dX6_takeCrop_0, rfl⟩, rfl⟩, ⟨⟨dX6_takeCrop_1, rfl⟩, rfl⟩, ⟨⟨dX6_takeCrop_3, rfl⟩, Or.inr ⟨by decide, ⟨_, my_69, sX6_101⟩, fun q => absurd q (by decide)⟩⟩, ⟨⟨dX6_takeCrop_6, rfl⟩, rfl⟩, ⟨⟨dX6_takeCrop_7, rfl⟩, rfl⟩, ⟨⟨dX6_takeCrop_8, rfl⟩, rfl⟩, ⟨⟨dX6_takeCrop_11, rfl⟩, rfl⟩, ⟨⟨dX6_takeCrop_12, rfl⟩, Or.inl ⟨by decide, _, _, fX6_60⟩⟩, ⟨⟨dX6_takeCrop_15, rfl⟩, rfl⟩, ⟨⟨dX6_takeCrop_16, rfl⟩, rfl⟩, ⟨⟨dX6_takeCrop_19, rfl⟩, rfl⟩, ⟨⟨dX6_takeCrop_20, rfl⟩, Or.inl ⟨by decide, _, _, fX6_81⟩⟩, ⟨⟨dX6_takeCrop_23, rfl⟩, rfl⟩, ⟨⟨dX6_takeCrop_24, rfl⟩, rfl⟩, ⟨⟨dX6_takeCrop_27, rfl⟩, rfl⟩, ⟨⟨dX6_takeCrop_28, rfl⟩, Or.inl ⟨by decide, _, _, fX6_81⟩⟩, ⟨⟨dX6_takeCrop_31, rfl⟩, rfl⟩, ⟨⟨dX6_takeCrop_32, rfl⟩, rfl⟩, ⟨⟨dX6_takeCrop_35, rfl⟩, rfl⟩, ⟨⟨dX6_takeCrop_36, rfl⟩, Or.inr (Or.inl ⟨rfl, rfl⟩)⟩, ⟨⟨dX6_takeCrop_37, rfl⟩, rfl⟩, ⟨⟨dX6_takeCrop_38, rfl⟩, rfl⟩, ⟨⟨dX6_takeCrop_39, rfl⟩, rfl⟩, ⟨⟨dX6_takeCrop_40, rfl⟩, rfl⟩, trivial⟩,
  ⟨⟨⟨dX6_takeCrop_43, rfl⟩, rfl⟩, ⟨⟨dX6_takeCrop_44, rfl⟩, rfl⟩, ⟨⟨dX6_takeCrop_47, rfl⟩, rfl⟩, ⟨⟨dX6_takeCrop_48, rfl⟩, Or.inl ⟨by decide, _, _, fX6_81⟩⟩, ⟨⟨dX6_takeCrop_51, rfl⟩, Or.inr ⟨by decide, ⟨_, my_66, sX6_73⟩, fun q => absurd q (by decide)⟩⟩, ⟨⟨dX6_takeCrop_54, rfl⟩, rfl⟩, ⟨⟨dX6_takeCrop_55, rfl⟩, Or.inr ⟨by decide, ⟨_, my_65, sX6_40⟩, fun q => absurd q (by decide)⟩⟩, ⟨⟨dX6_takeCrop_58, rfl⟩, rfl⟩, ⟨⟨dX6_takeCrop_59, rfl⟩, Or.inr (Or.inl ⟨rfl, rfl⟩)⟩, trivial⟩, trivial⟩, by decide, Or.inl ⟨rfl, by decide, rfl⟩⟩
set_option maxRecDepth 100000 in
theorem g_X6_takeCrop_0 (S : sT) (call : cT) (n : Nat) (a0 : Nat) (x1 : Int32) (h : pH) : bd S call dflT E_X6_takeCrop (n + 1) 0 [some (.ref a0), some (.int x1), none] [] h = (rC h (.ref a0) 9 (cI (call 69 [.ref a0, .int 11] h) (fun y2 h1 => (if y2 = 0 then gI h1 (.ref a0) 9 6 (fun y3 => (if y3 = 1 then gI h1 (.ref a0) 9 7 (fun y4 => (if y4 < 1 then zR 0 (some (.inl (some (.int 0)), h1)) else gI h1 (.ref a0) 9 7 (fun y5 => (if y5 ≤ 4 then bd S call dflT E_X6_takeCrop n 37 [some (.ref a0), some (.int x1), some (.int y2)] [] h1 else zR 0 (some (.inl (some (.int 0)), h1)))))) else zR 0 (some (.inl (some (.int 0)), h1)))) else bd S call dflT E_X6_takeCrop n 37 [some (.ref a0), some (.int x1), some (.int y2)] [] h1)))) := rfl
set_option maxRecDepth 100000 in
theorem g_X6_takeCrop_37 (S : sT) (call : cT) (n : Nat) (a0 : Nat) (x1 : Int32) (x2 : Int32) (h : pH) : bd S call dflT E_X6_takeCrop (n + 1) 37 [some (.ref a0), some (.int x1), some (.int x2)] [] h = ((if x2 = 0 then gI h (.ref a0) 9 7 (fun y1 => rC h (.ref a0) 9 (cU (call 66 [.ref a0, .int x1, .int y1] h) (fun h2 => rC h2 (.ref a0) 9 (cU (call 65 [.ref a0] h2) (fun h3 => zR 1 (some (.inl (some (.int 1)), h3))))))) else rC h (.ref a0) 9 (cU (call 66 [.ref a0, .int x1, .int 5] h) (fun h4 => rC h4 (.ref a0) 9 (cU (call 65 [.ref a0] h4) (fun h5 => zR 1 (some (.inl (some (.int 1)), h5)))))))) := rfl
theorem dX6_takeOneOf_0 : decode cX6_takeOneOf 0 = .ok (.aload_n 0, 1) := by decide +kernel
theorem dX6_takeOneOf_1 : decode cX6_takeOneOf 1 = .ok (.getfield 60, 3) := by decide +kernel
theorem dX6_takeOneOf_4 : decode cX6_takeOneOf 4 = .ok (.iconst 1, 1) := by decide +kernel
theorem dX6_takeOneOf_5 : decode cX6_takeOneOf 5 = .ok (.if_icmp .ne 19, 3) := by decide +kernel
theorem dX6_takeOneOf_8 : decode cX6_takeOneOf 8 = .ok (.aload_n 0, 1) := by decide +kernel
theorem dX6_takeOneOf_9 : decode cX6_takeOneOf 9 = .ok (.getfield 81, 3) := by decide +kernel
theorem dX6_takeOneOf_12 : decode cX6_takeOneOf 12 = .ok (.iload_n 1, 1) := by decide +kernel
theorem dX6_takeOneOf_13 : decode cX6_takeOneOf 13 = .ok (.if_icmp .lt 11, 3) := by decide +kernel
theorem dX6_takeOneOf_16 : decode cX6_takeOneOf 16 = .ok (.aload_n 0, 1) := by decide +kernel
theorem dX6_takeOneOf_17 : decode cX6_takeOneOf 17 = .ok (.getfield 81, 3) := by decide +kernel
theorem dX6_takeOneOf_20 : decode cX6_takeOneOf 20 = .ok (.iload_n 2, 1) := by decide +kernel
theorem dX6_takeOneOf_21 : decode cX6_takeOneOf 21 = .ok (.if_icmp .le 5, 3) := by decide +kernel
theorem dX6_takeOneOf_24 : decode cX6_takeOneOf 24 = .ok (.iconst 0, 1) := by decide +kernel
theorem dX6_takeOneOf_25 : decode cX6_takeOneOf 25 = .ok (.ireturn, 1) := by decide +kernel
theorem dX6_takeOneOf_26 : decode cX6_takeOneOf 26 = .ok (.aload_n 0, 1) := by decide +kernel
theorem dX6_takeOneOf_27 : decode cX6_takeOneOf 27 = .ok (.iconst 2, 1) := by decide +kernel
theorem dX6_takeOneOf_28 : decode cX6_takeOneOf 28 = .ok (.aload_n 0, 1) := by decide +kernel
theorem dX6_takeOneOf_29 : decode cX6_takeOneOf 29 = .ok (.getfield 81, 3) := by decide +kernel
theorem dX6_takeOneOf_32 : decode cX6_takeOneOf 32 = .ok (.invokevirtual 73, 3) := by decide +kernel
theorem dX6_takeOneOf_35 : decode cX6_takeOneOf 35 = .ok (.aload_n 0, 1) := by decide +kernel
theorem dX6_takeOneOf_36 : decode cX6_takeOneOf 36 = .ok (.invokevirtual 40, 3) := by decide +kernel
theorem dX6_takeOneOf_39 : decode cX6_takeOneOf 39 = .ok (.iconst 1, 1) := by decide +kernel
theorem dX6_takeOneOf_40 : decode cX6_takeOneOf 40 = .ok (.ireturn, 1) := by decide +kernel
noncomputable def E_X6_takeOneOf : mE := (mX6_takeOneOf, [(40, [(0, (.aload_n 0, 1, false, false, 0, 0, 0, 0, 0, 0, [])), (1, (.getfield 60, 4, false, false, 9, 6, 0, 0, 0, 0, [])), (4, (.iconst 1, 5, false, false, 0, 0, 0, 0, 1, 0, [])), (5, (.if_icmp .ne 19, 8, false, false, 24, 0, 0, 0, 0, 0, [])), (8, (.aload_n 0, 9, false, false, 0, 0, 0, 0, 0, 0, [])), (9, (.getfield 81, 12, false, false, 9, 7, 0, 0, 0, 0, [])), (12, (.iload_n 1, 13, false, false, 1, 0, 0, 0, 0, 0, [])), (13, (.if_icmp .lt 11, 16, false, false, 24, 0, 0, 0, 0, 0, [])), (16, (.aload_n 0, 17, false, false, 0, 0, 0, 0, 0, 0, [])), (17, (.getfield 81, 20, false, false, 9, 7, 0, 0, 0, 0, [])), (20, (.iload_n 2, 21, false, false, 2, 0, 0, 0, 0, 0, [])), (21, (.if_icmp .le 5, 24, false, false, 26, 0, 0, 0, 0, 0, [])), (24, (.iconst 0, 25, false, false, 0, 0, 0, 0, 0, 0, [])), (25, (.ireturn, 26, false, false, 0, 0, 1, 0, 0, 0, [])), (26, (.aload_n 0, 27, false, false, 0, 0, 0, 0, 0, 0, [])), (27, (.iconst 2, 28, false, false, 0, 0, 0, 0, 2, 0, [])), (28, (.aload_n 0, 29, false, false, 0, 0, 0, 0, 0, 0, [])), (29, (.getfield 81, 32, false, false, 9, 7, 0, 0, 0, 0, [])), (32, (.invokevirtual 73, 35, false, false, 66, 2, 0, 9, 0, 0, [])), (35, (.aload_n 0, 36, false, false, 0, 0, 0, 0, 0, 0, [])), (36, (.invokevirtual 40, 39, false, false, 65, 0, 0, 9, 0, 0, [])), (39, (.iconst 1, 40, false, false, 0, 0, 0, 0, 1, 0, [])), (40, (.ireturn, 41, false, false, 0, 0, 1, 0, 0, 0, []))])], 0, [])
set_option maxRecDepth 100000 in
theorem v_X6_takeOneOf : VE MYT dflT E_X6_takeOneOf := ⟨⟨⟨⟨⟨dX6_takeOneOf_0, rfl⟩, rfl⟩, ⟨⟨dX6_takeOneOf_1, rfl⟩, Or.inl ⟨by decide, _, _, fX6_60⟩⟩, ⟨⟨dX6_takeOneOf_4, rfl⟩, rfl⟩, ⟨⟨dX6_takeOneOf_5, rfl⟩, rfl⟩, ⟨⟨dX6_takeOneOf_8, rfl⟩, rfl⟩, ⟨⟨dX6_takeOneOf_9, rfl⟩, Or.inl ⟨by decide, _, _, fX6_81⟩⟩, ⟨⟨dX6_takeOneOf_12, rfl⟩, rfl⟩, ⟨⟨dX6_takeOneOf_13, rfl⟩, rfl⟩, ⟨⟨dX6_takeOneOf_16, rfl⟩, rfl⟩, ⟨⟨dX6_takeOneOf_17, rfl⟩, Or.inl ⟨by decide, _, _, fX6_81⟩⟩, ⟨⟨dX6_takeOneOf_20, rfl⟩, rfl⟩, ⟨⟨dX6_takeOneOf_21, rfl⟩, rfl⟩, ⟨⟨dX6_takeOneOf_24, rfl⟩, rfl⟩, ⟨⟨dX6_takeOneOf_25, rfl⟩, Or.inr (Or.inl ⟨rfl, rfl⟩)⟩, ⟨⟨dX6_takeOneOf_26, rfl⟩, rfl⟩, ⟨⟨dX6_takeOneOf_27, rfl⟩, rfl⟩, ⟨⟨dX6_takeOneOf_28, rfl⟩, rfl⟩, ⟨⟨dX6_takeOneOf_29, rfl⟩, Or.inl ⟨by decide, _, _, fX6_81⟩⟩, ⟨⟨dX6_takeOneOf_32, rfl⟩, Or.inr ⟨by decide, ⟨_, my_66, sX6_73⟩, fun q => absurd q (by decide)⟩⟩, ⟨⟨dX6_takeOneOf_35, rfl⟩, rfl⟩, ⟨⟨dX6_takeOneOf_36, rfl⟩, Or.inr ⟨by decide, ⟨_, my_65, sX6_40⟩, fun q => absurd q (by decide)⟩⟩, ⟨⟨dX6_takeOneOf_39, rfl⟩, rfl⟩, ⟨⟨dX6_takeOneOf_40, rfl⟩, Or.inr (Or.inl ⟨rfl, rfl⟩)⟩, trivial⟩, trivial⟩, by decide, Or.inl ⟨rfl, by decide, rfl⟩⟩
set_option maxRecDepth 100000 in
theorem g_X6_takeOneOf_0 (S : sT) (call : cT) (n : Nat) (a0 : Nat) (x1 : Int32) (x2 : Int32) (h : pH) : bd S call dflT E_X6_takeOneOf (n + 1) 0 [some (.ref a0), some (.int x1), some (.int x2)] [] h = (gI h (.ref a0) 9 6 (fun y1 => (if y1 = 1 then gI h (.ref a0) 9 7 (fun y2 => (if y2 < x1 then zR 0 (some (.inl (some (.int 0)), h)) else gI h (.ref a0) 9 7 (fun y3 => (if y3 ≤ x2 then gI h (.ref a0) 9 7 (fun y4 => rC h (.ref a0) 9 (cU (call 66 [.ref a0, .int 2, .int y4] h) (fun h5 => rC h5 (.ref a0) 9 (cU (call 65 [.ref a0] h5) (fun h6 => zR 1 (some (.inl (some (.int 1)), h6))))))) else zR 0 (some (.inl (some (.int 0)), h)))))) else zR 0 (some (.inl (some (.int 0)), h))))) := rfl
theorem dX6_isSign_0 : decode cX6_isSign 0 = .ok (.aload_n 0, 1) := by decide +kernel
theorem dX6_isSign_1 : decode cX6_isSign 1 = .ok (.getfield 60, 3) := by decide +kernel
theorem dX6_isSign_4 : decode cX6_isSign 4 = .ok (.iconst 3, 1) := by decide +kernel
theorem dX6_isSign_5 : decode cX6_isSign 5 = .ok (.if_icmp .ne 15, 3) := by decide +kernel
theorem dX6_isSign_8 : decode cX6_isSign 8 = .ok (.aload_n 0, 1) := by decide +kernel
theorem dX6_isSign_9 : decode cX6_isSign 9 = .ok (.getfield 81, 3) := by decide +kernel
theorem dX6_isSign_12 : decode cX6_isSign 12 = .ok (.iload_n 1, 1) := by decide +kernel
theorem dX6_isSign_13 : decode cX6_isSign 13 = .ok (.if_icmp .ne 7, 3) := by decide +kernel
theorem dX6_isSign_16 : decode cX6_isSign 16 = .ok (.iconst 1, 1) := by decide +kernel
theorem dX6_isSign_17 : decode cX6_isSign 17 = .ok (.goto 4, 3) := by decide +kernel
theorem dX6_isSign_20 : decode cX6_isSign 20 = .ok (.iconst 0, 1) := by decide +kernel
theorem dX6_isSign_21 : decode cX6_isSign 21 = .ok (.ireturn, 1) := by decide +kernel
noncomputable def E_X6_isSign : mE := (mX6_isSign, [(21, [(0, (.aload_n 0, 1, false, false, 0, 0, 0, 0, 0, 0, [])), (1, (.getfield 60, 4, false, false, 9, 6, 0, 0, 0, 0, [])), (4, (.iconst 3, 5, false, false, 0, 0, 0, 0, 3, 0, [])), (5, (.if_icmp .ne 15, 8, false, false, 20, 0, 0, 0, 0, 0, [])), (8, (.aload_n 0, 9, false, false, 0, 0, 0, 0, 0, 0, [])), (9, (.getfield 81, 12, false, false, 9, 7, 0, 0, 0, 0, [])), (12, (.iload_n 1, 13, false, false, 1, 0, 0, 0, 0, 0, [])), (13, (.if_icmp .ne 7, 16, false, false, 20, 0, 0, 0, 0, 0, [])), (16, (.iconst 1, 17, false, false, 0, 0, 0, 0, 1, 0, [])), (17, (.goto 4, 20, false, false, 21, 0, 0, 0, 0, 0, [])), (20, (.iconst 0, 21, false, false, 0, 0, 0, 0, 0, 0, [])), (21, (.ireturn, 22, false, false, 0, 0, 1, 0, 0, 0, []))])], 0, [])
set_option maxRecDepth 100000 in
theorem v_X6_isSign : VE MYT dflT E_X6_isSign := ⟨⟨⟨⟨⟨dX6_isSign_0, rfl⟩, rfl⟩, ⟨⟨dX6_isSign_1, rfl⟩, Or.inl ⟨by decide, _, _, fX6_60⟩⟩, ⟨⟨dX6_isSign_4, rfl⟩, rfl⟩, ⟨⟨dX6_isSign_5, rfl⟩, rfl⟩, ⟨⟨dX6_isSign_8, rfl⟩, rfl⟩, ⟨⟨dX6_isSign_9, rfl⟩, Or.inl ⟨by decide, _, _, fX6_81⟩⟩, ⟨⟨dX6_isSign_12, rfl⟩, rfl⟩, ⟨⟨dX6_isSign_13, rfl⟩, rfl⟩, ⟨⟨dX6_isSign_16, rfl⟩, rfl⟩, ⟨⟨dX6_isSign_17, rfl⟩, rfl⟩, ⟨⟨dX6_isSign_20, rfl⟩, rfl⟩, ⟨⟨dX6_isSign_21, rfl⟩, Or.inr (Or.inl ⟨rfl, rfl⟩)⟩, trivial⟩, trivial⟩, by decide, Or.inl ⟨rfl, by decide, rfl⟩⟩
set_option maxRecDepth 100000 in
theorem g_X6_isSign_0 (S : sT) (call : cT) (n : Nat) (a0 : Nat) (x1 : Int32) (h : pH) : bd S call dflT E_X6_isSign (n + 1) 0 [some (.ref a0), some (.int x1)] [] h = (gI h (.ref a0) 9 6 (fun y1 => (if y1 = 3 then gI h (.ref a0) 9 7 (fun y2 => (if y2 = x1 then zR 1 (some (.inl (some (.int 1)), h)) else zR 0 (some (.inl (some (.int 0)), h)))) else zR 0 (some (.inl (some (.int 0)), h))))) := rfl
theorem dX6_takeSign_0 : decode cX6_takeSign 0 = .ok (.aload_n 0, 1) := by decide +kernel
theorem dX6_takeSign_1 : decode cX6_takeSign 1 = .ok (.iload_n 1, 1) := by decide +kernel
theorem dX6_takeSign_2 : decode cX6_takeSign 2 = .ok (.invokevirtual 107, 3) := by decide +kernel
theorem dX6_takeSign_5 : decode cX6_takeSign 5 = .ok (.ifCond .ne 5, 3) := by decide +kernel
theorem dX6_takeSign_8 : decode cX6_takeSign 8 = .ok (.iconst 0, 1) := by decide +kernel
theorem dX6_takeSign_9 : decode cX6_takeSign 9 = .ok (.ireturn, 1) := by decide +kernel
theorem dX6_takeSign_10 : decode cX6_takeSign 10 = .ok (.aload_n 0, 1) := by decide +kernel
theorem dX6_takeSign_11 : decode cX6_takeSign 11 = .ok (.invokevirtual 40, 3) := by decide +kernel
theorem dX6_takeSign_14 : decode cX6_takeSign 14 = .ok (.iconst 1, 1) := by decide +kernel
theorem dX6_takeSign_15 : decode cX6_takeSign 15 = .ok (.ireturn, 1) := by decide +kernel
noncomputable def E_X6_takeSign : mE := (mX6_takeSign, [(15, [(0, (.aload_n 0, 1, false, false, 0, 0, 0, 0, 0, 0, [])), (1, (.iload_n 1, 2, false, false, 1, 0, 0, 0, 0, 0, [])), (2, (.invokevirtual 107, 5, false, false, 73, 1, 1, 9, 0, 0, [])), (5, (.ifCond .ne 5, 8, false, false, 10, 0, 0, 0, 0, 0, [])), (8, (.iconst 0, 9, false, false, 0, 0, 0, 0, 0, 0, [])), (9, (.ireturn, 10, false, false, 0, 0, 1, 0, 0, 0, [])), (10, (.aload_n 0, 11, false, false, 0, 0, 0, 0, 0, 0, [])), (11, (.invokevirtual 40, 14, false, false, 65, 0, 0, 9, 0, 0, [])), (14, (.iconst 1, 15, false, false, 0, 0, 0, 0, 1, 0, [])), (15, (.ireturn, 16, false, false, 0, 0, 1, 0, 0, 0, []))])], 0, [])
set_option maxRecDepth 100000 in
theorem v_X6_takeSign : VE MYT dflT E_X6_takeSign := ⟨⟨⟨⟨⟨dX6_takeSign_0, rfl⟩, rfl⟩, ⟨⟨dX6_takeSign_1, rfl⟩, rfl⟩, ⟨⟨dX6_takeSign_2, rfl⟩, Or.inr ⟨by decide, ⟨_, my_73, sX6_107⟩, fun q => absurd q (by decide)⟩⟩, ⟨⟨dX6_takeSign_5, rfl⟩, rfl⟩, ⟨⟨dX6_takeSign_8, rfl⟩, rfl⟩, ⟨⟨dX6_takeSign_9, rfl⟩, Or.inr (Or.inl ⟨rfl, rfl⟩)⟩, ⟨⟨dX6_takeSign_10, rfl⟩, rfl⟩, ⟨⟨dX6_takeSign_11, rfl⟩, Or.inr ⟨by decide, ⟨_, my_65, sX6_40⟩, fun q => absurd q (by decide)⟩⟩, ⟨⟨dX6_takeSign_14, rfl⟩, rfl⟩, ⟨⟨dX6_takeSign_15, rfl⟩, Or.inr (Or.inl ⟨rfl, rfl⟩)⟩, trivial⟩, trivial⟩, by decide, Or.inl ⟨rfl, by decide, rfl⟩⟩
set_option maxRecDepth 100000 in
theorem g_X6_takeSign_0 (S : sT) (call : cT) (n : Nat) (a0 : Nat) (x1 : Int32) (h : pH) : bd S call dflT E_X6_takeSign (n + 1) 0 [some (.ref a0), some (.int x1)] [] h = (rC h (.ref a0) 9 (cI (call 73 [.ref a0, .int x1] h) (fun y2 h1 => (if y2 = 0 then zR 0 (some (.inl (some (.int 0)), h1)) else rC h1 (.ref a0) 9 (cU (call 65 [.ref a0] h1) (fun h3 => zR 1 (some (.inl (some (.int 1)), h3)))))))) := rfl
theorem dX6_emit_0 : decode cX6_emit 0 = .ok (.aload_n 0, 1) := by decide +kernel
theorem dX6_emit_1 : decode cX6_emit 1 = .ok (.getfield 37, 3) := by decide +kernel
theorem dX6_emit_4 : decode cX6_emit 4 = .ok (.sipush 400, 3) := by decide +kernel
theorem dX6_emit_7 : decode cX6_emit 7 = .ok (.if_icmp .ge 26, 3) := by decide +kernel
theorem dX6_emit_10 : decode cX6_emit 10 = .ok (.aload_n 0, 1) := by decide +kernel
theorem dX6_emit_11 : decode cX6_emit 11 = .ok (.getfield 21, 3) := by decide +kernel
theorem dX6_emit_14 : decode cX6_emit 14 = .ok (.bipush 96, 2) := by decide +kernel
theorem dX6_emit_16 : decode cX6_emit 16 = .ok (.aload_n 0, 1) := by decide +kernel
theorem dX6_emit_17 : decode cX6_emit 17 = .ok (.getfield 37, 3) := by decide +kernel
theorem dX6_emit_20 : decode cX6_emit 20 = .ok (.iadd, 1) := by decide +kernel
theorem dX6_emit_21 : decode cX6_emit 21 = .ok (.iload_n 1, 1) := by decide +kernel
theorem dX6_emit_22 : decode cX6_emit 22 = .ok (.iastore, 1) := by decide +kernel
theorem dX6_emit_23 : decode cX6_emit 23 = .ok (.aload_n 0, 1) := by decide +kernel
theorem dX6_emit_24 : decode cX6_emit 24 = .ok (.dup, 1) := by decide +kernel
theorem dX6_emit_25 : decode cX6_emit 25 = .ok (.getfield 37, 3) := by decide +kernel
theorem dX6_emit_28 : decode cX6_emit 28 = .ok (.iconst 1, 1) := by decide +kernel
theorem dX6_emit_29 : decode cX6_emit 29 = .ok (.iadd, 1) := by decide +kernel
theorem dX6_emit_30 : decode cX6_emit 30 = .ok (.putfield 37, 3) := by decide +kernel
theorem dX6_emit_33 : decode cX6_emit 33 = .ok (.return_, 1) := by decide +kernel
noncomputable def E_X6_emit : mE := (mX6_emit, [(33, [(0, (.aload_n 0, 1, false, false, 0, 0, 0, 0, 0, 0, [])), (1, (.getfield 37, 4, false, false, 9, 10, 0, 0, 0, 0, [])), (4, (.sipush 400, 7, false, false, 0, 0, 0, 0, 400, 0, [])), (7, (.if_icmp .ge 26, 10, false, false, 33, 0, 0, 0, 0, 0, [])), (10, (.aload_n 0, 11, false, false, 0, 0, 0, 0, 0, 0, [])), (11, (.getfield 21, 14, false, false, 9, 8, 1, 0, 0, 0, [])), (14, (.bipush 96, 16, false, false, 0, 0, 0, 0, 96, 0, [])), (16, (.aload_n 0, 17, false, false, 0, 0, 0, 0, 0, 0, [])), (17, (.getfield 37, 20, false, false, 9, 10, 0, 0, 0, 0, [])), (20, (.iadd, 21, false, false, 0, 0, 0, 0, 0, 0, [])), (21, (.iload_n 1, 22, false, false, 1, 0, 0, 0, 0, 0, [])), (22, (.iastore, 23, false, false, 0, 0, 0, 0, 0, 0, [])), (23, (.aload_n 0, 24, false, false, 0, 0, 0, 0, 0, 0, [])), (24, (.dup, 25, false, false, 0, 0, 0, 0, 0, 0, [])), (25, (.getfield 37, 28, false, false, 9, 10, 0, 0, 0, 0, [])), (28, (.iconst 1, 29, false, false, 0, 0, 0, 0, 1, 0, [])), (29, (.iadd, 30, false, false, 0, 0, 0, 0, 0, 0, [])), (30, (.putfield 37, 33, false, false, 9, 10, 0, 0, 0, 0, [])), (33, (.return_, 34, false, false, 0, 0, 0, 0, 0, 0, []))])], 0, [])
set_option maxRecDepth 100000 in
theorem v_X6_emit : VE MYT dflT E_X6_emit := ⟨⟨⟨⟨⟨dX6_emit_0, rfl⟩, rfl⟩, ⟨⟨dX6_emit_1, rfl⟩, Or.inl ⟨by decide, _, _, fX6_37⟩⟩, ⟨⟨dX6_emit_4, rfl⟩, rfl⟩, ⟨⟨dX6_emit_7, rfl⟩, rfl⟩, ⟨⟨dX6_emit_10, rfl⟩, rfl⟩, ⟨⟨dX6_emit_11, rfl⟩, Or.inl ⟨by decide, _, _, fX6_21⟩⟩, ⟨⟨dX6_emit_14, rfl⟩, rfl⟩, ⟨⟨dX6_emit_16, rfl⟩, rfl⟩, ⟨⟨dX6_emit_17, rfl⟩, Or.inl ⟨by decide, _, _, fX6_37⟩⟩, ⟨⟨dX6_emit_20, rfl⟩, trivial⟩, ⟨⟨dX6_emit_21, rfl⟩, rfl⟩, ⟨⟨dX6_emit_22, rfl⟩, trivial⟩, ⟨⟨dX6_emit_23, rfl⟩, rfl⟩, ⟨⟨dX6_emit_24, rfl⟩, trivial⟩, ⟨⟨dX6_emit_25, rfl⟩, Or.inl ⟨by decide, _, _, fX6_37⟩⟩, ⟨⟨dX6_emit_28, rfl⟩, rfl⟩, ⟨⟨dX6_emit_29, rfl⟩, trivial⟩, ⟨⟨dX6_emit_30, rfl⟩, Or.inl ⟨rfl, fX6_37⟩⟩, ⟨⟨dX6_emit_33, rfl⟩, rfl⟩, trivial⟩, trivial⟩, by decide, Or.inl ⟨rfl, by decide, rfl⟩⟩
set_option maxRecDepth 100000 in
theorem g_X6_emit_0 (S : sT) (call : cT) (n : Nat) (a0 : Nat) (x1 : Int32) (h : pH) : bd S call dflT E_X6_emit (n + 1) 0 [some (.ref a0), some (.int x1)] [] h = (gI h (.ref a0) 9 10 (fun y1 => (if 400 ≤ y1 then some (.inl none, h) else gV h (.ref a0) 9 8 (fun w2 => gI h (.ref a0) 9 10 (fun y3 => sI h w2 0 (96 + y3) x1 (fun h4 => gI h4 (.ref a0) 9 10 (fun y5 => pF h4 (.ref a0) 9 10 (.int (y5 + 1)) (fun h6 => some (.inl none, h6))))))))) := rfl
theorem dX6_takeSum_0 : decode cX6_takeSum 0 = .ok (.iconst 0, 1) := by decide +kernel
theorem dX6_takeSum_1 : decode cX6_takeSum 1 = .ok (.istore_n 1, 1) := by decide +kernel
theorem dX6_takeSum_2 : decode cX6_takeSum 2 = .ok (.iload_n 1, 1) := by decide +kernel
theorem dX6_takeSum_3 : decode cX6_takeSum 3 = .ok (.sipush 400, 3) := by decide +kernel
theorem dX6_takeSum_6 : decode cX6_takeSum 6 = .ok (.if_icmp .ge 122, 3) := by decide +kernel
theorem dX6_takeSum_9 : decode cX6_takeSum 9 = .ok (.aload_n 0, 1) := by decide +kernel
theorem dX6_takeSum_10 : decode cX6_takeSum 10 = .ok (.getfield 60, 3) := by decide +kernel
theorem dX6_takeSum_13 : decode cX6_takeSum 13 = .ok (.iconst 2, 1) := by decide +kernel
theorem dX6_takeSum_14 : decode cX6_takeSum 14 = .ok (.if_icmp .ne 16, 3) := by decide +kernel
theorem dX6_takeSum_17 : decode cX6_takeSum 17 = .ok (.aload_n 0, 1) := by decide +kernel
theorem dX6_takeSum_18 : decode cX6_takeSum 18 = .ok (.getfield 81, 3) := by decide +kernel
theorem dX6_takeSum_21 : decode cX6_takeSum 21 = .ok (.ldc 87, 2) := by decide +kernel
theorem dX6_takeSum_23 : decode cX6_takeSum 23 = .ok (.if_icmp .gt 7, 3) := by decide +kernel
theorem dX6_takeSum_26 : decode cX6_takeSum 26 = .ok (.iconst 1, 1) := by decide +kernel
theorem dX6_takeSum_27 : decode cX6_takeSum 27 = .ok (.goto 4, 3) := by decide +kernel
theorem dX6_takeSum_30 : decode cX6_takeSum 30 = .ok (.iconst 0, 1) := by decide +kernel
theorem dX6_takeSum_31 : decode cX6_takeSum 31 = .ok (.istore_n 2, 1) := by decide +kernel
theorem dX6_takeSum_32 : decode cX6_takeSum 32 = .ok (.aload_n 0, 1) := by decide +kernel
theorem dX6_takeSum_33 : decode cX6_takeSum 33 = .ok (.getfield 60, 3) := by decide +kernel
theorem dX6_takeSum_36 : decode cX6_takeSum 36 = .ok (.iconst 1, 1) := by decide +kernel
theorem dX6_takeSum_37 : decode cX6_takeSum 37 = .ok (.if_icmp .ne 23, 3) := by decide +kernel
theorem dX6_takeSum_40 : decode cX6_takeSum 40 = .ok (.aload_n 0, 1) := by decide +kernel
theorem dX6_takeSum_41 : decode cX6_takeSum 41 = .ok (.getfield 81, 3) := by decide +kernel
theorem dX6_takeSum_44 : decode cX6_takeSum 44 = .ok (.ifCond .lt 16, 3) := by decide +kernel
theorem dX6_takeSum_47 : decode cX6_takeSum 47 = .ok (.aload_n 0, 1) := by decide +kernel
theorem dX6_takeSum_48 : decode cX6_takeSum 48 = .ok (.getfield 81, 3) := by decide +kernel
theorem dX6_takeSum_51 : decode cX6_takeSum 51 = .ok (.bipush 10, 2) := by decide +kernel
theorem dX6_takeSum_53 : decode cX6_takeSum 53 = .ok (.if_icmp .gt 7, 3) := by decide +kernel
theorem dX6_takeSum_56 : decode cX6_takeSum 56 = .ok (.iconst 1, 1) := by decide +kernel
theorem dX6_takeSum_57 : decode cX6_takeSum 57 = .ok (.goto 4, 3) := by decide +kernel
theorem dX6_takeSum_60 : decode cX6_takeSum 60 = .ok (.iconst 0, 1) := by decide +kernel
theorem dX6_takeSum_61 : decode cX6_takeSum 61 = .ok (.istore_n 3, 1) := by decide +kernel
theorem dX6_takeSum_62 : decode cX6_takeSum 62 = .ok (.iload_n 2, 1) := by decide +kernel
theorem dX6_takeSum_63 : decode cX6_takeSum 63 = .ok (.ifCond .ne 9, 3) := by decide +kernel
theorem dX6_takeSum_66 : decode cX6_takeSum 66 = .ok (.iload_n 3, 1) := by decide +kernel
theorem dX6_takeSum_67 : decode cX6_takeSum 67 = .ok (.ifCond .ne 5, 3) := by decide +kernel
theorem dX6_takeSum_70 : decode cX6_takeSum 70 = .ok (.iconst 0, 1) := by decide +kernel
theorem dX6_takeSum_71 : decode cX6_takeSum 71 = .ok (.ireturn, 1) := by decide +kernel
theorem dX6_takeSum_72 : decode cX6_takeSum 72 = .ok (.aload_n 0, 1) := by decide +kernel
theorem dX6_takeSum_73 : decode cX6_takeSum 73 = .ok (.iload_n 2, 1) := by decide +kernel
theorem dX6_takeSum_74 : decode cX6_takeSum 74 = .ok (.ifCond .eq 10, 3) := by decide +kernel
theorem dX6_takeSum_77 : decode cX6_takeSum 77 = .ok (.aload_n 0, 1) := by decide +kernel
theorem dX6_takeSum_78 : decode cX6_takeSum 78 = .ok (.getfield 81, 3) := by decide +kernel
theorem dX6_takeSum_81 : decode cX6_takeSum 81 = .ok (.goto 9, 3) := by decide +kernel
theorem dX6_takeSum_84 : decode cX6_takeSum 84 = .ok (.iconst (-1), 1) := by decide +kernel
theorem dX6_takeSum_85 : decode cX6_takeSum 85 = .ok (.aload_n 0, 1) := by decide +kernel
theorem dX6_takeSum_86 : decode cX6_takeSum 86 = .ok (.getfield 81, 3) := by decide +kernel
theorem dX6_takeSum_89 : decode cX6_takeSum 89 = .ok (.isub, 1) := by decide +kernel
theorem dX6_takeSum_90 : decode cX6_takeSum 90 = .ok (.invokevirtual 116, 3) := by decide +kernel
theorem dX6_takeSum_93 : decode cX6_takeSum 93 = .ok (.iload_n 1, 1) := by decide +kernel
theorem dX6_takeSum_94 : decode cX6_takeSum 94 = .ok (.ifCond .le 9, 3) := by decide +kernel
theorem dX6_takeSum_97 : decode cX6_takeSum 97 = .ok (.aload_n 0, 1) := by decide +kernel
theorem dX6_takeSum_98 : decode cX6_takeSum 98 = .ok (.bipush (-12), 2) := by decide +kernel
theorem dX6_takeSum_100 : decode cX6_takeSum 100 = .ok (.invokevirtual 116, 3) := by decide +kernel
theorem dX6_takeSum_103 : decode cX6_takeSum 103 = .ok (.aload_n 0, 1) := by decide +kernel
theorem dX6_takeSum_104 : decode cX6_takeSum 104 = .ok (.invokevirtual 40, 3) := by decide +kernel
theorem dX6_takeSum_107 : decode cX6_takeSum 107 = .ok (.aload_n 0, 1) := by decide +kernel
theorem dX6_takeSum_108 : decode cX6_takeSum 108 = .ok (.bipush 43, 2) := by decide +kernel
theorem dX6_takeSum_110 : decode cX6_takeSum 110 = .ok (.invokevirtual 107, 3) := by decide +kernel
theorem dX6_takeSum_113 : decode cX6_takeSum 113 = .ok (.ifCond .ne 5, 3) := by decide +kernel
theorem dX6_takeSum_116 : decode cX6_takeSum 116 = .ok (.iconst 1, 1) := by decide +kernel
theorem dX6_takeSum_117 : decode cX6_takeSum 117 = .ok (.ireturn, 1) := by decide +kernel
theorem dX6_takeSum_118 : decode cX6_takeSum 118 = .ok (.aload_n 0, 1) := by decide +kernel
theorem dX6_takeSum_119 : decode cX6_takeSum 119 = .ok (.invokevirtual 40, 3) := by decide +kernel
theorem dX6_takeSum_122 : decode cX6_takeSum 122 = .ok (.iinc 1 1, 3) := by decide +kernel
theorem dX6_takeSum_125 : decode cX6_takeSum 125 = .ok (.goto (-123), 3) := by decide +kernel
theorem dX6_takeSum_128 : decode cX6_takeSum 128 = .ok (.iconst 0, 1) := by decide +kernel
theorem dX6_takeSum_129 : decode cX6_takeSum 129 = .ok (.ireturn, 1) := by decide +kernel
noncomputable def E_X6_takeSum : mE := (mX6_takeSum, [(44, [(0, (.iconst 0, 1, false, false, 0, 0, 0, 0, 0, 0, [])), (1, (.istore_n 1, 2, true, false, 1, 0, 0, 0, 0, 0, [])), (2, (.iload_n 1, 3, false, false, 1, 0, 0, 0, 0, 0, [])), (3, (.sipush 400, 6, false, false, 0, 0, 0, 0, 400, 0, [])), (6, (.if_icmp .ge 122, 9, false, false, 128, 0, 0, 0, 0, 0, [])), (9, (.aload_n 0, 10, false, false, 0, 0, 0, 0, 0, 0, [])), (10, (.getfield 60, 13, false, false, 9, 6, 0, 0, 0, 0, [])), (13, (.iconst 2, 14, false, false, 0, 0, 0, 0, 2, 0, [])), (14, (.if_icmp .ne 16, 17, false, false, 30, 0, 0, 0, 0, 0, [])), (17, (.aload_n 0, 18, false, false, 0, 0, 0, 0, 0, 0, [])), (18, (.getfield 81, 21, false, false, 9, 7, 0, 0, 0, 0, [])), (21, (.ldc 87, 23, false, false, 0, 0, 0, 0, 999999, 0, [])), (23, (.if_icmp .gt 7, 26, false, false, 30, 0, 0, 0, 0, 0, [])), (26, (.iconst 1, 27, false, false, 0, 0, 0, 0, 1, 0, [])), (27, (.goto 4, 30, false, true, 31, 0, 0, 0, 0, 0, [])), (30, (.iconst 0, 31, true, false, 0, 0, 0, 0, 0, 0, [])), (31, (.istore_n 2, 32, false, false, 2, 0, 0, 0, 0, 0, [])), (32, (.aload_n 0, 33, false, false, 0, 0, 0, 0, 0, 0, [])), (33, (.getfield 60, 36, false, false, 9, 6, 0, 0, 0, 0, [])), (36, (.iconst 1, 37, false, false, 0, 0, 0, 0, 1, 0, [])), (37, (.if_icmp .ne 23, 40, false, false, 60, 0, 0, 0, 0, 0, [])), (40, (.aload_n 0, 41, false, false, 0, 0, 0, 0, 0, 0, [])), (41, (.getfield 81, 44, false, false, 9, 7, 0, 0, 0, 0, [])), (44, (.ifCond .lt 16, 47, false, false, 60, 0, 0, 0, 0, 0, []))]),
  (89, [(47, (.aload_n 0, 48, false, false, 0, 0, 0, 0, 0, 0, [])), (48, (.getfield 81, 51, false, false, 9, 7, 0, 0, 0, 0, [])), (51, (.bipush 10, 53, false, false, 0, 0, 0, 0, 10, 0, [])), (53, (.if_icmp .gt 7, 56, false, false, 60, 0, 0, 0, 0, 0, [])), (56, (.iconst 1, 57, false, false, 0, 0, 0, 0, 1, 0, [])), (57, (.goto 4, 60, false, true, 61, 0, 0, 0, 0, 0, [])), (60, (.iconst 0, 61, true, false, 0, 0, 0, 0, 0, 0, [])), (61, (.istore_n 3, 62, false, false, 3, 0, 0, 0, 0, 0, [])), (62, (.iload_n 2, 63, false, false, 2, 0, 0, 0, 0, 0, [])), (63, (.ifCond .ne 9, 66, false, false, 72, 0, 0, 0, 0, 0, [])), (66, (.iload_n 3, 67, false, false, 3, 0, 0, 0, 0, 0, [])), (67, (.ifCond .ne 5, 70, false, false, 72, 0, 0, 0, 0, 0, [])), (70, (.iconst 0, 71, false, false, 0, 0, 0, 0, 0, 0, [])), (71, (.ireturn, 72, false, false, 0, 0, 1, 0, 0, 0, [])), (72, (.aload_n 0, 73, false, false, 0, 0, 0, 0, 0, 0, [])), (73, (.iload_n 2, 74, false, false, 2, 0, 0, 0, 0, 0, [])), (74, (.ifCond .eq 10, 77, false, false, 84, 0, 0, 0, 0, 0, [])), (77, (.aload_n 0, 78, false, false, 0, 0, 0, 0, 0, 0, [])), (78, (.getfield 81, 81, false, false, 9, 7, 0, 0, 0, 0, [])), (81, (.goto 9, 84, false, true, 90, 0, 0, 0, 0, 0, [])), (84, (.iconst (-1), 85, false, false, 0, 0, 0, 0, -1, 0, [])), (85, (.aload_n 0, 86, false, false, 0, 0, 0, 0, 0, 0, [])), (86, (.getfield 81, 89, false, false, 9, 7, 0, 0, 0, 0, [])), (89, (.isub, 90, true, false, 0, 0, 0, 0, 0, 0, []))]),
  (129, [(90, (.invokevirtual 116, 93, false, false, 75, 1, 0, 9, 0, 0, [])), (93, (.iload_n 1, 94, false, false, 1, 0, 0, 0, 0, 0, [])), (94, (.ifCond .le 9, 97, false, false, 103, 0, 0, 0, 0, 0, [])), (97, (.aload_n 0, 98, false, false, 0, 0, 0, 0, 0, 0, [])), (98, (.bipush (-12), 100, false, false, 0, 0, 0, 0, -12, 0, [])), (100, (.invokevirtual 116, 103, false, false, 75, 1, 0, 9, 0, 0, [])), (103, (.aload_n 0, 104, false, false, 0, 0, 0, 0, 0, 0, [])), (104, (.invokevirtual 40, 107, false, false, 65, 0, 0, 9, 0, 0, [])), (107, (.aload_n 0, 108, false, false, 0, 0, 0, 0, 0, 0, [])), (108, (.bipush 43, 110, false, false, 0, 0, 0, 0, 43, 0, [])), (110, (.invokevirtual 107, 113, false, false, 73, 1, 1, 9, 0, 0, [])), (113, (.ifCond .ne 5, 116, false, false, 118, 0, 0, 0, 0, 0, [])), (116, (.iconst 1, 117, false, false, 0, 0, 0, 0, 1, 0, [])), (117, (.ireturn, 118, false, false, 0, 0, 1, 0, 0, 0, [])), (118, (.aload_n 0, 119, false, false, 0, 0, 0, 0, 0, 0, [])), (119, (.invokevirtual 40, 122, false, false, 65, 0, 0, 9, 0, 0, [])), (122, (.iinc 1 1, 125, false, false, 1, 0, 0, 0, 1, 0, [])), (125, (.goto (-123), 128, false, true, 2, 0, 0, 0, 0, 0, [])), (128, (.iconst 0, 129, false, false, 0, 0, 0, 0, 0, 0, [])), (129, (.ireturn, 130, false, false, 0, 0, 1, 0, 0, 0, []))])], 0, [])
set_option maxRecDepth 100000 in
theorem v_X6_takeSum : VE MYT dflT E_X6_takeSum := ⟨⟨⟨⟨⟨dX6_takeSum_0, rfl⟩, rfl⟩, ⟨⟨dX6_takeSum_1, rfl⟩, rfl⟩, ⟨⟨dX6_takeSum_2, rfl⟩, rfl⟩, ⟨⟨dX6_takeSum_3, rfl⟩, rfl⟩, ⟨⟨dX6_takeSum_6, rfl⟩, rfl⟩, ⟨⟨dX6_takeSum_9, rfl⟩, rfl⟩, ⟨⟨dX6_takeSum_10, rfl⟩, Or.inl ⟨by decide, _, _, fX6_60⟩⟩, ⟨⟨dX6_takeSum_13, rfl⟩, rfl⟩, ⟨⟨dX6_takeSum_14, rfl⟩, rfl⟩, ⟨⟨dX6_takeSum_17, rfl⟩, rfl⟩, ⟨⟨dX6_takeSum_18, rfl⟩, Or.inl ⟨by decide, _, _, fX6_81⟩⟩, ⟨⟨dX6_takeSum_21, rfl⟩, Or.inl ⟨rfl, kX6_87⟩⟩, ⟨⟨dX6_takeSum_23, rfl⟩, rfl⟩, ⟨⟨dX6_takeSum_26, rfl⟩, rfl⟩, ⟨⟨dX6_takeSum_27, rfl⟩, rfl⟩, ⟨⟨dX6_takeSum_30, rfl⟩, rfl⟩, ⟨⟨dX6_takeSum_31, rfl⟩, rfl⟩, ⟨⟨dX6_takeSum_32, rfl⟩, rfl⟩, ⟨⟨dX6_takeSum_33, rfl⟩, Or.inl ⟨by decide, _, _, fX6_60⟩⟩, ⟨⟨dX6_takeSum_36, rfl⟩, rfl⟩, ⟨⟨dX6_takeSum_37, rfl⟩, rfl⟩, ⟨⟨dX6_takeSum_40, rfl⟩, rfl⟩, ⟨⟨dX6_takeSum_41, rfl⟩, Or.inl ⟨by decide, _, _, fX6_81⟩⟩, ⟨⟨dX6_takeSum_44, rfl⟩, rfl⟩, trivial⟩,
  ⟨⟨⟨dX6_takeSum_47, rfl⟩, rfl⟩, ⟨⟨dX6_takeSum_48, rfl⟩, Or.inl ⟨by decide, _, _, fX6_81⟩⟩, ⟨⟨dX6_takeSum_51, rfl⟩, rfl⟩, ⟨⟨dX6_takeSum_53, rfl⟩, rfl⟩, ⟨⟨dX6_takeSum_56, rfl⟩, rfl⟩, ⟨⟨dX6_takeSum_57, rfl⟩, rfl⟩, ⟨⟨dX6_takeSum_60, rfl⟩, rfl⟩, ⟨⟨dX6_takeSum_61, rfl⟩, rfl⟩, ⟨⟨dX6_takeSum_62, rfl⟩, rfl⟩, ⟨⟨dX6_takeSum_63, rfl⟩, rfl⟩, ⟨⟨dX6_takeSum_66, rfl⟩, rfl⟩, ⟨⟨dX6_takeSum_67, rfl⟩, rfl⟩, ⟨⟨dX6_takeSum_70, rfl⟩, rfl⟩, ⟨⟨dX6_takeSum_71, rfl⟩, Or.inr (Or.inl ⟨rfl, rfl⟩)⟩, ⟨⟨dX6_takeSum_72, rfl⟩, rfl⟩, ⟨⟨dX6_takeSum_73, rfl⟩, rfl⟩, ⟨⟨dX6_takeSum_74, rfl⟩, rfl⟩, ⟨⟨dX6_takeSum_77, rfl⟩, rfl⟩, ⟨⟨dX6_takeSum_78, rfl⟩, Or.inl ⟨by decide, _, _, fX6_81⟩⟩, ⟨⟨dX6_takeSum_81, rfl⟩, rfl⟩, ⟨⟨dX6_takeSum_84, rfl⟩, rfl⟩, ⟨⟨dX6_takeSum_85, rfl⟩, rfl⟩, ⟨⟨dX6_takeSum_86, rfl⟩, Or.inl ⟨by decide, _, _, fX6_81⟩⟩, ⟨⟨dX6_takeSum_89, rfl⟩, trivial⟩, trivial⟩,
  ⟨⟨⟨dX6_takeSum_90, rfl⟩, Or.inr ⟨by decide, ⟨_, my_75, sX6_116⟩, fun q => absurd q (by decide)⟩⟩, ⟨⟨dX6_takeSum_93, rfl⟩, rfl⟩, ⟨⟨dX6_takeSum_94, rfl⟩, rfl⟩, ⟨⟨dX6_takeSum_97, rfl⟩, rfl⟩, ⟨⟨dX6_takeSum_98, rfl⟩, rfl⟩, ⟨⟨dX6_takeSum_100, rfl⟩, Or.inr ⟨by decide, ⟨_, my_75, sX6_116⟩, fun q => absurd q (by decide)⟩⟩, ⟨⟨dX6_takeSum_103, rfl⟩, rfl⟩, ⟨⟨dX6_takeSum_104, rfl⟩, Or.inr ⟨by decide, ⟨_, my_65, sX6_40⟩, fun q => absurd q (by decide)⟩⟩, ⟨⟨dX6_takeSum_107, rfl⟩, rfl⟩, ⟨⟨dX6_takeSum_108, rfl⟩, rfl⟩, ⟨⟨dX6_takeSum_110, rfl⟩, Or.inr ⟨by decide, ⟨_, my_73, sX6_107⟩, fun q => absurd q (by decide)⟩⟩, ⟨⟨dX6_takeSum_113, rfl⟩, rfl⟩, ⟨⟨dX6_takeSum_116, rfl⟩, rfl⟩, ⟨⟨dX6_takeSum_117, rfl⟩, Or.inr (Or.inl ⟨rfl, rfl⟩)⟩, ⟨⟨dX6_takeSum_118, rfl⟩, rfl⟩, ⟨⟨dX6_takeSum_119, rfl⟩, Or.inr ⟨by decide, ⟨_, my_65, sX6_40⟩, fun q => absurd q (by decide)⟩⟩, ⟨⟨dX6_takeSum_122, rfl⟩, ⟨rfl, rfl⟩⟩, ⟨⟨dX6_takeSum_125, rfl⟩, rfl⟩, ⟨⟨dX6_takeSum_128, rfl⟩, rfl⟩, ⟨⟨dX6_takeSum_129, rfl⟩, Or.inr (Or.inl ⟨rfl, rfl⟩)⟩, trivial⟩, trivial⟩, by decide, Or.inl ⟨rfl, by decide, rfl⟩⟩
set_option maxRecDepth 100000 in
theorem g_X6_takeSum_0 (S : sT) (call : cT) (n : Nat) (a0 : Nat) (h : pH) : bd S call dflT E_X6_takeSum (n + 1) 0 [some (.ref a0), none, none, none] [] h = (bd S call dflT E_X6_takeSum n 2 [some (.ref a0), some (.int 0), none, none] [] h) := rfl
set_option maxRecDepth 100000 in
theorem g_X6_takeSum_2 (S : sT) (call : cT) (n : Nat) (a0 : Nat) (x1 : Int32) (o2 : Option Value) (o3 : Option Value) (h : pH) : bd S call dflT E_X6_takeSum (n + 1) 2 [some (.ref a0), some (.int x1), o2, o3] [] h = ((if 400 ≤ x1 then zR 0 (some (.inl (some (.int 0)), h)) else gI h (.ref a0) 9 6 (fun y1 => (if y1 = 2 then gI h (.ref a0) 9 7 (fun y2 => (if 999999 < y2 then bd S call dflT E_X6_takeSum n 31 [some (.ref a0), some (.int x1), o2, o3] [.int 0] h else bd S call dflT E_X6_takeSum n 31 [some (.ref a0), some (.int x1), o2, o3] [.int 1] h)) else bd S call dflT E_X6_takeSum n 31 [some (.ref a0), some (.int x1), o2, o3] [.int 0] h)))) := rfl
set_option maxRecDepth 100000 in
theorem g_X6_takeSum_31 (S : sT) (call : cT) (n : Nat) (a0 : Nat) (x1 : Int32) (o2 : Option Value) (o3 : Option Value) (y0 : Int32) (h : pH) : bd S call dflT E_X6_takeSum (n + 1) 31 [some (.ref a0), some (.int x1), o2, o3] [.int y0] h = (gI h (.ref a0) 9 6 (fun y1 => (if y1 = 1 then gI h (.ref a0) 9 7 (fun y2 => (if y2 < 0 then bd S call dflT E_X6_takeSum n 61 [some (.ref a0), some (.int x1), some (.int y0), o3] [.int 0] h else gI h (.ref a0) 9 7 (fun y3 => (if 10 < y3 then bd S call dflT E_X6_takeSum n 61 [some (.ref a0), some (.int x1), some (.int y0), o3] [.int 0] h else bd S call dflT E_X6_takeSum n 61 [some (.ref a0), some (.int x1), some (.int y0), o3] [.int 1] h)))) else bd S call dflT E_X6_takeSum n 61 [some (.ref a0), some (.int x1), some (.int y0), o3] [.int 0] h))) := rfl
set_option maxRecDepth 100000 in
theorem g_X6_takeSum_61 (S : sT) (call : cT) (n : Nat) (a0 : Nat) (x1 : Int32) (x2 : Int32) (o3 : Option Value) (y0 : Int32) (h : pH) : bd S call dflT E_X6_takeSum (n + 1) 61 [some (.ref a0), some (.int x1), some (.int x2), o3] [.int y0] h = ((if x2 = 0 then (if y0 = 0 then zR 0 (some (.inl (some (.int 0)), h)) else (if x2 = 0 then gI h (.ref a0) 9 7 (fun y3 => bd S call dflT E_X6_takeSum n 90 [some (.ref a0), some (.int x1), some (.int x2), some (.int y0)] [.int ((-1) - y3), .ref a0] h) else gI h (.ref a0) 9 7 (fun y4 => bd S call dflT E_X6_takeSum n 90 [some (.ref a0), some (.int x1), some (.int x2), some (.int y0)] [.int y4, .ref a0] h))) else (if x2 = 0 then gI h (.ref a0) 9 7 (fun y1 => bd S call dflT E_X6_takeSum n 90 [some (.ref a0), some (.int x1), some (.int x2), some (.int y0)] [.int ((-1) - y1), .ref a0] h) else gI h (.ref a0) 9 7 (fun y2 => bd S call dflT E_X6_takeSum n 90 [some (.ref a0), some (.int x1), some (.int x2), some (.int y0)] [.int y2, .ref a0] h)))) := rfl
set_option maxRecDepth 100000 in
theorem g_X6_takeSum_90 (S : sT) (call : cT) (n : Nat) (a0 : Nat) (x1 : Int32) (x2 : Int32) (x3 : Int32) (u0 : Value) (y1 : Int32) (h : pH) : bd S call dflT E_X6_takeSum (n + 1) 90 [some (.ref a0), some (.int x1), some (.int x2), some (.int x3)] [.int y1, u0] h = (rC h u0 9 (cU (call 75 [u0, .int y1] h) (fun h1 => (if x1 ≤ 0 then rC h1 (.ref a0) 9 (cU (call 65 [.ref a0] h1) (fun h2 => rC h2 (.ref a0) 9 (cI (call 73 [.ref a0, .int 43] h2) (fun y4 h3 => (if y4 = 0 then zR 1 (some (.inl (some (.int 1)), h3)) else rC h3 (.ref a0) 9 (cU (call 65 [.ref a0] h3) (fun h5 => bd S call dflT E_X6_takeSum n 2 [some (.ref a0), some (.int (x1 + 1)), some (.int x2), some (.int x3)] [] h5))))))) else rC h1 (.ref a0) 9 (cU (call 75 [.ref a0, .int (-12)] h1) (fun h6 => rC h6 (.ref a0) 9 (cU (call 65 [.ref a0] h6) (fun h7 => rC h7 (.ref a0) 9 (cI (call 73 [.ref a0, .int 43] h7) (fun y9 h8 => (if y9 = 0 then zR 1 (some (.inl (some (.int 1)), h8)) else rC h8 (.ref a0) 9 (cU (call 65 [.ref a0] h8) (fun h10 => bd S call dflT E_X6_takeSum n 2 [some (.ref a0), some (.int (x1 + 1)), some (.int x2), some (.int x3)] [] h10))))))))))))) := rfl
theorem dX6_takeAtom_0 : decode cX6_takeAtom 0 = .ok (.aload_n 0, 1) := by decide +kernel
theorem dX6_takeAtom_1 : decode cX6_takeAtom 1 = .ok (.bipush 36, 2) := by decide +kernel
theorem dX6_takeAtom_3 : decode cX6_takeAtom 3 = .ok (.invokevirtual 101, 3) := by decide +kernel
theorem dX6_takeAtom_6 : decode cX6_takeAtom 6 = .ok (.istore_n 2, 1) := by decide +kernel
theorem dX6_takeAtom_7 : decode cX6_takeAtom 7 = .ok (.iload_n 2, 1) := by decide +kernel
theorem dX6_takeAtom_8 : decode cX6_takeAtom 8 = .ok (.ifCond .ne 12, 3) := by decide +kernel
theorem dX6_takeAtom_11 : decode cX6_takeAtom 11 = .ok (.aload_n 0, 1) := by decide +kernel
theorem dX6_takeAtom_12 : decode cX6_takeAtom 12 = .ok (.bipush 40, 2) := by decide +kernel
theorem dX6_takeAtom_14 : decode cX6_takeAtom 14 = .ok (.invokevirtual 107, 3) := by decide +kernel
theorem dX6_takeAtom_17 : decode cX6_takeAtom 17 = .ok (.ifCond .eq 66, 3) := by decide +kernel
theorem dX6_takeAtom_20 : decode cX6_takeAtom 20 = .ok (.iload_n 1, 1) := by decide +kernel
theorem dX6_takeAtom_21 : decode cX6_takeAtom 21 = .ok (.bipush 6, 2) := by decide +kernel
theorem dX6_takeAtom_23 : decode cX6_takeAtom 23 = .ok (.if_icmp .lt 5, 3) := by decide +kernel
theorem dX6_takeAtom_26 : decode cX6_takeAtom 26 = .ok (.iconst 0, 1) := by decide +kernel
theorem dX6_takeAtom_27 : decode cX6_takeAtom 27 = .ok (.ireturn, 1) := by decide +kernel
theorem dX6_takeAtom_28 : decode cX6_takeAtom 28 = .ok (.aload_n 0, 1) := by decide +kernel
theorem dX6_takeAtom_29 : decode cX6_takeAtom 29 = .ok (.invokevirtual 40, 3) := by decide +kernel
theorem dX6_takeAtom_32 : decode cX6_takeAtom 32 = .ok (.iload_n 2, 1) := by decide +kernel
theorem dX6_takeAtom_33 : decode cX6_takeAtom 33 = .ok (.ifCond .eq 13, 3) := by decide +kernel
theorem dX6_takeAtom_36 : decode cX6_takeAtom 36 = .ok (.aload_n 0, 1) := by decide +kernel
theorem dX6_takeAtom_37 : decode cX6_takeAtom 37 = .ok (.iload_n 1, 1) := by decide +kernel
theorem dX6_takeAtom_38 : decode cX6_takeAtom 38 = .ok (.iconst 1, 1) := by decide +kernel
theorem dX6_takeAtom_39 : decode cX6_takeAtom 39 = .ok (.iadd, 1) := by decide +kernel
theorem dX6_takeAtom_40 : decode cX6_takeAtom 40 = .ok (.invokevirtual 120, 3) := by decide +kernel
theorem dX6_takeAtom_43 : decode cX6_takeAtom 43 = .ok (.goto 27, 3) := by decide +kernel
theorem dX6_takeAtom_46 : decode cX6_takeAtom 46 = .ok (.aload_n 0, 1) := by decide +kernel
theorem dX6_takeAtom_47 : decode cX6_takeAtom 47 = .ok (.iload_n 1, 1) := by decide +kernel
theorem dX6_takeAtom_48 : decode cX6_takeAtom 48 = .ok (.iconst 1, 1) := by decide +kernel
theorem dX6_takeAtom_49 : decode cX6_takeAtom 49 = .ok (.iadd, 1) := by decide +kernel
theorem dX6_takeAtom_50 : decode cX6_takeAtom 50 = .ok (.invokevirtual 110, 3) := by decide +kernel
theorem dX6_takeAtom_53 : decode cX6_takeAtom 53 = .ok (.ifCond .eq 16, 3) := by decide +kernel
theorem dX6_takeAtom_56 : decode cX6_takeAtom 56 = .ok (.aload_n 0, 1) := by decide +kernel
theorem dX6_takeAtom_57 : decode cX6_takeAtom 57 = .ok (.bipush 41, 2) := by decide +kernel
theorem dX6_takeAtom_59 : decode cX6_takeAtom 59 = .ok (.invokevirtual 77, 3) := by decide +kernel
theorem dX6_takeAtom_62 : decode cX6_takeAtom 62 = .ok (.ifCond .eq 7, 3) := by decide +kernel
theorem dX6_takeAtom_65 : decode cX6_takeAtom 65 = .ok (.iconst 1, 1) := by decide +kernel
theorem dX6_takeAtom_66 : decode cX6_takeAtom 66 = .ok (.goto 4, 3) := by decide +kernel
theorem dX6_takeAtom_69 : decode cX6_takeAtom 69 = .ok (.iconst 0, 1) := by decide +kernel
theorem dX6_takeAtom_70 : decode cX6_takeAtom 70 = .ok (.istore_n 3, 1) := by decide +kernel
theorem dX6_takeAtom_71 : decode cX6_takeAtom 71 = .ok (.iload_n 2, 1) := by decide +kernel
theorem dX6_takeAtom_72 : decode cX6_takeAtom 72 = .ok (.ifCond .eq 9, 3) := by decide +kernel
theorem dX6_takeAtom_75 : decode cX6_takeAtom 75 = .ok (.aload_n 0, 1) := by decide +kernel
theorem dX6_takeAtom_76 : decode cX6_takeAtom 76 = .ok (.bipush (-15), 2) := by decide +kernel
theorem dX6_takeAtom_78 : decode cX6_takeAtom 78 = .ok (.invokevirtual 116, 3) := by decide +kernel
theorem dX6_takeAtom_81 : decode cX6_takeAtom 81 = .ok (.iload_n 3, 1) := by decide +kernel
theorem dX6_takeAtom_82 : decode cX6_takeAtom 82 = .ok (.ireturn, 1) := by decide +kernel
theorem dX6_takeAtom_83 : decode cX6_takeAtom 83 = .ok (.aload_n 0, 1) := by decide +kernel
theorem dX6_takeAtom_84 : decode cX6_takeAtom 84 = .ok (.invokevirtual 123, 3) := by decide +kernel
theorem dX6_takeAtom_87 : decode cX6_takeAtom 87 = .ok (.ifCond .ne 5, 3) := by decide +kernel
theorem dX6_takeAtom_90 : decode cX6_takeAtom 90 = .ok (.iconst 0, 1) := by decide +kernel
theorem dX6_takeAtom_91 : decode cX6_takeAtom 91 = .ok (.ireturn, 1) := by decide +kernel
theorem dX6_takeAtom_92 : decode cX6_takeAtom 92 = .ok (.aload_n 0, 1) := by decide +kernel
theorem dX6_takeAtom_93 : decode cX6_takeAtom 93 = .ok (.bipush 60, 2) := by decide +kernel
theorem dX6_takeAtom_95 : decode cX6_takeAtom 95 = .ok (.invokevirtual 107, 3) := by decide +kernel
theorem dX6_takeAtom_98 : decode cX6_takeAtom 98 = .ok (.istore_n 3, 1) := by decide +kernel
theorem dX6_takeAtom_99 : decode cX6_takeAtom 99 = .ok (.aload_n 0, 1) := by decide +kernel
theorem dX6_takeAtom_100 : decode cX6_takeAtom 100 = .ok (.bipush 60, 2) := by decide +kernel
theorem dX6_takeAtom_102 : decode cX6_takeAtom 102 = .ok (.invokevirtual 77, 3) := by decide +kernel
theorem dX6_takeAtom_105 : decode cX6_takeAtom 105 = .ok (.ifCond .ne 12, 3) := by decide +kernel
theorem dX6_takeAtom_108 : decode cX6_takeAtom 108 = .ok (.aload_n 0, 1) := by decide +kernel
theorem dX6_takeAtom_109 : decode cX6_takeAtom 109 = .ok (.bipush 62, 2) := by decide +kernel
theorem dX6_takeAtom_111 : decode cX6_takeAtom 111 = .ok (.invokevirtual 77, 3) := by decide +kernel
theorem dX6_takeAtom_114 : decode cX6_takeAtom 114 = .ok (.ifCond .eq 14, 3) := by decide +kernel
theorem dX6_takeAtom_117 : decode cX6_takeAtom 117 = .ok (.aload_n 0, 1) := by decide +kernel
theorem dX6_takeAtom_118 : decode cX6_takeAtom 118 = .ok (.invokevirtual 123, 3) := by decide +kernel
theorem dX6_takeAtom_121 : decode cX6_takeAtom 121 = .ok (.ifCond .eq 7, 3) := by decide +kernel
theorem dX6_takeAtom_124 : decode cX6_takeAtom 124 = .ok (.iconst 1, 1) := by decide +kernel
theorem dX6_takeAtom_125 : decode cX6_takeAtom 125 = .ok (.goto 4, 3) := by decide +kernel
theorem dX6_takeAtom_128 : decode cX6_takeAtom 128 = .ok (.iconst 0, 1) := by decide +kernel
theorem dX6_takeAtom_129 : decode cX6_takeAtom 129 = .ok (.istore 4, 2) := by decide +kernel
theorem dX6_takeAtom_131 : decode cX6_takeAtom 131 = .ok (.aload_n 0, 1) := by decide +kernel
theorem dX6_takeAtom_132 : decode cX6_takeAtom 132 = .ok (.iload_n 3, 1) := by decide +kernel
theorem dX6_takeAtom_133 : decode cX6_takeAtom 133 = .ok (.ifCond .eq 8, 3) := by decide +kernel
theorem dX6_takeAtom_136 : decode cX6_takeAtom 136 = .ok (.bipush (-13), 2) := by decide +kernel
theorem dX6_takeAtom_138 : decode cX6_takeAtom 138 = .ok (.goto 5, 3) := by decide +kernel
theorem dX6_takeAtom_141 : decode cX6_takeAtom 141 = .ok (.bipush (-14), 2) := by decide +kernel
theorem dX6_takeAtom_143 : decode cX6_takeAtom 143 = .ok (.invokevirtual 116, 3) := by decide +kernel
theorem dX6_takeAtom_146 : decode cX6_takeAtom 146 = .ok (.iload 4, 2) := by decide +kernel
theorem dX6_takeAtom_148 : decode cX6_takeAtom 148 = .ok (.ireturn, 1) := by decide +kernel
noncomputable def E_X6_takeAtom : mE := (mX6_takeAtom, [(40, [(0, (.aload_n 0, 1, false, false, 0, 0, 0, 0, 0, 0, [])), (1, (.bipush 36, 3, false, false, 0, 0, 0, 0, 36, 0, [])), (3, (.invokevirtual 101, 6, false, false, 69, 1, 1, 9, 0, 0, [])), (6, (.istore_n 2, 7, false, false, 2, 0, 0, 0, 0, 0, [])), (7, (.iload_n 2, 8, false, false, 2, 0, 0, 0, 0, 0, [])), (8, (.ifCond .ne 12, 11, false, true, 20, 0, 0, 0, 0, 0, [])), (11, (.aload_n 0, 12, false, false, 0, 0, 0, 0, 0, 0, [])), (12, (.bipush 40, 14, false, false, 0, 0, 0, 0, 40, 0, [])), (14, (.invokevirtual 107, 17, false, false, 73, 1, 1, 9, 0, 0, [])), (17, (.ifCond .eq 66, 20, true, false, 83, 0, 0, 0, 0, 0, [])), (20, (.iload_n 1, 21, false, false, 1, 0, 0, 0, 0, 0, [])), (21, (.bipush 6, 23, false, false, 0, 0, 0, 0, 6, 0, [])), (23, (.if_icmp .lt 5, 26, false, false, 28, 0, 0, 0, 0, 0, [])), (26, (.iconst 0, 27, false, false, 0, 0, 0, 0, 0, 0, [])), (27, (.ireturn, 28, false, false, 0, 0, 1, 0, 0, 0, [])), (28, (.aload_n 0, 29, false, false, 0, 0, 0, 0, 0, 0, [])), (29, (.invokevirtual 40, 32, false, false, 65, 0, 0, 9, 0, 0, [])), (32, (.iload_n 2, 33, false, false, 2, 0, 0, 0, 0, 0, [])), (33, (.ifCond .eq 13, 36, false, false, 46, 0, 0, 0, 0, 0, [])), (36, (.aload_n 0, 37, false, false, 0, 0, 0, 0, 0, 0, [])), (37, (.iload_n 1, 38, false, false, 1, 0, 0, 0, 0, 0, [])), (38, (.iconst 1, 39, false, false, 0, 0, 0, 0, 1, 0, [])), (39, (.iadd, 40, false, false, 0, 0, 0, 0, 0, 0, [])), (40, (.invokevirtual 120, 43, false, false, 77, 1, 1, 9, 0, 0, []))]),
  (84, [(43, (.goto 27, 46, false, false, 70, 0, 0, 0, 0, 0, [])), (46, (.aload_n 0, 47, false, false, 0, 0, 0, 0, 0, 0, [])), (47, (.iload_n 1, 48, false, false, 1, 0, 0, 0, 0, 0, [])), (48, (.iconst 1, 49, false, false, 0, 0, 0, 0, 1, 0, [])), (49, (.iadd, 50, false, false, 0, 0, 0, 0, 0, 0, [])), (50, (.invokevirtual 110, 53, false, false, 79, 1, 1, 9, 0, 0, [])), (53, (.ifCond .eq 16, 56, false, false, 69, 0, 0, 0, 0, 0, [])), (56, (.aload_n 0, 57, false, false, 0, 0, 0, 0, 0, 0, [])), (57, (.bipush 41, 59, false, false, 0, 0, 0, 0, 41, 0, [])), (59, (.invokevirtual 77, 62, false, false, 74, 1, 1, 9, 0, 0, [])), (62, (.ifCond .eq 7, 65, false, false, 69, 0, 0, 0, 0, 0, [])), (65, (.iconst 1, 66, false, false, 0, 0, 0, 0, 1, 0, [])), (66, (.goto 4, 69, false, false, 70, 0, 0, 0, 0, 0, [])), (69, (.iconst 0, 70, false, false, 0, 0, 0, 0, 0, 0, [])), (70, (.istore_n 3, 71, false, false, 3, 0, 0, 0, 0, 0, [])), (71, (.iload_n 2, 72, false, false, 2, 0, 0, 0, 0, 0, [])), (72, (.ifCond .eq 9, 75, false, false, 81, 0, 0, 0, 0, 0, [])), (75, (.aload_n 0, 76, false, false, 0, 0, 0, 0, 0, 0, [])), (76, (.bipush (-15), 78, false, false, 0, 0, 0, 0, -15, 0, [])), (78, (.invokevirtual 116, 81, false, false, 75, 1, 0, 9, 0, 0, [])), (81, (.iload_n 3, 82, false, false, 3, 0, 0, 0, 0, 0, [])), (82, (.ireturn, 83, false, false, 0, 0, 1, 0, 0, 0, [])), (83, (.aload_n 0, 84, false, false, 0, 0, 0, 0, 0, 0, [])), (84, (.invokevirtual 123, 87, false, false, 76, 0, 1, 9, 0, 0, []))]),
  (132, [(87, (.ifCond .ne 5, 90, false, false, 92, 0, 0, 0, 0, 0, [])), (90, (.iconst 0, 91, false, false, 0, 0, 0, 0, 0, 0, [])), (91, (.ireturn, 92, false, false, 0, 0, 1, 0, 0, 0, [])), (92, (.aload_n 0, 93, false, false, 0, 0, 0, 0, 0, 0, [])), (93, (.bipush 60, 95, false, false, 0, 0, 0, 0, 60, 0, [])), (95, (.invokevirtual 107, 98, false, false, 73, 1, 1, 9, 0, 0, [])), (98, (.istore_n 3, 99, false, false, 3, 0, 0, 0, 0, 0, [])), (99, (.aload_n 0, 100, false, false, 0, 0, 0, 0, 0, 0, [])), (100, (.bipush 60, 102, false, false, 0, 0, 0, 0, 60, 0, [])), (102, (.invokevirtual 77, 105, false, false, 74, 1, 1, 9, 0, 0, [])), (105, (.ifCond .ne 12, 108, false, true, 117, 0, 0, 0, 0, 0, [])), (108, (.aload_n 0, 109, false, false, 0, 0, 0, 0, 0, 0, [])), (109, (.bipush 62, 111, false, false, 0, 0, 0, 0, 62, 0, [])), (111, (.invokevirtual 77, 114, false, false, 74, 1, 1, 9, 0, 0, [])), (114, (.ifCond .eq 14, 117, true, false, 128, 0, 0, 0, 0, 0, [])), (117, (.aload_n 0, 118, false, false, 0, 0, 0, 0, 0, 0, [])), (118, (.invokevirtual 123, 121, false, false, 76, 0, 1, 9, 0, 0, [])), (121, (.ifCond .eq 7, 124, false, false, 128, 0, 0, 0, 0, 0, [])), (124, (.iconst 1, 125, false, false, 0, 0, 0, 0, 1, 0, [])), (125, (.goto 4, 128, false, false, 129, 0, 0, 0, 0, 0, [])), (128, (.iconst 0, 129, false, false, 0, 0, 0, 0, 0, 0, [])), (129, (.istore 4, 131, false, false, 4, 0, 0, 0, 0, 0, [])), (131, (.aload_n 0, 132, false, false, 0, 0, 0, 0, 0, 0, [])), (132, (.iload_n 3, 133, false, false, 3, 0, 0, 0, 0, 0, []))]),
  (148, [(133, (.ifCond .eq 8, 136, false, false, 141, 0, 0, 0, 0, 0, [])), (136, (.bipush (-13), 138, false, false, 0, 0, 0, 0, -13, 0, [])), (138, (.goto 5, 141, false, false, 143, 0, 0, 0, 0, 0, [])), (141, (.bipush (-14), 143, false, false, 0, 0, 0, 0, -14, 0, [])), (143, (.invokevirtual 116, 146, false, false, 75, 1, 0, 9, 0, 0, [])), (146, (.iload 4, 148, false, false, 4, 0, 0, 0, 0, 0, [])), (148, (.ireturn, 149, false, false, 0, 0, 1, 0, 0, 0, []))])], 0, [])
set_option maxRecDepth 100000 in
theorem v_X6_takeAtom : VE MYT dflT E_X6_takeAtom := ⟨⟨⟨⟨⟨dX6_takeAtom_0, rfl⟩, rfl⟩, ⟨⟨dX6_takeAtom_1, rfl⟩, rfl⟩, ⟨⟨dX6_takeAtom_3, rfl⟩, Or.inr ⟨by decide, ⟨_, my_69, sX6_101⟩, fun q => absurd q (by decide)⟩⟩, ⟨⟨dX6_takeAtom_6, rfl⟩, rfl⟩, ⟨⟨dX6_takeAtom_7, rfl⟩, rfl⟩, ⟨⟨dX6_takeAtom_8, rfl⟩, rfl⟩, ⟨⟨dX6_takeAtom_11, rfl⟩, rfl⟩, ⟨⟨dX6_takeAtom_12, rfl⟩, rfl⟩, ⟨⟨dX6_takeAtom_14, rfl⟩, Or.inr ⟨by decide, ⟨_, my_73, sX6_107⟩, fun q => absurd q (by decide)⟩⟩, ⟨⟨dX6_takeAtom_17, rfl⟩, rfl⟩, ⟨⟨dX6_takeAtom_20, rfl⟩, rfl⟩, ⟨⟨dX6_takeAtom_21, rfl⟩, rfl⟩, ⟨⟨dX6_takeAtom_23, rfl⟩, rfl⟩, ⟨⟨dX6_takeAtom_26, rfl⟩, rfl⟩, ⟨⟨dX6_takeAtom_27, rfl⟩, Or.inr (Or.inl ⟨rfl, rfl⟩)⟩, ⟨⟨dX6_takeAtom_28, rfl⟩, rfl⟩, ⟨⟨dX6_takeAtom_29, rfl⟩, Or.inr ⟨by decide, ⟨_, my_65, sX6_40⟩, fun q => absurd q (by decide)⟩⟩, ⟨⟨dX6_takeAtom_32, rfl⟩, rfl⟩, ⟨⟨dX6_takeAtom_33, rfl⟩, rfl⟩, ⟨⟨dX6_takeAtom_36, rfl⟩, rfl⟩, ⟨⟨dX6_takeAtom_37, rfl⟩, rfl⟩, ⟨⟨dX6_takeAtom_38, rfl⟩, rfl⟩, ⟨⟨dX6_takeAtom_39, rfl⟩, trivial⟩, ⟨⟨dX6_takeAtom_40, rfl⟩, Or.inr ⟨by decide, ⟨_, my_77, sX6_120⟩, fun q => absurd q (by decide)⟩⟩, trivial⟩,
  ⟨⟨⟨dX6_takeAtom_43, rfl⟩, rfl⟩, ⟨⟨dX6_takeAtom_46, rfl⟩, rfl⟩, ⟨⟨dX6_takeAtom_47, rfl⟩, rfl⟩, ⟨⟨dX6_takeAtom_48, rfl⟩, rfl⟩, ⟨⟨dX6_takeAtom_49, rfl⟩, trivial⟩, ⟨⟨dX6_takeAtom_50, rfl⟩, Or.inr ⟨by decide, ⟨_, my_79, sX6_110⟩, fun q => absurd q (by decide)⟩⟩, ⟨⟨dX6_takeAtom_53, rfl⟩, rfl⟩, ⟨⟨dX6_takeAtom_56, rfl⟩, rfl⟩, ⟨⟨dX6_takeAtom_57, rfl⟩, rfl⟩, ⟨⟨dX6_takeAtom_59, rfl⟩, Or.inr ⟨by decide, ⟨_, my_74, sX6_77⟩, fun q => absurd q (by decide)⟩⟩, ⟨⟨dX6_takeAtom_62, rfl⟩, rfl⟩, ⟨⟨dX6_takeAtom_65, rfl⟩, rfl⟩, ⟨⟨dX6_takeAtom_66, rfl⟩, rfl⟩, ⟨⟨dX6_takeAtom_69, rfl⟩, rfl⟩, ⟨⟨dX6_takeAtom_70, rfl⟩, rfl⟩, ⟨⟨dX6_takeAtom_71, rfl⟩, rfl⟩, ⟨⟨dX6_takeAtom_72, rfl⟩, rfl⟩, ⟨⟨dX6_takeAtom_75, rfl⟩, rfl⟩, ⟨⟨dX6_takeAtom_76, rfl⟩, rfl⟩, ⟨⟨dX6_takeAtom_78, rfl⟩, Or.inr ⟨by decide, ⟨_, my_75, sX6_116⟩, fun q => absurd q (by decide)⟩⟩, ⟨⟨dX6_takeAtom_81, rfl⟩, rfl⟩, ⟨⟨dX6_takeAtom_82, rfl⟩, Or.inr (Or.inl ⟨rfl, rfl⟩)⟩, ⟨⟨dX6_takeAtom_83, rfl⟩, rfl⟩, ⟨⟨dX6_takeAtom_84, rfl⟩, Or.inr ⟨by decide, ⟨_, my_76, sX6_123⟩, fun q => absurd q (by decide)⟩⟩, trivial⟩,
  ⟨⟨⟨dX6_takeAtom_87, rfl⟩, rfl⟩, ⟨⟨dX6_takeAtom_90, rfl⟩, rfl⟩, ⟨⟨dX6_takeAtom_91, rfl⟩, Or.inr (Or.inl ⟨rfl, rfl⟩)⟩, ⟨⟨dX6_takeAtom_92, rfl⟩, rfl⟩, ⟨⟨dX6_takeAtom_93, rfl⟩, rfl⟩, ⟨⟨dX6_takeAtom_95, rfl⟩, Or.inr ⟨by decide, ⟨_, my_73, sX6_107⟩, fun q => absurd q (by decide)⟩⟩, ⟨⟨dX6_takeAtom_98, rfl⟩, rfl⟩, ⟨⟨dX6_takeAtom_99, rfl⟩, rfl⟩, ⟨⟨dX6_takeAtom_100, rfl⟩, rfl⟩, ⟨⟨dX6_takeAtom_102, rfl⟩, Or.inr ⟨by decide, ⟨_, my_74, sX6_77⟩, fun q => absurd q (by decide)⟩⟩, ⟨⟨dX6_takeAtom_105, rfl⟩, rfl⟩, ⟨⟨dX6_takeAtom_108, rfl⟩, rfl⟩, ⟨⟨dX6_takeAtom_109, rfl⟩, rfl⟩, ⟨⟨dX6_takeAtom_111, rfl⟩, Or.inr ⟨by decide, ⟨_, my_74, sX6_77⟩, fun q => absurd q (by decide)⟩⟩, ⟨⟨dX6_takeAtom_114, rfl⟩, rfl⟩, ⟨⟨dX6_takeAtom_117, rfl⟩, rfl⟩, ⟨⟨dX6_takeAtom_118, rfl⟩, Or.inr ⟨by decide, ⟨_, my_76, sX6_123⟩, fun q => absurd q (by decide)⟩⟩, ⟨⟨dX6_takeAtom_121, rfl⟩, rfl⟩, ⟨⟨dX6_takeAtom_124, rfl⟩, rfl⟩, ⟨⟨dX6_takeAtom_125, rfl⟩, rfl⟩, ⟨⟨dX6_takeAtom_128, rfl⟩, rfl⟩, ⟨⟨dX6_takeAtom_129, rfl⟩, rfl⟩, ⟨⟨dX6_takeAtom_131, rfl⟩, rfl⟩, ⟨⟨dX6_takeAtom_132, rfl⟩, rfl⟩, trivial⟩,
  ⟨⟨⟨dX6_takeAtom_133, rfl⟩, rfl⟩, ⟨⟨dX6_takeAtom_136, rfl⟩, rfl⟩, ⟨⟨dX6_takeAtom_138, rfl⟩, rfl⟩, ⟨⟨dX6_takeAtom_141, rfl⟩, rfl⟩, ⟨⟨dX6_takeAtom_143, rfl⟩, Or.inr ⟨by decide, ⟨_, my_75, sX6_116⟩, fun q => absurd q (by decide)⟩⟩, ⟨⟨dX6_takeAtom_146, rfl⟩, rfl⟩, ⟨⟨dX6_takeAtom_148, rfl⟩, Or.inr (Or.inl ⟨rfl, rfl⟩)⟩, trivial⟩, trivial⟩, by decide, Or.inl ⟨rfl, by decide, rfl⟩⟩
set_option maxRecDepth 100000 in
theorem g_X6_takeAtom_0 (S : sT) (call : cT) (n : Nat) (a0 : Nat) (x1 : Int32) (h : pH) : bd S call dflT E_X6_takeAtom (n + 1) 0 [some (.ref a0), some (.int x1), none, none, none] [] h = (rC h (.ref a0) 9 (cI (call 69 [.ref a0, .int 36] h) (fun y2 h1 => (if y2 = 0 then rC h1 (.ref a0) 9 (cI (call 73 [.ref a0, .int 40] h1) (fun y4 h3 => (if y4 = 0 then rC h3 (.ref a0) 9 (cI (call 76 [.ref a0] h3) (fun y6 h5 => (if y6 = 0 then zR 0 (some (.inl (some (.int 0)), h5)) else rC h5 (.ref a0) 9 (cI (call 73 [.ref a0, .int 60] h5) (fun y8 h7 => rC h7 (.ref a0) 9 (cI (call 74 [.ref a0, .int 60] h7) (fun y10 h9 => (if y10 = 0 then rC h9 (.ref a0) 9 (cI (call 74 [.ref a0, .int 62] h9) (fun y12 h11 => (if y12 = 0 then (if y8 = 0 then rC h11 (.ref a0) 9 (cU (call 75 [.ref a0, .int (-14)] h11) (fun h13 => zR 0 (some (.inl (some (.int 0)), h13)))) else rC h11 (.ref a0) 9 (cU (call 75 [.ref a0, .int (-13)] h11) (fun h14 => zR 0 (some (.inl (some (.int 0)), h14))))) else bd S call dflT E_X6_takeAtom n 117 [some (.ref a0), some (.int x1), some (.int y2), some (.int y8), none] [] h11))) else bd S call dflT E_X6_takeAtom n 117 [some (.ref a0), some (.int x1), some (.int y2), some (.int y8), none] [] h9)))))))) else bd S call dflT E_X6_takeAtom n 20 [some (.ref a0), some (.int x1), some (.int y2), none, none] [] h3))) else bd S call dflT E_X6_takeAtom n 20 [some (.ref a0), some (.int x1), some (.int y2), none, none] [] h1)))) := rfl
set_option maxRecDepth 100000 in
theorem g_X6_takeAtom_20 (S : sT) (call : cT) (n : Nat) (a0 : Nat) (x1 : Int32) (x2 : Int32) (o3 : Option Value) (o4 : Option Value) (h : pH) : bd S call dflT E_X6_takeAtom (n + 1) 20 [some (.ref a0), some (.int x1), some (.int x2), o3, o4] [] h = ((if x1 < 6 then rC h (.ref a0) 9 (cU (call 65 [.ref a0] h) (fun h1 => (if x2 = 0 then rC h1 (.ref a0) 9 (cI (call 79 [.ref a0, .int (x1 + 1)] h1) (fun y3 h2 => (if y3 = 0 then (if x2 = 0 then zR 0 (some (.inl (some (.int 0)), h2)) else rC h2 (.ref a0) 9 (cU (call 75 [.ref a0, .int (-15)] h2) (fun h4 => zR 0 (some (.inl (some (.int 0)), h4))))) else rC h2 (.ref a0) 9 (cI (call 74 [.ref a0, .int 41] h2) (fun y6 h5 => (if y6 = 0 then (if x2 = 0 then zR 0 (some (.inl (some (.int 0)), h5)) else rC h5 (.ref a0) 9 (cU (call 75 [.ref a0, .int (-15)] h5) (fun h7 => zR 0 (some (.inl (some (.int 0)), h7))))) else (if x2 = 0 then zR 1 (some (.inl (some (.int 1)), h5)) else rC h5 (.ref a0) 9 (cU (call 75 [.ref a0, .int (-15)] h5) (fun h8 => zR 1 (some (.inl (some (.int 1)), h8))))))))))) else rC h1 (.ref a0) 9 (cI (call 77 [.ref a0, .int (x1 + 1)] h1) (fun y10 h9 => (if x2 = 0 then zR y10 (some (.inl (some (.int y10)), h9)) else rC h9 (.ref a0) 9 (cU (call 75 [.ref a0, .int (-15)] h9) (fun h11 => zR y10 (some (.inl (some (.int y10)), h11)))))))))) else zR 0 (some (.inl (some (.int 0)), h)))) := rfl
set_option maxRecDepth 100000 in
theorem g_X6_takeAtom_117 (S : sT) (call : cT) (n : Nat) (a0 : Nat) (x1 : Int32) (x2 : Int32) (x3 : Int32) (o4 : Option Value) (h : pH) : bd S call dflT E_X6_takeAtom (n + 1) 117 [some (.ref a0), some (.int x1), some (.int x2), some (.int x3), o4] [] h = (rC h (.ref a0) 9 (cI (call 76 [.ref a0] h) (fun y2 h1 => (if y2 = 0 then (if x3 = 0 then rC h1 (.ref a0) 9 (cU (call 75 [.ref a0, .int (-14)] h1) (fun h3 => zR 0 (some (.inl (some (.int 0)), h3)))) else rC h1 (.ref a0) 9 (cU (call 75 [.ref a0, .int (-13)] h1) (fun h4 => zR 0 (some (.inl (some (.int 0)), h4))))) else (if x3 = 0 then rC h1 (.ref a0) 9 (cU (call 75 [.ref a0, .int (-14)] h1) (fun h5 => zR 1 (some (.inl (some (.int 1)), h5)))) else rC h1 (.ref a0) 9 (cU (call 75 [.ref a0, .int (-13)] h1) (fun h6 => zR 1 (some (.inl (some (.int 1)), h6))))))))) := rfl
theorem dX6_takeAll_0 : decode cX6_takeAll 0 = .ok (.aload_n 0, 1) := by decide +kernel
theorem dX6_takeAll_1 : decode cX6_takeAll 1 = .ok (.iload_n 1, 1) := by decide +kernel
theorem dX6_takeAll_2 : decode cX6_takeAll 2 = .ok (.invokevirtual 120, 3) := by decide +kernel
theorem dX6_takeAll_5 : decode cX6_takeAll 5 = .ok (.ifCond .ne 5, 3) := by decide +kernel
theorem dX6_takeAll_8 : decode cX6_takeAll 8 = .ok (.iconst 0, 1) := by decide +kernel
theorem dX6_takeAll_9 : decode cX6_takeAll 9 = .ok (.ireturn, 1) := by decide +kernel
theorem dX6_takeAll_10 : decode cX6_takeAll 10 = .ok (.iconst 0, 1) := by decide +kernel
theorem dX6_takeAll_11 : decode cX6_takeAll 11 = .ok (.istore_n 2, 1) := by decide +kernel
theorem dX6_takeAll_12 : decode cX6_takeAll 12 = .ok (.iload_n 2, 1) := by decide +kernel
theorem dX6_takeAll_13 : decode cX6_takeAll 13 = .ok (.sipush 400, 3) := by decide +kernel
theorem dX6_takeAll_16 : decode cX6_takeAll 16 = .ok (.if_icmp .ge 38, 3) := by decide +kernel
theorem dX6_takeAll_19 : decode cX6_takeAll 19 = .ok (.aload_n 0, 1) := by decide +kernel
theorem dX6_takeAll_20 : decode cX6_takeAll 20 = .ok (.bipush 34, 2) := by decide +kernel
theorem dX6_takeAll_22 : decode cX6_takeAll 22 = .ok (.invokevirtual 101, 3) := by decide +kernel
theorem dX6_takeAll_25 : decode cX6_takeAll 25 = .ok (.ifCond .eq 29, 3) := by decide +kernel
theorem dX6_takeAll_28 : decode cX6_takeAll 28 = .ok (.aload_n 0, 1) := by decide +kernel
theorem dX6_takeAll_29 : decode cX6_takeAll 29 = .ok (.invokevirtual 40, 3) := by decide +kernel
theorem dX6_takeAll_32 : decode cX6_takeAll 32 = .ok (.aload_n 0, 1) := by decide +kernel
theorem dX6_takeAll_33 : decode cX6_takeAll 33 = .ok (.iload_n 1, 1) := by decide +kernel
theorem dX6_takeAll_34 : decode cX6_takeAll 34 = .ok (.invokevirtual 120, 3) := by decide +kernel
theorem dX6_takeAll_37 : decode cX6_takeAll 37 = .ok (.ifCond .ne 5, 3) := by decide +kernel
theorem dX6_takeAll_40 : decode cX6_takeAll 40 = .ok (.iconst 0, 1) := by decide +kernel
theorem dX6_takeAll_41 : decode cX6_takeAll 41 = .ok (.ireturn, 1) := by decide +kernel
theorem dX6_takeAll_42 : decode cX6_takeAll 42 = .ok (.aload_n 0, 1) := by decide +kernel
theorem dX6_takeAll_43 : decode cX6_takeAll 43 = .ok (.bipush (-16), 2) := by decide +kernel
theorem dX6_takeAll_45 : decode cX6_takeAll 45 = .ok (.invokevirtual 116, 3) := by decide +kernel
theorem dX6_takeAll_48 : decode cX6_takeAll 48 = .ok (.iinc 2 1, 3) := by decide +kernel
theorem dX6_takeAll_51 : decode cX6_takeAll 51 = .ok (.goto (-39), 3) := by decide +kernel
theorem dX6_takeAll_54 : decode cX6_takeAll 54 = .ok (.iconst 1, 1) := by decide +kernel
theorem dX6_takeAll_55 : decode cX6_takeAll 55 = .ok (.ireturn, 1) := by decide +kernel
noncomputable def E_X6_takeAll : mE := (mX6_takeAll, [(42, [(0, (.aload_n 0, 1, false, false, 0, 0, 0, 0, 0, 0, [])), (1, (.iload_n 1, 2, false, false, 1, 0, 0, 0, 0, 0, [])), (2, (.invokevirtual 120, 5, false, false, 77, 1, 1, 9, 0, 0, [])), (5, (.ifCond .ne 5, 8, false, false, 10, 0, 0, 0, 0, 0, [])), (8, (.iconst 0, 9, false, false, 0, 0, 0, 0, 0, 0, [])), (9, (.ireturn, 10, false, false, 0, 0, 1, 0, 0, 0, [])), (10, (.iconst 0, 11, false, false, 0, 0, 0, 0, 0, 0, [])), (11, (.istore_n 2, 12, true, false, 2, 0, 0, 0, 0, 0, [])), (12, (.iload_n 2, 13, false, false, 2, 0, 0, 0, 0, 0, [])), (13, (.sipush 400, 16, false, false, 0, 0, 0, 0, 400, 0, [])), (16, (.if_icmp .ge 38, 19, false, false, 54, 0, 0, 0, 0, 0, [])), (19, (.aload_n 0, 20, false, false, 0, 0, 0, 0, 0, 0, [])), (20, (.bipush 34, 22, false, false, 0, 0, 0, 0, 34, 0, [])), (22, (.invokevirtual 101, 25, false, false, 69, 1, 1, 9, 0, 0, [])), (25, (.ifCond .eq 29, 28, false, false, 54, 0, 0, 0, 0, 0, [])), (28, (.aload_n 0, 29, false, false, 0, 0, 0, 0, 0, 0, [])), (29, (.invokevirtual 40, 32, false, false, 65, 0, 0, 9, 0, 0, [])), (32, (.aload_n 0, 33, false, false, 0, 0, 0, 0, 0, 0, [])), (33, (.iload_n 1, 34, false, false, 1, 0, 0, 0, 0, 0, [])), (34, (.invokevirtual 120, 37, false, false, 77, 1, 1, 9, 0, 0, [])), (37, (.ifCond .ne 5, 40, false, false, 42, 0, 0, 0, 0, 0, [])), (40, (.iconst 0, 41, false, false, 0, 0, 0, 0, 0, 0, [])), (41, (.ireturn, 42, false, false, 0, 0, 1, 0, 0, 0, [])), (42, (.aload_n 0, 43, false, false, 0, 0, 0, 0, 0, 0, []))]),
  (55, [(43, (.bipush (-16), 45, false, false, 0, 0, 0, 0, -16, 0, [])), (45, (.invokevirtual 116, 48, false, false, 75, 1, 0, 9, 0, 0, [])), (48, (.iinc 2 1, 51, false, false, 2, 0, 0, 0, 1, 0, [])), (51, (.goto (-39), 54, false, true, 12, 0, 0, 0, 0, 0, [])), (54, (.iconst 1, 55, false, false, 0, 0, 0, 0, 1, 0, [])), (55, (.ireturn, 56, false, false, 0, 0, 1, 0, 0, 0, []))])], 0, [])
set_option maxRecDepth 100000 in
theorem v_X6_takeAll : VE MYT dflT E_X6_takeAll := ⟨⟨⟨⟨⟨dX6_takeAll_0, rfl⟩, rfl⟩, ⟨⟨dX6_takeAll_1, rfl⟩, rfl⟩, ⟨⟨dX6_takeAll_2, rfl⟩, Or.inr ⟨by decide, ⟨_, my_77, sX6_120⟩, fun q => absurd q (by decide)⟩⟩, ⟨⟨dX6_takeAll_5, rfl⟩, rfl⟩, ⟨⟨dX6_takeAll_8, rfl⟩, rfl⟩, ⟨⟨dX6_takeAll_9, rfl⟩, Or.inr (Or.inl ⟨rfl, rfl⟩)⟩, ⟨⟨dX6_takeAll_10, rfl⟩, rfl⟩, ⟨⟨dX6_takeAll_11, rfl⟩, rfl⟩, ⟨⟨dX6_takeAll_12, rfl⟩, rfl⟩, ⟨⟨dX6_takeAll_13, rfl⟩, rfl⟩, ⟨⟨dX6_takeAll_16, rfl⟩, rfl⟩, ⟨⟨dX6_takeAll_19, rfl⟩, rfl⟩, ⟨⟨dX6_takeAll_20, rfl⟩, rfl⟩, ⟨⟨dX6_takeAll_22, rfl⟩, Or.inr ⟨by decide, ⟨_, my_69, sX6_101⟩, fun q => absurd q (by decide)⟩⟩, ⟨⟨dX6_takeAll_25, rfl⟩, rfl⟩, ⟨⟨dX6_takeAll_28, rfl⟩, rfl⟩, ⟨⟨dX6_takeAll_29, rfl⟩, Or.inr ⟨by decide, ⟨_, my_65, sX6_40⟩, fun q => absurd q (by decide)⟩⟩, ⟨⟨dX6_takeAll_32, rfl⟩, rfl⟩, ⟨⟨dX6_takeAll_33, rfl⟩, rfl⟩, ⟨⟨dX6_takeAll_34, rfl⟩, Or.inr ⟨by decide, ⟨_, my_77, sX6_120⟩, fun q => absurd q (by decide)⟩⟩, ⟨⟨dX6_takeAll_37, rfl⟩, rfl⟩, ⟨⟨dX6_takeAll_40, rfl⟩, rfl⟩, ⟨⟨dX6_takeAll_41, rfl⟩, Or.inr (Or.inl ⟨rfl, rfl⟩)⟩, ⟨⟨dX6_takeAll_42, rfl⟩, rfl⟩, trivial⟩,
  ⟨⟨⟨dX6_takeAll_43, rfl⟩, rfl⟩, ⟨⟨dX6_takeAll_45, rfl⟩, Or.inr ⟨by decide, ⟨_, my_75, sX6_116⟩, fun q => absurd q (by decide)⟩⟩, ⟨⟨dX6_takeAll_48, rfl⟩, ⟨rfl, rfl⟩⟩, ⟨⟨dX6_takeAll_51, rfl⟩, rfl⟩, ⟨⟨dX6_takeAll_54, rfl⟩, rfl⟩, ⟨⟨dX6_takeAll_55, rfl⟩, Or.inr (Or.inl ⟨rfl, rfl⟩)⟩, trivial⟩, trivial⟩, by decide, Or.inl ⟨rfl, by decide, rfl⟩⟩
set_option maxRecDepth 100000 in
theorem g_X6_takeAll_0 (S : sT) (call : cT) (n : Nat) (a0 : Nat) (x1 : Int32) (h : pH) : bd S call dflT E_X6_takeAll (n + 1) 0 [some (.ref a0), some (.int x1), none] [] h = (rC h (.ref a0) 9 (cI (call 77 [.ref a0, .int x1] h) (fun y2 h1 => (if y2 = 0 then zR 0 (some (.inl (some (.int 0)), h1)) else bd S call dflT E_X6_takeAll n 12 [some (.ref a0), some (.int x1), some (.int 0)] [] h1)))) := rfl
set_option maxRecDepth 100000 in
theorem g_X6_takeAll_12 (S : sT) (call : cT) (n : Nat) (a0 : Nat) (x1 : Int32) (x2 : Int32) (h : pH) : bd S call dflT E_X6_takeAll (n + 1) 12 [some (.ref a0), some (.int x1), some (.int x2)] [] h = ((if 400 ≤ x2 then zR 1 (some (.inl (some (.int 1)), h)) else rC h (.ref a0) 9 (cI (call 69 [.ref a0, .int 34] h) (fun y2 h1 => (if y2 = 0 then zR 1 (some (.inl (some (.int 1)), h1)) else rC h1 (.ref a0) 9 (cU (call 65 [.ref a0] h1) (fun h3 => rC h3 (.ref a0) 9 (cI (call 77 [.ref a0, .int x1] h3) (fun y5 h4 => (if y5 = 0 then zR 0 (some (.inl (some (.int 0)), h4)) else rC h4 (.ref a0) 9 (cU (call 75 [.ref a0, .int (-16)] h4) (fun h6 => bd S call dflT E_X6_takeAll n 12 [some (.ref a0), some (.int x1), some (.int (x2 + 1))] [] h6)))))))))))) := rfl
theorem dX6_takeCondition_0 : decode cX6_takeCondition 0 = .ok (.aload_n 0, 1) := by decide +kernel
theorem dX6_takeCondition_1 : decode cX6_takeCondition 1 = .ok (.iload_n 1, 1) := by decide +kernel
theorem dX6_takeCondition_2 : decode cX6_takeCondition 2 = .ok (.invokevirtual 113, 3) := by decide +kernel
theorem dX6_takeCondition_5 : decode cX6_takeCondition 5 = .ok (.ifCond .ne 5, 3) := by decide +kernel
theorem dX6_takeCondition_8 : decode cX6_takeCondition 8 = .ok (.iconst 0, 1) := by decide +kernel
theorem dX6_takeCondition_9 : decode cX6_takeCondition 9 = .ok (.ireturn, 1) := by decide +kernel
theorem dX6_takeCondition_10 : decode cX6_takeCondition 10 = .ok (.iconst 0, 1) := by decide +kernel
theorem dX6_takeCondition_11 : decode cX6_takeCondition 11 = .ok (.istore_n 2, 1) := by decide +kernel
theorem dX6_takeCondition_12 : decode cX6_takeCondition 12 = .ok (.iload_n 2, 1) := by decide +kernel
theorem dX6_takeCondition_13 : decode cX6_takeCondition 13 = .ok (.sipush 400, 3) := by decide +kernel
theorem dX6_takeCondition_16 : decode cX6_takeCondition 16 = .ok (.if_icmp .ge 38, 3) := by decide +kernel
theorem dX6_takeCondition_19 : decode cX6_takeCondition 19 = .ok (.aload_n 0, 1) := by decide +kernel
theorem dX6_takeCondition_20 : decode cX6_takeCondition 20 = .ok (.bipush 35, 2) := by decide +kernel
theorem dX6_takeCondition_22 : decode cX6_takeCondition 22 = .ok (.invokevirtual 101, 3) := by decide +kernel
theorem dX6_takeCondition_25 : decode cX6_takeCondition 25 = .ok (.ifCond .eq 29, 3) := by decide +kernel
theorem dX6_takeCondition_28 : decode cX6_takeCondition 28 = .ok (.aload_n 0, 1) := by decide +kernel
theorem dX6_takeCondition_29 : decode cX6_takeCondition 29 = .ok (.invokevirtual 40, 3) := by decide +kernel
theorem dX6_takeCondition_32 : decode cX6_takeCondition 32 = .ok (.aload_n 0, 1) := by decide +kernel
theorem dX6_takeCondition_33 : decode cX6_takeCondition 33 = .ok (.iload_n 1, 1) := by decide +kernel
theorem dX6_takeCondition_34 : decode cX6_takeCondition 34 = .ok (.invokevirtual 113, 3) := by decide +kernel
theorem dX6_takeCondition_37 : decode cX6_takeCondition 37 = .ok (.ifCond .ne 5, 3) := by decide +kernel
theorem dX6_takeCondition_40 : decode cX6_takeCondition 40 = .ok (.iconst 0, 1) := by decide +kernel
theorem dX6_takeCondition_41 : decode cX6_takeCondition 41 = .ok (.ireturn, 1) := by decide +kernel
theorem dX6_takeCondition_42 : decode cX6_takeCondition 42 = .ok (.aload_n 0, 1) := by decide +kernel
theorem dX6_takeCondition_43 : decode cX6_takeCondition 43 = .ok (.bipush (-17), 2) := by decide +kernel
theorem dX6_takeCondition_45 : decode cX6_takeCondition 45 = .ok (.invokevirtual 116, 3) := by decide +kernel
theorem dX6_takeCondition_48 : decode cX6_takeCondition 48 = .ok (.iinc 2 1, 3) := by decide +kernel
theorem dX6_takeCondition_51 : decode cX6_takeCondition 51 = .ok (.goto (-39), 3) := by decide +kernel
theorem dX6_takeCondition_54 : decode cX6_takeCondition 54 = .ok (.iconst 1, 1) := by decide +kernel
theorem dX6_takeCondition_55 : decode cX6_takeCondition 55 = .ok (.ireturn, 1) := by decide +kernel
noncomputable def E_X6_takeCondition : mE := (mX6_takeCondition, [(42, [(0, (.aload_n 0, 1, false, false, 0, 0, 0, 0, 0, 0, [])), (1, (.iload_n 1, 2, false, false, 1, 0, 0, 0, 0, 0, [])), (2, (.invokevirtual 113, 5, false, false, 78, 1, 1, 9, 0, 0, [])), (5, (.ifCond .ne 5, 8, false, false, 10, 0, 0, 0, 0, 0, [])), (8, (.iconst 0, 9, false, false, 0, 0, 0, 0, 0, 0, [])), (9, (.ireturn, 10, false, false, 0, 0, 1, 0, 0, 0, [])), (10, (.iconst 0, 11, false, false, 0, 0, 0, 0, 0, 0, [])), (11, (.istore_n 2, 12, true, false, 2, 0, 0, 0, 0, 0, [])), (12, (.iload_n 2, 13, false, false, 2, 0, 0, 0, 0, 0, [])), (13, (.sipush 400, 16, false, false, 0, 0, 0, 0, 400, 0, [])), (16, (.if_icmp .ge 38, 19, false, false, 54, 0, 0, 0, 0, 0, [])), (19, (.aload_n 0, 20, false, false, 0, 0, 0, 0, 0, 0, [])), (20, (.bipush 35, 22, false, false, 0, 0, 0, 0, 35, 0, [])), (22, (.invokevirtual 101, 25, false, false, 69, 1, 1, 9, 0, 0, [])), (25, (.ifCond .eq 29, 28, false, false, 54, 0, 0, 0, 0, 0, [])), (28, (.aload_n 0, 29, false, false, 0, 0, 0, 0, 0, 0, [])), (29, (.invokevirtual 40, 32, false, false, 65, 0, 0, 9, 0, 0, [])), (32, (.aload_n 0, 33, false, false, 0, 0, 0, 0, 0, 0, [])), (33, (.iload_n 1, 34, false, false, 1, 0, 0, 0, 0, 0, [])), (34, (.invokevirtual 113, 37, false, false, 78, 1, 1, 9, 0, 0, [])), (37, (.ifCond .ne 5, 40, false, false, 42, 0, 0, 0, 0, 0, [])), (40, (.iconst 0, 41, false, false, 0, 0, 0, 0, 0, 0, [])), (41, (.ireturn, 42, false, false, 0, 0, 1, 0, 0, 0, [])), (42, (.aload_n 0, 43, false, false, 0, 0, 0, 0, 0, 0, []))]),
  (55, [(43, (.bipush (-17), 45, false, false, 0, 0, 0, 0, -17, 0, [])), (45, (.invokevirtual 116, 48, false, false, 75, 1, 0, 9, 0, 0, [])), (48, (.iinc 2 1, 51, false, false, 2, 0, 0, 0, 1, 0, [])), (51, (.goto (-39), 54, false, true, 12, 0, 0, 0, 0, 0, [])), (54, (.iconst 1, 55, false, false, 0, 0, 0, 0, 1, 0, [])), (55, (.ireturn, 56, false, false, 0, 0, 1, 0, 0, 0, []))])], 0, [])
set_option maxRecDepth 100000 in
theorem v_X6_takeCondition : VE MYT dflT E_X6_takeCondition := ⟨⟨⟨⟨⟨dX6_takeCondition_0, rfl⟩, rfl⟩, ⟨⟨dX6_takeCondition_1, rfl⟩, rfl⟩, ⟨⟨dX6_takeCondition_2, rfl⟩, Or.inr ⟨by decide, ⟨_, my_78, sX6_113⟩, fun q => absurd q (by decide)⟩⟩, ⟨⟨dX6_takeCondition_5, rfl⟩, rfl⟩, ⟨⟨dX6_takeCondition_8, rfl⟩, rfl⟩, ⟨⟨dX6_takeCondition_9, rfl⟩, Or.inr (Or.inl ⟨rfl, rfl⟩)⟩, ⟨⟨dX6_takeCondition_10, rfl⟩, rfl⟩, ⟨⟨dX6_takeCondition_11, rfl⟩, rfl⟩, ⟨⟨dX6_takeCondition_12, rfl⟩, rfl⟩, ⟨⟨dX6_takeCondition_13, rfl⟩, rfl⟩, ⟨⟨dX6_takeCondition_16, rfl⟩, rfl⟩, ⟨⟨dX6_takeCondition_19, rfl⟩, rfl⟩, ⟨⟨dX6_takeCondition_20, rfl⟩, rfl⟩, ⟨⟨dX6_takeCondition_22, rfl⟩, Or.inr ⟨by decide, ⟨_, my_69, sX6_101⟩, fun q => absurd q (by decide)⟩⟩, ⟨⟨dX6_takeCondition_25, rfl⟩, rfl⟩, ⟨⟨dX6_takeCondition_28, rfl⟩, rfl⟩, ⟨⟨dX6_takeCondition_29, rfl⟩, Or.inr ⟨by decide, ⟨_, my_65, sX6_40⟩, fun q => absurd q (by decide)⟩⟩, ⟨⟨dX6_takeCondition_32, rfl⟩, rfl⟩, ⟨⟨dX6_takeCondition_33, rfl⟩, rfl⟩, ⟨⟨dX6_takeCondition_34, rfl⟩, Or.inr ⟨by decide, ⟨_, my_78, sX6_113⟩, fun q => absurd q (by decide)⟩⟩, ⟨⟨dX6_takeCondition_37, rfl⟩, rfl⟩, ⟨⟨dX6_takeCondition_40, rfl⟩, rfl⟩, ⟨⟨dX6_takeCondition_41, rfl⟩, Or.inr (Or.inl ⟨rfl, rfl⟩)⟩, ⟨⟨dX6_takeCondition_42, rfl⟩, rfl⟩, trivial⟩,
  ⟨⟨⟨dX6_takeCondition_43, rfl⟩, rfl⟩, ⟨⟨dX6_takeCondition_45, rfl⟩, Or.inr ⟨by decide, ⟨_, my_75, sX6_116⟩, fun q => absurd q (by decide)⟩⟩, ⟨⟨dX6_takeCondition_48, rfl⟩, ⟨rfl, rfl⟩⟩, ⟨⟨dX6_takeCondition_51, rfl⟩, rfl⟩, ⟨⟨dX6_takeCondition_54, rfl⟩, rfl⟩, ⟨⟨dX6_takeCondition_55, rfl⟩, Or.inr (Or.inl ⟨rfl, rfl⟩)⟩, trivial⟩, trivial⟩, by decide, Or.inl ⟨rfl, by decide, rfl⟩⟩
set_option maxRecDepth 100000 in
theorem g_X6_takeCondition_0 (S : sT) (call : cT) (n : Nat) (a0 : Nat) (x1 : Int32) (h : pH) : bd S call dflT E_X6_takeCondition (n + 1) 0 [some (.ref a0), some (.int x1), none] [] h = (rC h (.ref a0) 9 (cI (call 78 [.ref a0, .int x1] h) (fun y2 h1 => (if y2 = 0 then zR 0 (some (.inl (some (.int 0)), h1)) else bd S call dflT E_X6_takeCondition n 12 [some (.ref a0), some (.int x1), some (.int 0)] [] h1)))) := rfl
set_option maxRecDepth 100000 in
theorem g_X6_takeCondition_12 (S : sT) (call : cT) (n : Nat) (a0 : Nat) (x1 : Int32) (x2 : Int32) (h : pH) : bd S call dflT E_X6_takeCondition (n + 1) 12 [some (.ref a0), some (.int x1), some (.int x2)] [] h = ((if 400 ≤ x2 then zR 1 (some (.inl (some (.int 1)), h)) else rC h (.ref a0) 9 (cI (call 69 [.ref a0, .int 35] h) (fun y2 h1 => (if y2 = 0 then zR 1 (some (.inl (some (.int 1)), h1)) else rC h1 (.ref a0) 9 (cU (call 65 [.ref a0] h1) (fun h3 => rC h3 (.ref a0) 9 (cI (call 78 [.ref a0, .int x1] h3) (fun y5 h4 => (if y5 = 0 then zR 0 (some (.inl (some (.int 0)), h4)) else rC h4 (.ref a0) 9 (cU (call 75 [.ref a0, .int (-17)] h4) (fun h6 => bd S call dflT E_X6_takeCondition n 12 [some (.ref a0), some (.int x1), some (.int (x2 + 1))] [] h6)))))))))))) := rfl
theorem dX6_takeIf_0 : decode cX6_takeIf 0 = .ok (.aload_n 0, 1) := by decide +kernel
theorem dX6_takeIf_1 : decode cX6_takeIf 1 = .ok (.bipush 31, 2) := by decide +kernel
theorem dX6_takeIf_3 : decode cX6_takeIf 3 = .ok (.invokevirtual 101, 3) := by decide +kernel
theorem dX6_takeIf_6 : decode cX6_takeIf 6 = .ok (.ifCond .ne 5, 3) := by decide +kernel
theorem dX6_takeIf_9 : decode cX6_takeIf 9 = .ok (.iconst 1, 1) := by decide +kernel
theorem dX6_takeIf_10 : decode cX6_takeIf 10 = .ok (.ireturn, 1) := by decide +kernel
theorem dX6_takeIf_11 : decode cX6_takeIf 11 = .ok (.aload_n 0, 1) := by decide +kernel
theorem dX6_takeIf_12 : decode cX6_takeIf 12 = .ok (.invokevirtual 40, 3) := by decide +kernel
theorem dX6_takeIf_15 : decode cX6_takeIf 15 = .ok (.aload_n 0, 1) := by decide +kernel
theorem dX6_takeIf_16 : decode cX6_takeIf 16 = .ok (.iconst 0, 1) := by decide +kernel
theorem dX6_takeIf_17 : decode cX6_takeIf 17 = .ok (.invokevirtual 110, 3) := by decide +kernel
theorem dX6_takeIf_20 : decode cX6_takeIf 20 = .ok (.ireturn, 1) := by decide +kernel
noncomputable def E_X6_takeIf : mE := (mX6_takeIf, [(20, [(0, (.aload_n 0, 1, false, false, 0, 0, 0, 0, 0, 0, [])), (1, (.bipush 31, 3, false, false, 0, 0, 0, 0, 31, 0, [])), (3, (.invokevirtual 101, 6, false, false, 69, 1, 1, 9, 0, 0, [])), (6, (.ifCond .ne 5, 9, false, false, 11, 0, 0, 0, 0, 0, [])), (9, (.iconst 1, 10, false, false, 0, 0, 0, 0, 1, 0, [])), (10, (.ireturn, 11, false, false, 0, 0, 1, 0, 0, 0, [])), (11, (.aload_n 0, 12, false, false, 0, 0, 0, 0, 0, 0, [])), (12, (.invokevirtual 40, 15, false, false, 65, 0, 0, 9, 0, 0, [])), (15, (.aload_n 0, 16, false, false, 0, 0, 0, 0, 0, 0, [])), (16, (.iconst 0, 17, false, false, 0, 0, 0, 0, 0, 0, [])), (17, (.invokevirtual 110, 20, false, false, 79, 1, 1, 9, 0, 0, [])), (20, (.ireturn, 21, false, false, 0, 0, 1, 0, 0, 0, []))])], 0, [])
set_option maxRecDepth 100000 in
theorem v_X6_takeIf : VE MYT dflT E_X6_takeIf := ⟨⟨⟨⟨⟨dX6_takeIf_0, rfl⟩, rfl⟩, ⟨⟨dX6_takeIf_1, rfl⟩, rfl⟩, ⟨⟨dX6_takeIf_3, rfl⟩, Or.inr ⟨by decide, ⟨_, my_69, sX6_101⟩, fun q => absurd q (by decide)⟩⟩, ⟨⟨dX6_takeIf_6, rfl⟩, rfl⟩, ⟨⟨dX6_takeIf_9, rfl⟩, rfl⟩, ⟨⟨dX6_takeIf_10, rfl⟩, Or.inr (Or.inl ⟨rfl, rfl⟩)⟩, ⟨⟨dX6_takeIf_11, rfl⟩, rfl⟩, ⟨⟨dX6_takeIf_12, rfl⟩, Or.inr ⟨by decide, ⟨_, my_65, sX6_40⟩, fun q => absurd q (by decide)⟩⟩, ⟨⟨dX6_takeIf_15, rfl⟩, rfl⟩, ⟨⟨dX6_takeIf_16, rfl⟩, rfl⟩, ⟨⟨dX6_takeIf_17, rfl⟩, Or.inr ⟨by decide, ⟨_, my_79, sX6_110⟩, fun q => absurd q (by decide)⟩⟩, ⟨⟨dX6_takeIf_20, rfl⟩, Or.inr (Or.inl ⟨rfl, rfl⟩)⟩, trivial⟩, trivial⟩, by decide, Or.inl ⟨rfl, by decide, rfl⟩⟩
set_option maxRecDepth 100000 in
theorem g_X6_takeIf_0 (S : sT) (call : cT) (n : Nat) (a0 : Nat) (h : pH) : bd S call dflT E_X6_takeIf (n + 1) 0 [some (.ref a0)] [] h = (rC h (.ref a0) 9 (cI (call 69 [.ref a0, .int 31] h) (fun y2 h1 => (if y2 = 0 then zR 1 (some (.inl (some (.int 1)), h1)) else rC h1 (.ref a0) 9 (cU (call 65 [.ref a0] h1) (fun h3 => rC h3 (.ref a0) 9 (cI (call 79 [.ref a0, .int 0] h3) (fun y5 h4 => zR y5 (some (.inl (some (.int y5)), h4)))))))))) := rfl
theorem dX6_takeRestOfLease_0 : decode cX6_takeRestOfLease 0 = .ok (.aload_n 0, 1) := by decide +kernel
theorem dX6_takeRestOfLease_1 : decode cX6_takeRestOfLease 1 = .ok (.getfield 84, 3) := by decide +kernel
theorem dX6_takeRestOfLease_4 : decode cX6_takeRestOfLease 4 = .ok (.tableswitch 167 25 30 #[40, 72, 103, 167, 129, 160], 40) := by decide +kernel
theorem dX6_takeRestOfLease_44 : decode cX6_takeRestOfLease 44 = .ok (.aload_n 0, 1) := by decide +kernel
theorem dX6_takeRestOfLease_45 : decode cX6_takeRestOfLease 45 = .ok (.ldc 87, 2) := by decide +kernel
theorem dX6_takeRestOfLease_47 : decode cX6_takeRestOfLease 47 = .ok (.invokevirtual 88, 3) := by decide +kernel
theorem dX6_takeRestOfLease_50 : decode cX6_takeRestOfLease 50 = .ok (.ifCond .eq 24, 3) := by decide +kernel
theorem dX6_takeRestOfLease_53 : decode cX6_takeRestOfLease 53 = .ok (.aload_n 0, 1) := by decide +kernel
theorem dX6_takeRestOfLease_54 : decode cX6_takeRestOfLease 54 = .ok (.bipush 32, 2) := by decide +kernel
theorem dX6_takeRestOfLease_56 : decode cX6_takeRestOfLease 56 = .ok (.invokevirtual 91, 3) := by decide +kernel
theorem dX6_takeRestOfLease_59 : decode cX6_takeRestOfLease 59 = .ok (.ifCond .eq 15, 3) := by decide +kernel
theorem dX6_takeRestOfLease_62 : decode cX6_takeRestOfLease 62 = .ok (.aload_n 0, 1) := by decide +kernel
theorem dX6_takeRestOfLease_63 : decode cX6_takeRestOfLease 63 = .ok (.iconst 2, 1) := by decide +kernel
theorem dX6_takeRestOfLease_64 : decode cX6_takeRestOfLease 64 = .ok (.invokevirtual 94, 3) := by decide +kernel
theorem dX6_takeRestOfLease_67 : decode cX6_takeRestOfLease 67 = .ok (.ifCond .eq 7, 3) := by decide +kernel
theorem dX6_takeRestOfLease_70 : decode cX6_takeRestOfLease 70 = .ok (.iconst 1, 1) := by decide +kernel
theorem dX6_takeRestOfLease_71 : decode cX6_takeRestOfLease 71 = .ok (.goto 4, 3) := by decide +kernel
theorem dX6_takeRestOfLease_74 : decode cX6_takeRestOfLease 74 = .ok (.iconst 0, 1) := by decide +kernel
theorem dX6_takeRestOfLease_75 : decode cX6_takeRestOfLease 75 = .ok (.ireturn, 1) := by decide +kernel
theorem dX6_takeRestOfLease_76 : decode cX6_takeRestOfLease 76 = .ok (.aload_n 0, 1) := by decide +kernel
theorem dX6_takeRestOfLease_77 : decode cX6_takeRestOfLease 77 = .ok (.iconst 2, 1) := by decide +kernel
theorem dX6_takeRestOfLease_78 : decode cX6_takeRestOfLease 78 = .ok (.invokevirtual 94, 3) := by decide +kernel
theorem dX6_takeRestOfLease_81 : decode cX6_takeRestOfLease 81 = .ok (.ifCond .eq 24, 3) := by decide +kernel
theorem dX6_takeRestOfLease_84 : decode cX6_takeRestOfLease 84 = .ok (.aload_n 0, 1) := by decide +kernel
theorem dX6_takeRestOfLease_85 : decode cX6_takeRestOfLease 85 = .ok (.bipush 33, 2) := by decide +kernel
theorem dX6_takeRestOfLease_87 : decode cX6_takeRestOfLease 87 = .ok (.invokevirtual 91, 3) := by decide +kernel
theorem dX6_takeRestOfLease_90 : decode cX6_takeRestOfLease 90 = .ok (.ifCond .eq 15, 3) := by decide +kernel
theorem dX6_takeRestOfLease_93 : decode cX6_takeRestOfLease 93 = .ok (.aload_n 0, 1) := by decide +kernel
theorem dX6_takeRestOfLease_94 : decode cX6_takeRestOfLease 94 = .ok (.iconst 3, 1) := by decide +kernel
theorem dX6_takeRestOfLease_95 : decode cX6_takeRestOfLease 95 = .ok (.invokevirtual 94, 3) := by decide +kernel
theorem dX6_takeRestOfLease_98 : decode cX6_takeRestOfLease 98 = .ok (.ifCond .eq 7, 3) := by decide +kernel
theorem dX6_takeRestOfLease_101 : decode cX6_takeRestOfLease 101 = .ok (.iconst 1, 1) := by decide +kernel
theorem dX6_takeRestOfLease_102 : decode cX6_takeRestOfLease 102 = .ok (.goto 4, 3) := by decide +kernel
theorem dX6_takeRestOfLease_105 : decode cX6_takeRestOfLease 105 = .ok (.iconst 0, 1) := by decide +kernel
theorem dX6_takeRestOfLease_106 : decode cX6_takeRestOfLease 106 = .ok (.ireturn, 1) := by decide +kernel
theorem dX6_takeRestOfLease_107 : decode cX6_takeRestOfLease 107 = .ok (.aload_n 0, 1) := by decide +kernel
theorem dX6_takeRestOfLease_108 : decode cX6_takeRestOfLease 108 = .ok (.bipush 12, 2) := by decide +kernel
theorem dX6_takeRestOfLease_110 : decode cX6_takeRestOfLease 110 = .ok (.bipush 13, 2) := by decide +kernel
theorem dX6_takeRestOfLease_112 : decode cX6_takeRestOfLease 112 = .ok (.invokevirtual 97, 3) := by decide +kernel
theorem dX6_takeRestOfLease_115 : decode cX6_takeRestOfLease 115 = .ok (.ifCond .eq 16, 3) := by decide +kernel
theorem dX6_takeRestOfLease_118 : decode cX6_takeRestOfLease 118 = .ok (.aload_n 0, 1) := by decide +kernel
theorem dX6_takeRestOfLease_119 : decode cX6_takeRestOfLease 119 = .ok (.ldc 87, 2) := by decide +kernel
theorem dX6_takeRestOfLease_121 : decode cX6_takeRestOfLease 121 = .ok (.invokevirtual 88, 3) := by decide +kernel
theorem dX6_takeRestOfLease_124 : decode cX6_takeRestOfLease 124 = .ok (.ifCond .eq 7, 3) := by decide +kernel
theorem dX6_takeRestOfLease_127 : decode cX6_takeRestOfLease 127 = .ok (.iconst 1, 1) := by decide +kernel
theorem dX6_takeRestOfLease_128 : decode cX6_takeRestOfLease 128 = .ok (.goto 4, 3) := by decide +kernel
theorem dX6_takeRestOfLease_131 : decode cX6_takeRestOfLease 131 = .ok (.iconst 0, 1) := by decide +kernel
theorem dX6_takeRestOfLease_132 : decode cX6_takeRestOfLease 132 = .ok (.ireturn, 1) := by decide +kernel
theorem dX6_takeRestOfLease_133 : decode cX6_takeRestOfLease 133 = .ok (.aload_n 0, 1) := by decide +kernel
theorem dX6_takeRestOfLease_134 : decode cX6_takeRestOfLease 134 = .ok (.bipush 100, 2) := by decide +kernel
theorem dX6_takeRestOfLease_136 : decode cX6_takeRestOfLease 136 = .ok (.invokevirtual 88, 3) := by decide +kernel
theorem dX6_takeRestOfLease_139 : decode cX6_takeRestOfLease 139 = .ok (.ifCond .eq 23, 3) := by decide +kernel
theorem dX6_takeRestOfLease_142 : decode cX6_takeRestOfLease 142 = .ok (.aload_n 0, 1) := by decide +kernel
theorem dX6_takeRestOfLease_143 : decode cX6_takeRestOfLease 143 = .ok (.bipush 31, 2) := by decide +kernel
theorem dX6_takeRestOfLease_145 : decode cX6_takeRestOfLease 145 = .ok (.invokevirtual 101, 3) := by decide +kernel
theorem dX6_takeRestOfLease_148 : decode cX6_takeRestOfLease 148 = .ok (.ifCond .eq 14, 3) := by decide +kernel
theorem dX6_takeRestOfLease_151 : decode cX6_takeRestOfLease 151 = .ok (.aload_n 0, 1) := by decide +kernel
theorem dX6_takeRestOfLease_152 : decode cX6_takeRestOfLease 152 = .ok (.invokevirtual 104, 3) := by decide +kernel
theorem dX6_takeRestOfLease_155 : decode cX6_takeRestOfLease 155 = .ok (.ifCond .eq 7, 3) := by decide +kernel
theorem dX6_takeRestOfLease_158 : decode cX6_takeRestOfLease 158 = .ok (.iconst 1, 1) := by decide +kernel
theorem dX6_takeRestOfLease_159 : decode cX6_takeRestOfLease 159 = .ok (.goto 4, 3) := by decide +kernel
theorem dX6_takeRestOfLease_162 : decode cX6_takeRestOfLease 162 = .ok (.iconst 0, 1) := by decide +kernel
theorem dX6_takeRestOfLease_163 : decode cX6_takeRestOfLease 163 = .ok (.ireturn, 1) := by decide +kernel
theorem dX6_takeRestOfLease_164 : decode cX6_takeRestOfLease 164 = .ok (.aload_n 0, 1) := by decide +kernel
theorem dX6_takeRestOfLease_165 : decode cX6_takeRestOfLease 165 = .ok (.bipush 100, 2) := by decide +kernel
theorem dX6_takeRestOfLease_167 : decode cX6_takeRestOfLease 167 = .ok (.invokevirtual 88, 3) := by decide +kernel
theorem dX6_takeRestOfLease_170 : decode cX6_takeRestOfLease 170 = .ok (.ireturn, 1) := by decide +kernel
theorem dX6_takeRestOfLease_171 : decode cX6_takeRestOfLease 171 = .ok (.aload_n 0, 1) := by decide +kernel
theorem dX6_takeRestOfLease_172 : decode cX6_takeRestOfLease 172 = .ok (.ldc 87, 2) := by decide +kernel
theorem dX6_takeRestOfLease_174 : decode cX6_takeRestOfLease 174 = .ok (.invokevirtual 88, 3) := by decide +kernel
theorem dX6_takeRestOfLease_177 : decode cX6_takeRestOfLease 177 = .ok (.ifCond .eq 14, 3) := by decide +kernel
theorem dX6_takeRestOfLease_180 : decode cX6_takeRestOfLease 180 = .ok (.aload_n 0, 1) := by decide +kernel
theorem dX6_takeRestOfLease_181 : decode cX6_takeRestOfLease 181 = .ok (.invokevirtual 104, 3) := by decide +kernel
theorem dX6_takeRestOfLease_184 : decode cX6_takeRestOfLease 184 = .ok (.ifCond .eq 7, 3) := by decide +kernel
theorem dX6_takeRestOfLease_187 : decode cX6_takeRestOfLease 187 = .ok (.iconst 1, 1) := by decide +kernel
theorem dX6_takeRestOfLease_188 : decode cX6_takeRestOfLease 188 = .ok (.goto 4, 3) := by decide +kernel
theorem dX6_takeRestOfLease_191 : decode cX6_takeRestOfLease 191 = .ok (.iconst 0, 1) := by decide +kernel
theorem dX6_takeRestOfLease_192 : decode cX6_takeRestOfLease 192 = .ok (.ireturn, 1) := by decide +kernel
noncomputable def E_X6_takeRestOfLease : mE := (mX6_takeRestOfLease, [(84, [(0, (.aload_n 0, 1, false, false, 0, 0, 0, 0, 0, 0, [])), (1, (.getfield 84, 4, false, false, 9, 11, 0, 0, 0, 0, [])), (4, (.tableswitch 167 25 30 #[40, 72, 103, 167, 129, 160], 0, false, false, 171, 0, 0, 0, 0, 0, [(25, 44), (26, 76), (27, 107), (28, 171), (29, 133), (30, 164)])), (44, (.aload_n 0, 45, false, false, 0, 0, 0, 0, 0, 0, [])), (45, (.ldc 87, 47, false, false, 0, 0, 0, 0, 999999, 0, [])), (47, (.invokevirtual 88, 50, false, false, 68, 1, 1, 9, 0, 0, [])), (50, (.ifCond .eq 24, 53, false, false, 74, 0, 0, 0, 0, 0, [])), (53, (.aload_n 0, 54, false, false, 0, 0, 0, 0, 0, 0, [])), (54, (.bipush 32, 56, false, false, 0, 0, 0, 0, 32, 0, [])), (56, (.invokevirtual 91, 59, false, false, 70, 1, 1, 9, 0, 0, [])), (59, (.ifCond .eq 15, 62, false, false, 74, 0, 0, 0, 0, 0, [])), (62, (.aload_n 0, 63, false, false, 0, 0, 0, 0, 0, 0, [])), (63, (.iconst 2, 64, false, false, 0, 0, 0, 0, 2, 0, [])), (64, (.invokevirtual 94, 67, false, false, 71, 1, 1, 9, 0, 0, [])), (67, (.ifCond .eq 7, 70, false, false, 74, 0, 0, 0, 0, 0, [])), (70, (.iconst 1, 71, false, false, 0, 0, 0, 0, 1, 0, [])), (71, (.goto 4, 74, false, false, 75, 0, 0, 0, 0, 0, [])), (74, (.iconst 0, 75, false, false, 0, 0, 0, 0, 0, 0, [])), (75, (.ireturn, 76, false, false, 0, 0, 1, 0, 0, 0, [])), (76, (.aload_n 0, 77, false, false, 0, 0, 0, 0, 0, 0, [])), (77, (.iconst 2, 78, false, false, 0, 0, 0, 0, 2, 0, [])), (78, (.invokevirtual 94, 81, false, false, 71, 1, 1, 9, 0, 0, [])), (81, (.ifCond .eq 24, 84, false, false, 105, 0, 0, 0, 0, 0, [])), (84, (.aload_n 0, 85, false, false, 0, 0, 0, 0, 0, 0, []))]),
  (132, [(85, (.bipush 33, 87, false, false, 0, 0, 0, 0, 33, 0, [])), (87, (.invokevirtual 91, 90, false, false, 70, 1, 1, 9, 0, 0, [])), (90, (.ifCond .eq 15, 93, false, false, 105, 0, 0, 0, 0, 0, [])), (93, (.aload_n 0, 94, false, false, 0, 0, 0, 0, 0, 0, [])), (94, (.iconst 3, 95, false, false, 0, 0, 0, 0, 3, 0, [])), (95, (.invokevirtual 94, 98, false, false, 71, 1, 1, 9, 0, 0, [])), (98, (.ifCond .eq 7, 101, false, false, 105, 0, 0, 0, 0, 0, [])), (101, (.iconst 1, 102, false, false, 0, 0, 0, 0, 1, 0, [])), (102, (.goto 4, 105, false, false, 106, 0, 0, 0, 0, 0, [])), (105, (.iconst 0, 106, false, false, 0, 0, 0, 0, 0, 0, [])), (106, (.ireturn, 107, false, false, 0, 0, 1, 0, 0, 0, [])), (107, (.aload_n 0, 108, false, false, 0, 0, 0, 0, 0, 0, [])), (108, (.bipush 12, 110, false, false, 0, 0, 0, 0, 12, 0, [])), (110, (.bipush 13, 112, false, false, 0, 0, 0, 0, 13, 0, [])), (112, (.invokevirtual 97, 115, false, false, 72, 2, 1, 9, 0, 0, [])), (115, (.ifCond .eq 16, 118, false, false, 131, 0, 0, 0, 0, 0, [])), (118, (.aload_n 0, 119, false, false, 0, 0, 0, 0, 0, 0, [])), (119, (.ldc 87, 121, false, false, 0, 0, 0, 0, 999999, 0, [])), (121, (.invokevirtual 88, 124, false, false, 68, 1, 1, 9, 0, 0, [])), (124, (.ifCond .eq 7, 127, false, false, 131, 0, 0, 0, 0, 0, [])), (127, (.iconst 1, 128, false, false, 0, 0, 0, 0, 1, 0, [])), (128, (.goto 4, 131, false, false, 132, 0, 0, 0, 0, 0, [])), (131, (.iconst 0, 132, false, false, 0, 0, 0, 0, 0, 0, [])), (132, (.ireturn, 133, false, false, 0, 0, 1, 0, 0, 0, []))]),
  (180, [(133, (.aload_n 0, 134, false, false, 0, 0, 0, 0, 0, 0, [])), (134, (.bipush 100, 136, false, false, 0, 0, 0, 0, 100, 0, [])), (136, (.invokevirtual 88, 139, false, false, 68, 1, 1, 9, 0, 0, [])), (139, (.ifCond .eq 23, 142, false, false, 162, 0, 0, 0, 0, 0, [])), (142, (.aload_n 0, 143, false, false, 0, 0, 0, 0, 0, 0, [])), (143, (.bipush 31, 145, false, false, 0, 0, 0, 0, 31, 0, [])), (145, (.invokevirtual 101, 148, false, false, 69, 1, 1, 9, 0, 0, [])), (148, (.ifCond .eq 14, 151, false, false, 162, 0, 0, 0, 0, 0, [])), (151, (.aload_n 0, 152, false, false, 0, 0, 0, 0, 0, 0, [])), (152, (.invokevirtual 104, 155, false, false, 80, 0, 1, 9, 0, 0, [])), (155, (.ifCond .eq 7, 158, false, false, 162, 0, 0, 0, 0, 0, [])), (158, (.iconst 1, 159, false, false, 0, 0, 0, 0, 1, 0, [])), (159, (.goto 4, 162, false, false, 163, 0, 0, 0, 0, 0, [])), (162, (.iconst 0, 163, false, false, 0, 0, 0, 0, 0, 0, [])), (163, (.ireturn, 164, false, false, 0, 0, 1, 0, 0, 0, [])), (164, (.aload_n 0, 165, false, false, 0, 0, 0, 0, 0, 0, [])), (165, (.bipush 100, 167, false, false, 0, 0, 0, 0, 100, 0, [])), (167, (.invokevirtual 88, 170, false, false, 68, 1, 1, 9, 0, 0, [])), (170, (.ireturn, 171, false, false, 0, 0, 1, 0, 0, 0, [])), (171, (.aload_n 0, 172, false, false, 0, 0, 0, 0, 0, 0, [])), (172, (.ldc 87, 174, false, false, 0, 0, 0, 0, 999999, 0, [])), (174, (.invokevirtual 88, 177, false, false, 68, 1, 1, 9, 0, 0, [])), (177, (.ifCond .eq 14, 180, false, false, 191, 0, 0, 0, 0, 0, [])), (180, (.aload_n 0, 181, false, false, 0, 0, 0, 0, 0, 0, []))]),
  (192, [(181, (.invokevirtual 104, 184, false, false, 80, 0, 1, 9, 0, 0, [])), (184, (.ifCond .eq 7, 187, false, false, 191, 0, 0, 0, 0, 0, [])), (187, (.iconst 1, 188, false, false, 0, 0, 0, 0, 1, 0, [])), (188, (.goto 4, 191, false, false, 192, 0, 0, 0, 0, 0, [])), (191, (.iconst 0, 192, false, false, 0, 0, 0, 0, 0, 0, [])), (192, (.ireturn, 193, false, false, 0, 0, 1, 0, 0, 0, []))])], 0, [])
set_option maxRecDepth 100000 in
theorem v_X6_takeRestOfLease : VE MYT dflT E_X6_takeRestOfLease := ⟨⟨⟨⟨⟨dX6_takeRestOfLease_0, rfl⟩, rfl⟩, ⟨⟨dX6_takeRestOfLease_1, rfl⟩, Or.inl ⟨by decide, _, _, fX6_84⟩⟩, ⟨⟨_, dX6_takeRestOfLease_4⟩, ⟨rfl, rfl, rfl, rfl, rfl, rfl, rfl, rfl, rfl, rfl, rfl, rfl, rfl, rfl, trivial⟩⟩, ⟨⟨dX6_takeRestOfLease_44, rfl⟩, rfl⟩, ⟨⟨dX6_takeRestOfLease_45, rfl⟩, Or.inl ⟨rfl, kX6_87⟩⟩, ⟨⟨dX6_takeRestOfLease_47, rfl⟩, Or.inr ⟨by decide, ⟨_, my_68, sX6_88⟩, fun q => absurd q (by decide)⟩⟩, ⟨⟨dX6_takeRestOfLease_50, rfl⟩, rfl⟩, ⟨⟨dX6_takeRestOfLease_53, rfl⟩, rfl⟩, ⟨⟨dX6_takeRestOfLease_54, rfl⟩, rfl⟩, ⟨⟨dX6_takeRestOfLease_56, rfl⟩, Or.inr ⟨by decide, ⟨_, my_70, sX6_91⟩, fun q => absurd q (by decide)⟩⟩, ⟨⟨dX6_takeRestOfLease_59, rfl⟩, rfl⟩, ⟨⟨dX6_takeRestOfLease_62, rfl⟩, rfl⟩, ⟨⟨dX6_takeRestOfLease_63, rfl⟩, rfl⟩, ⟨⟨dX6_takeRestOfLease_64, rfl⟩, Or.inr ⟨by decide, ⟨_, my_71, sX6_94⟩, fun q => absurd q (by decide)⟩⟩, ⟨⟨dX6_takeRestOfLease_67, rfl⟩, rfl⟩, ⟨⟨dX6_takeRestOfLease_70, rfl⟩, rfl⟩, ⟨⟨dX6_takeRestOfLease_71, rfl⟩, rfl⟩, ⟨⟨dX6_takeRestOfLease_74, rfl⟩, rfl⟩, ⟨⟨dX6_takeRestOfLease_75, rfl⟩, Or.inr (Or.inl ⟨rfl, rfl⟩)⟩, ⟨⟨dX6_takeRestOfLease_76, rfl⟩, rfl⟩, ⟨⟨dX6_takeRestOfLease_77, rfl⟩, rfl⟩, ⟨⟨dX6_takeRestOfLease_78, rfl⟩, Or.inr ⟨by decide, ⟨_, my_71, sX6_94⟩, fun q => absurd q (by decide)⟩⟩, ⟨⟨dX6_takeRestOfLease_81, rfl⟩, rfl⟩, ⟨⟨dX6_takeRestOfLease_84, rfl⟩, rfl⟩, trivial⟩,
  ⟨⟨⟨dX6_takeRestOfLease_85, rfl⟩, rfl⟩, ⟨⟨dX6_takeRestOfLease_87, rfl⟩, Or.inr ⟨by decide, ⟨_, my_70, sX6_91⟩, fun q => absurd q (by decide)⟩⟩, ⟨⟨dX6_takeRestOfLease_90, rfl⟩, rfl⟩, ⟨⟨dX6_takeRestOfLease_93, rfl⟩, rfl⟩, ⟨⟨dX6_takeRestOfLease_94, rfl⟩, rfl⟩, ⟨⟨dX6_takeRestOfLease_95, rfl⟩, Or.inr ⟨by decide, ⟨_, my_71, sX6_94⟩, fun q => absurd q (by decide)⟩⟩, ⟨⟨dX6_takeRestOfLease_98, rfl⟩, rfl⟩, ⟨⟨dX6_takeRestOfLease_101, rfl⟩, rfl⟩, ⟨⟨dX6_takeRestOfLease_102, rfl⟩, rfl⟩, ⟨⟨dX6_takeRestOfLease_105, rfl⟩, rfl⟩, ⟨⟨dX6_takeRestOfLease_106, rfl⟩, Or.inr (Or.inl ⟨rfl, rfl⟩)⟩, ⟨⟨dX6_takeRestOfLease_107, rfl⟩, rfl⟩, ⟨⟨dX6_takeRestOfLease_108, rfl⟩, rfl⟩, ⟨⟨dX6_takeRestOfLease_110, rfl⟩, rfl⟩, ⟨⟨dX6_takeRestOfLease_112, rfl⟩, Or.inr ⟨by decide, ⟨_, my_72, sX6_97⟩, fun q => absurd q (by decide)⟩⟩, ⟨⟨dX6_takeRestOfLease_115, rfl⟩, rfl⟩, ⟨⟨dX6_takeRestOfLease_118, rfl⟩, rfl⟩, ⟨⟨dX6_takeRestOfLease_119, rfl⟩, Or.inl ⟨rfl, kX6_87⟩⟩, ⟨⟨dX6_takeRestOfLease_121, rfl⟩, Or.inr ⟨by decide, ⟨_, my_68, sX6_88⟩, fun q => absurd q (by decide)⟩⟩, ⟨⟨dX6_takeRestOfLease_124, rfl⟩, rfl⟩, ⟨⟨dX6_takeRestOfLease_127, rfl⟩, rfl⟩, ⟨⟨dX6_takeRestOfLease_128, rfl⟩, rfl⟩, ⟨⟨dX6_takeRestOfLease_131, rfl⟩, rfl⟩, ⟨⟨dX6_takeRestOfLease_132, rfl⟩, Or.inr (Or.inl ⟨rfl, rfl⟩)⟩, trivial⟩,
  ⟨⟨⟨dX6_takeRestOfLease_133, rfl⟩, rfl⟩, ⟨⟨dX6_takeRestOfLease_134, rfl⟩, rfl⟩, ⟨⟨dX6_takeRestOfLease_136, rfl⟩, Or.inr ⟨by decide, ⟨_, my_68, sX6_88⟩, fun q => absurd q (by decide)⟩⟩, ⟨⟨dX6_takeRestOfLease_139, rfl⟩, rfl⟩, ⟨⟨dX6_takeRestOfLease_142, rfl⟩, rfl⟩, ⟨⟨dX6_takeRestOfLease_143, rfl⟩, rfl⟩, ⟨⟨dX6_takeRestOfLease_145, rfl⟩, Or.inr ⟨by decide, ⟨_, my_69, sX6_101⟩, fun q => absurd q (by decide)⟩⟩, ⟨⟨dX6_takeRestOfLease_148, rfl⟩, rfl⟩, ⟨⟨dX6_takeRestOfLease_151, rfl⟩, rfl⟩, ⟨⟨dX6_takeRestOfLease_152, rfl⟩, Or.inr ⟨by decide, ⟨_, my_80, sX6_104⟩, fun q => absurd q (by decide)⟩⟩, ⟨⟨dX6_takeRestOfLease_155, rfl⟩, rfl⟩, ⟨⟨dX6_takeRestOfLease_158, rfl⟩, rfl⟩, ⟨⟨dX6_takeRestOfLease_159, rfl⟩, rfl⟩, ⟨⟨dX6_takeRestOfLease_162, rfl⟩, rfl⟩, ⟨⟨dX6_takeRestOfLease_163, rfl⟩, Or.inr (Or.inl ⟨rfl, rfl⟩)⟩, ⟨⟨dX6_takeRestOfLease_164, rfl⟩, rfl⟩, ⟨⟨dX6_takeRestOfLease_165, rfl⟩, rfl⟩, ⟨⟨dX6_takeRestOfLease_167, rfl⟩, Or.inr ⟨by decide, ⟨_, my_68, sX6_88⟩, fun q => absurd q (by decide)⟩⟩, ⟨⟨dX6_takeRestOfLease_170, rfl⟩, Or.inr (Or.inl ⟨rfl, rfl⟩)⟩, ⟨⟨dX6_takeRestOfLease_171, rfl⟩, rfl⟩, ⟨⟨dX6_takeRestOfLease_172, rfl⟩, Or.inl ⟨rfl, kX6_87⟩⟩, ⟨⟨dX6_takeRestOfLease_174, rfl⟩, Or.inr ⟨by decide, ⟨_, my_68, sX6_88⟩, fun q => absurd q (by decide)⟩⟩, ⟨⟨dX6_takeRestOfLease_177, rfl⟩, rfl⟩, ⟨⟨dX6_takeRestOfLease_180, rfl⟩, rfl⟩, trivial⟩,
  ⟨⟨⟨dX6_takeRestOfLease_181, rfl⟩, Or.inr ⟨by decide, ⟨_, my_80, sX6_104⟩, fun q => absurd q (by decide)⟩⟩, ⟨⟨dX6_takeRestOfLease_184, rfl⟩, rfl⟩, ⟨⟨dX6_takeRestOfLease_187, rfl⟩, rfl⟩, ⟨⟨dX6_takeRestOfLease_188, rfl⟩, rfl⟩, ⟨⟨dX6_takeRestOfLease_191, rfl⟩, rfl⟩, ⟨⟨dX6_takeRestOfLease_192, rfl⟩, Or.inr (Or.inl ⟨rfl, rfl⟩)⟩, trivial⟩, trivial⟩, by decide, Or.inl ⟨rfl, by decide, rfl⟩⟩
set_option maxRecDepth 100000 in
theorem g_X6_takeRestOfLease_0 (S : sT) (call : cT) (n : Nat) (a0 : Nat) (h : pH) : bd S call dflT E_X6_takeRestOfLease (n + 1) 0 [some (.ref a0)] [] h = (gI h (.ref a0) 9 11 (fun y1 => (if y1 = 25 then bd S call dflT E_X6_takeRestOfLease n 44 [some (.ref a0)] [] h else (if y1 = 26 then bd S call dflT E_X6_takeRestOfLease n 76 [some (.ref a0)] [] h else (if y1 = 27 then bd S call dflT E_X6_takeRestOfLease n 107 [some (.ref a0)] [] h else (if y1 = 28 then bd S call dflT E_X6_takeRestOfLease n 171 [some (.ref a0)] [] h else (if y1 = 29 then bd S call dflT E_X6_takeRestOfLease n 133 [some (.ref a0)] [] h else (if y1 = 30 then bd S call dflT E_X6_takeRestOfLease n 164 [some (.ref a0)] [] h else bd S call dflT E_X6_takeRestOfLease n 171 [some (.ref a0)] [] h)))))))) := rfl
set_option maxRecDepth 100000 in
theorem g_X6_takeRestOfLease_44 (S : sT) (call : cT) (n : Nat) (a0 : Nat) (h : pH) : bd S call dflT E_X6_takeRestOfLease (n + 1) 44 [some (.ref a0)] [] h = (rC h (.ref a0) 9 (cI (call 68 [.ref a0, .int 999999] h) (fun y2 h1 => (if y2 = 0 then zR 0 (some (.inl (some (.int 0)), h1)) else rC h1 (.ref a0) 9 (cI (call 70 [.ref a0, .int 32] h1) (fun y4 h3 => (if y4 = 0 then zR 0 (some (.inl (some (.int 0)), h3)) else rC h3 (.ref a0) 9 (cI (call 71 [.ref a0, .int 2] h3) (fun y6 h5 => (if y6 = 0 then zR 0 (some (.inl (some (.int 0)), h5)) else zR 1 (some (.inl (some (.int 1)), h5)))))))))))) := rfl
set_option maxRecDepth 100000 in
theorem g_X6_takeRestOfLease_76 (S : sT) (call : cT) (n : Nat) (a0 : Nat) (h : pH) : bd S call dflT E_X6_takeRestOfLease (n + 1) 76 [some (.ref a0)] [] h = (rC h (.ref a0) 9 (cI (call 71 [.ref a0, .int 2] h) (fun y2 h1 => (if y2 = 0 then zR 0 (some (.inl (some (.int 0)), h1)) else rC h1 (.ref a0) 9 (cI (call 70 [.ref a0, .int 33] h1) (fun y4 h3 => (if y4 = 0 then zR 0 (some (.inl (some (.int 0)), h3)) else rC h3 (.ref a0) 9 (cI (call 71 [.ref a0, .int 3] h3) (fun y6 h5 => (if y6 = 0 then zR 0 (some (.inl (some (.int 0)), h5)) else zR 1 (some (.inl (some (.int 1)), h5)))))))))))) := rfl
set_option maxRecDepth 100000 in
theorem g_X6_takeRestOfLease_107 (S : sT) (call : cT) (n : Nat) (a0 : Nat) (h : pH) : bd S call dflT E_X6_takeRestOfLease (n + 1) 107 [some (.ref a0)] [] h = (rC h (.ref a0) 9 (cI (call 72 [.ref a0, .int 12, .int 13] h) (fun y2 h1 => (if y2 = 0 then zR 0 (some (.inl (some (.int 0)), h1)) else rC h1 (.ref a0) 9 (cI (call 68 [.ref a0, .int 999999] h1) (fun y4 h3 => (if y4 = 0 then zR 0 (some (.inl (some (.int 0)), h3)) else zR 1 (some (.inl (some (.int 1)), h3))))))))) := rfl
set_option maxRecDepth 100000 in
theorem g_X6_takeRestOfLease_133 (S : sT) (call : cT) (n : Nat) (a0 : Nat) (h : pH) : bd S call dflT E_X6_takeRestOfLease (n + 1) 133 [some (.ref a0)] [] h = (rC h (.ref a0) 9 (cI (call 68 [.ref a0, .int 100] h) (fun y2 h1 => (if y2 = 0 then zR 0 (some (.inl (some (.int 0)), h1)) else rC h1 (.ref a0) 9 (cI (call 69 [.ref a0, .int 31] h1) (fun y4 h3 => (if y4 = 0 then zR 0 (some (.inl (some (.int 0)), h3)) else rC h3 (.ref a0) 9 (cI (call 80 [.ref a0] h3) (fun y6 h5 => (if y6 = 0 then zR 0 (some (.inl (some (.int 0)), h5)) else zR 1 (some (.inl (some (.int 1)), h5)))))))))))) := rfl
set_option maxRecDepth 100000 in
theorem g_X6_takeRestOfLease_164 (S : sT) (call : cT) (n : Nat) (a0 : Nat) (h : pH) : bd S call dflT E_X6_takeRestOfLease (n + 1) 164 [some (.ref a0)] [] h = (rC h (.ref a0) 9 (cI (call 68 [.ref a0, .int 100] h) (fun y2 h1 => zR y2 (some (.inl (some (.int y2)), h1))))) := rfl
set_option maxRecDepth 100000 in
theorem g_X6_takeRestOfLease_171 (S : sT) (call : cT) (n : Nat) (a0 : Nat) (h : pH) : bd S call dflT E_X6_takeRestOfLease (n + 1) 171 [some (.ref a0)] [] h = (rC h (.ref a0) 9 (cI (call 68 [.ref a0, .int 999999] h) (fun y2 h1 => (if y2 = 0 then zR 0 (some (.inl (some (.int 0)), h1)) else rC h1 (.ref a0) 9 (cI (call 80 [.ref a0] h1) (fun y4 h3 => (if y4 = 0 then zR 0 (some (.inl (some (.int 0)), h3)) else zR 1 (some (.inl (some (.int 1)), h3))))))))) := rfl
theorem dX6_takeRestOfAct_0 : decode cX6_takeRestOfAct 0 = .ok (.aload_n 0, 1) := by decide +kernel
theorem dX6_takeRestOfAct_1 : decode cX6_takeRestOfAct 1 = .ok (.getfield 84, 3) := by decide +kernel
theorem dX6_takeRestOfAct_4 : decode cX6_takeRestOfAct 4 = .ok (.tableswitch 102 18 23 #[40, 102, 40, 45, 71, 93], 40) := by decide +kernel
theorem dX6_takeRestOfAct_44 : decode cX6_takeRestOfAct 44 = .ok (.aload_n 0, 1) := by decide +kernel
theorem dX6_takeRestOfAct_45 : decode cX6_takeRestOfAct 45 = .ok (.invokevirtual 104, 3) := by decide +kernel
theorem dX6_takeRestOfAct_48 : decode cX6_takeRestOfAct 48 = .ok (.ireturn, 1) := by decide +kernel
theorem dX6_takeRestOfAct_49 : decode cX6_takeRestOfAct 49 = .ok (.aload_n 0, 1) := by decide +kernel
theorem dX6_takeRestOfAct_50 : decode cX6_takeRestOfAct 50 = .ok (.bipush 12, 2) := by decide +kernel
theorem dX6_takeRestOfAct_52 : decode cX6_takeRestOfAct 52 = .ok (.bipush 16, 2) := by decide +kernel
theorem dX6_takeRestOfAct_54 : decode cX6_takeRestOfAct 54 = .ok (.invokevirtual 97, 3) := by decide +kernel
theorem dX6_takeRestOfAct_57 : decode cX6_takeRestOfAct 57 = .ok (.ifCond .eq 16, 3) := by decide +kernel
theorem dX6_takeRestOfAct_60 : decode cX6_takeRestOfAct 60 = .ok (.aload_n 0, 1) := by decide +kernel
theorem dX6_takeRestOfAct_61 : decode cX6_takeRestOfAct 61 = .ok (.bipush 100, 2) := by decide +kernel
theorem dX6_takeRestOfAct_63 : decode cX6_takeRestOfAct 63 = .ok (.invokevirtual 88, 3) := by decide +kernel
theorem dX6_takeRestOfAct_66 : decode cX6_takeRestOfAct 66 = .ok (.ifCond .eq 7, 3) := by decide +kernel
theorem dX6_takeRestOfAct_69 : decode cX6_takeRestOfAct 69 = .ok (.iconst 1, 1) := by decide +kernel
theorem dX6_takeRestOfAct_70 : decode cX6_takeRestOfAct 70 = .ok (.goto 4, 3) := by decide +kernel
theorem dX6_takeRestOfAct_73 : decode cX6_takeRestOfAct 73 = .ok (.iconst 0, 1) := by decide +kernel
theorem dX6_takeRestOfAct_74 : decode cX6_takeRestOfAct 74 = .ok (.ireturn, 1) := by decide +kernel
theorem dX6_takeRestOfAct_75 : decode cX6_takeRestOfAct 75 = .ok (.aload_n 0, 1) := by decide +kernel
theorem dX6_takeRestOfAct_76 : decode cX6_takeRestOfAct 76 = .ok (.ldc 87, 2) := by decide +kernel
theorem dX6_takeRestOfAct_78 : decode cX6_takeRestOfAct 78 = .ok (.invokevirtual 88, 3) := by decide +kernel
theorem dX6_takeRestOfAct_81 : decode cX6_takeRestOfAct 81 = .ok (.ifCond .eq 14, 3) := by decide +kernel
theorem dX6_takeRestOfAct_84 : decode cX6_takeRestOfAct 84 = .ok (.aload_n 0, 1) := by decide +kernel
theorem dX6_takeRestOfAct_85 : decode cX6_takeRestOfAct 85 = .ok (.invokevirtual 104, 3) := by decide +kernel
theorem dX6_takeRestOfAct_88 : decode cX6_takeRestOfAct 88 = .ok (.ifCond .eq 7, 3) := by decide +kernel
theorem dX6_takeRestOfAct_91 : decode cX6_takeRestOfAct 91 = .ok (.iconst 1, 1) := by decide +kernel
theorem dX6_takeRestOfAct_92 : decode cX6_takeRestOfAct 92 = .ok (.goto 4, 3) := by decide +kernel
theorem dX6_takeRestOfAct_95 : decode cX6_takeRestOfAct 95 = .ok (.iconst 0, 1) := by decide +kernel
theorem dX6_takeRestOfAct_96 : decode cX6_takeRestOfAct 96 = .ok (.ireturn, 1) := by decide +kernel
theorem dX6_takeRestOfAct_97 : decode cX6_takeRestOfAct 97 = .ok (.aload_n 0, 1) := by decide +kernel
theorem dX6_takeRestOfAct_98 : decode cX6_takeRestOfAct 98 = .ok (.bipush 17, 2) := by decide +kernel
theorem dX6_takeRestOfAct_100 : decode cX6_takeRestOfAct 100 = .ok (.bipush 22, 2) := by decide +kernel
theorem dX6_takeRestOfAct_102 : decode cX6_takeRestOfAct 102 = .ok (.invokevirtual 97, 3) := by decide +kernel
theorem dX6_takeRestOfAct_105 : decode cX6_takeRestOfAct 105 = .ok (.ireturn, 1) := by decide +kernel
theorem dX6_takeRestOfAct_106 : decode cX6_takeRestOfAct 106 = .ok (.aload_n 0, 1) := by decide +kernel
theorem dX6_takeRestOfAct_107 : decode cX6_takeRestOfAct 107 = .ok (.ldc 87, 2) := by decide +kernel
theorem dX6_takeRestOfAct_109 : decode cX6_takeRestOfAct 109 = .ok (.invokevirtual 88, 3) := by decide +kernel
theorem dX6_takeRestOfAct_112 : decode cX6_takeRestOfAct 112 = .ok (.ireturn, 1) := by decide +kernel
noncomputable def E_X6_takeRestOfAct : mE := (mX6_takeRestOfAct, [(84, [(0, (.aload_n 0, 1, false, false, 0, 0, 0, 0, 0, 0, [])), (1, (.getfield 84, 4, false, false, 9, 11, 0, 0, 0, 0, [])), (4, (.tableswitch 102 18 23 #[40, 102, 40, 45, 71, 93], 0, false, false, 106, 0, 0, 0, 0, 0, [(18, 44), (19, 106), (20, 44), (21, 49), (22, 75), (23, 97)])), (44, (.aload_n 0, 45, false, false, 0, 0, 0, 0, 0, 0, [])), (45, (.invokevirtual 104, 48, false, false, 80, 0, 1, 9, 0, 0, [])), (48, (.ireturn, 49, false, false, 0, 0, 1, 0, 0, 0, [])), (49, (.aload_n 0, 50, false, false, 0, 0, 0, 0, 0, 0, [])), (50, (.bipush 12, 52, false, false, 0, 0, 0, 0, 12, 0, [])), (52, (.bipush 16, 54, false, false, 0, 0, 0, 0, 16, 0, [])), (54, (.invokevirtual 97, 57, false, false, 72, 2, 1, 9, 0, 0, [])), (57, (.ifCond .eq 16, 60, false, false, 73, 0, 0, 0, 0, 0, [])), (60, (.aload_n 0, 61, false, false, 0, 0, 0, 0, 0, 0, [])), (61, (.bipush 100, 63, false, false, 0, 0, 0, 0, 100, 0, [])), (63, (.invokevirtual 88, 66, false, false, 68, 1, 1, 9, 0, 0, [])), (66, (.ifCond .eq 7, 69, false, false, 73, 0, 0, 0, 0, 0, [])), (69, (.iconst 1, 70, false, false, 0, 0, 0, 0, 1, 0, [])), (70, (.goto 4, 73, false, false, 74, 0, 0, 0, 0, 0, [])), (73, (.iconst 0, 74, false, false, 0, 0, 0, 0, 0, 0, [])), (74, (.ireturn, 75, false, false, 0, 0, 1, 0, 0, 0, [])), (75, (.aload_n 0, 76, false, false, 0, 0, 0, 0, 0, 0, [])), (76, (.ldc 87, 78, false, false, 0, 0, 0, 0, 999999, 0, [])), (78, (.invokevirtual 88, 81, false, false, 68, 1, 1, 9, 0, 0, [])), (81, (.ifCond .eq 14, 84, false, false, 95, 0, 0, 0, 0, 0, [])), (84, (.aload_n 0, 85, false, false, 0, 0, 0, 0, 0, 0, []))]),
  (112, [(85, (.invokevirtual 104, 88, false, false, 80, 0, 1, 9, 0, 0, [])), (88, (.ifCond .eq 7, 91, false, false, 95, 0, 0, 0, 0, 0, [])), (91, (.iconst 1, 92, false, false, 0, 0, 0, 0, 1, 0, [])), (92, (.goto 4, 95, false, false, 96, 0, 0, 0, 0, 0, [])), (95, (.iconst 0, 96, false, false, 0, 0, 0, 0, 0, 0, [])), (96, (.ireturn, 97, false, false, 0, 0, 1, 0, 0, 0, [])), (97, (.aload_n 0, 98, false, false, 0, 0, 0, 0, 0, 0, [])), (98, (.bipush 17, 100, false, false, 0, 0, 0, 0, 17, 0, [])), (100, (.bipush 22, 102, false, false, 0, 0, 0, 0, 22, 0, [])), (102, (.invokevirtual 97, 105, false, false, 72, 2, 1, 9, 0, 0, [])), (105, (.ireturn, 106, false, false, 0, 0, 1, 0, 0, 0, [])), (106, (.aload_n 0, 107, false, false, 0, 0, 0, 0, 0, 0, [])), (107, (.ldc 87, 109, false, false, 0, 0, 0, 0, 999999, 0, [])), (109, (.invokevirtual 88, 112, false, false, 68, 1, 1, 9, 0, 0, [])), (112, (.ireturn, 113, false, false, 0, 0, 1, 0, 0, 0, []))])], 0, [])
set_option maxRecDepth 100000 in
theorem v_X6_takeRestOfAct : VE MYT dflT E_X6_takeRestOfAct := ⟨⟨⟨⟨⟨dX6_takeRestOfAct_0, rfl⟩, rfl⟩, ⟨⟨dX6_takeRestOfAct_1, rfl⟩, Or.inl ⟨by decide, _, _, fX6_84⟩⟩, ⟨⟨_, dX6_takeRestOfAct_4⟩, ⟨rfl, rfl, rfl, rfl, rfl, rfl, rfl, rfl, rfl, rfl, rfl, rfl, rfl, rfl, trivial⟩⟩, ⟨⟨dX6_takeRestOfAct_44, rfl⟩, rfl⟩, ⟨⟨dX6_takeRestOfAct_45, rfl⟩, Or.inr ⟨by decide, ⟨_, my_80, sX6_104⟩, fun q => absurd q (by decide)⟩⟩, ⟨⟨dX6_takeRestOfAct_48, rfl⟩, Or.inr (Or.inl ⟨rfl, rfl⟩)⟩, ⟨⟨dX6_takeRestOfAct_49, rfl⟩, rfl⟩, ⟨⟨dX6_takeRestOfAct_50, rfl⟩, rfl⟩, ⟨⟨dX6_takeRestOfAct_52, rfl⟩, rfl⟩, ⟨⟨dX6_takeRestOfAct_54, rfl⟩, Or.inr ⟨by decide, ⟨_, my_72, sX6_97⟩, fun q => absurd q (by decide)⟩⟩, ⟨⟨dX6_takeRestOfAct_57, rfl⟩, rfl⟩, ⟨⟨dX6_takeRestOfAct_60, rfl⟩, rfl⟩, ⟨⟨dX6_takeRestOfAct_61, rfl⟩, rfl⟩, ⟨⟨dX6_takeRestOfAct_63, rfl⟩, Or.inr ⟨by decide, ⟨_, my_68, sX6_88⟩, fun q => absurd q (by decide)⟩⟩, ⟨⟨dX6_takeRestOfAct_66, rfl⟩, rfl⟩, ⟨⟨dX6_takeRestOfAct_69, rfl⟩, rfl⟩, ⟨⟨dX6_takeRestOfAct_70, rfl⟩, rfl⟩, ⟨⟨dX6_takeRestOfAct_73, rfl⟩, rfl⟩, ⟨⟨dX6_takeRestOfAct_74, rfl⟩, Or.inr (Or.inl ⟨rfl, rfl⟩)⟩, ⟨⟨dX6_takeRestOfAct_75, rfl⟩, rfl⟩, ⟨⟨dX6_takeRestOfAct_76, rfl⟩, Or.inl ⟨rfl, kX6_87⟩⟩, ⟨⟨dX6_takeRestOfAct_78, rfl⟩, Or.inr ⟨by decide, ⟨_, my_68, sX6_88⟩, fun q => absurd q (by decide)⟩⟩, ⟨⟨dX6_takeRestOfAct_81, rfl⟩, rfl⟩, ⟨⟨dX6_takeRestOfAct_84, rfl⟩, rfl⟩, trivial⟩,
  ⟨⟨⟨dX6_takeRestOfAct_85, rfl⟩, Or.inr ⟨by decide, ⟨_, my_80, sX6_104⟩, fun q => absurd q (by decide)⟩⟩, ⟨⟨dX6_takeRestOfAct_88, rfl⟩, rfl⟩, ⟨⟨dX6_takeRestOfAct_91, rfl⟩, rfl⟩, ⟨⟨dX6_takeRestOfAct_92, rfl⟩, rfl⟩, ⟨⟨dX6_takeRestOfAct_95, rfl⟩, rfl⟩, ⟨⟨dX6_takeRestOfAct_96, rfl⟩, Or.inr (Or.inl ⟨rfl, rfl⟩)⟩, ⟨⟨dX6_takeRestOfAct_97, rfl⟩, rfl⟩, ⟨⟨dX6_takeRestOfAct_98, rfl⟩, rfl⟩, ⟨⟨dX6_takeRestOfAct_100, rfl⟩, rfl⟩, ⟨⟨dX6_takeRestOfAct_102, rfl⟩, Or.inr ⟨by decide, ⟨_, my_72, sX6_97⟩, fun q => absurd q (by decide)⟩⟩, ⟨⟨dX6_takeRestOfAct_105, rfl⟩, Or.inr (Or.inl ⟨rfl, rfl⟩)⟩, ⟨⟨dX6_takeRestOfAct_106, rfl⟩, rfl⟩, ⟨⟨dX6_takeRestOfAct_107, rfl⟩, Or.inl ⟨rfl, kX6_87⟩⟩, ⟨⟨dX6_takeRestOfAct_109, rfl⟩, Or.inr ⟨by decide, ⟨_, my_68, sX6_88⟩, fun q => absurd q (by decide)⟩⟩, ⟨⟨dX6_takeRestOfAct_112, rfl⟩, Or.inr (Or.inl ⟨rfl, rfl⟩)⟩, trivial⟩, trivial⟩, by decide, Or.inl ⟨rfl, by decide, rfl⟩⟩
set_option maxRecDepth 100000 in
theorem g_X6_takeRestOfAct_0 (S : sT) (call : cT) (n : Nat) (a0 : Nat) (h : pH) : bd S call dflT E_X6_takeRestOfAct (n + 1) 0 [some (.ref a0)] [] h = (gI h (.ref a0) 9 11 (fun y1 => (if y1 = 18 then bd S call dflT E_X6_takeRestOfAct n 44 [some (.ref a0)] [] h else (if y1 = 19 then bd S call dflT E_X6_takeRestOfAct n 106 [some (.ref a0)] [] h else (if y1 = 20 then bd S call dflT E_X6_takeRestOfAct n 44 [some (.ref a0)] [] h else (if y1 = 21 then bd S call dflT E_X6_takeRestOfAct n 49 [some (.ref a0)] [] h else (if y1 = 22 then bd S call dflT E_X6_takeRestOfAct n 75 [some (.ref a0)] [] h else (if y1 = 23 then bd S call dflT E_X6_takeRestOfAct n 97 [some (.ref a0)] [] h else bd S call dflT E_X6_takeRestOfAct n 106 [some (.ref a0)] [] h)))))))) := rfl
set_option maxRecDepth 100000 in
theorem g_X6_takeRestOfAct_44 (S : sT) (call : cT) (n : Nat) (a0 : Nat) (h : pH) : bd S call dflT E_X6_takeRestOfAct (n + 1) 44 [some (.ref a0)] [] h = (rC h (.ref a0) 9 (cI (call 80 [.ref a0] h) (fun y2 h1 => zR y2 (some (.inl (some (.int y2)), h1))))) := rfl
set_option maxRecDepth 100000 in
theorem g_X6_takeRestOfAct_49 (S : sT) (call : cT) (n : Nat) (a0 : Nat) (h : pH) : bd S call dflT E_X6_takeRestOfAct (n + 1) 49 [some (.ref a0)] [] h = (rC h (.ref a0) 9 (cI (call 72 [.ref a0, .int 12, .int 16] h) (fun y2 h1 => (if y2 = 0 then zR 0 (some (.inl (some (.int 0)), h1)) else rC h1 (.ref a0) 9 (cI (call 68 [.ref a0, .int 100] h1) (fun y4 h3 => (if y4 = 0 then zR 0 (some (.inl (some (.int 0)), h3)) else zR 1 (some (.inl (some (.int 1)), h3))))))))) := rfl
set_option maxRecDepth 100000 in
theorem g_X6_takeRestOfAct_75 (S : sT) (call : cT) (n : Nat) (a0 : Nat) (h : pH) : bd S call dflT E_X6_takeRestOfAct (n + 1) 75 [some (.ref a0)] [] h = (rC h (.ref a0) 9 (cI (call 68 [.ref a0, .int 999999] h) (fun y2 h1 => (if y2 = 0 then zR 0 (some (.inl (some (.int 0)), h1)) else rC h1 (.ref a0) 9 (cI (call 80 [.ref a0] h1) (fun y4 h3 => (if y4 = 0 then zR 0 (some (.inl (some (.int 0)), h3)) else zR 1 (some (.inl (some (.int 1)), h3))))))))) := rfl
set_option maxRecDepth 100000 in
theorem g_X6_takeRestOfAct_97 (S : sT) (call : cT) (n : Nat) (a0 : Nat) (h : pH) : bd S call dflT E_X6_takeRestOfAct (n + 1) 97 [some (.ref a0)] [] h = (rC h (.ref a0) 9 (cI (call 72 [.ref a0, .int 17, .int 22] h) (fun y2 h1 => zR y2 (some (.inl (some (.int y2)), h1))))) := rfl
set_option maxRecDepth 100000 in
theorem g_X6_takeRestOfAct_106 (S : sT) (call : cT) (n : Nat) (a0 : Nat) (h : pH) : bd S call dflT E_X6_takeRestOfAct (n + 1) 106 [some (.ref a0)] [] h = (rC h (.ref a0) 9 (cI (call 68 [.ref a0, .int 999999] h) (fun y2 h1 => zR y2 (some (.inl (some (.int y2)), h1))))) := rfl
theorem dX6_takeLines_0 : decode cX6_takeLines 0 = .ok (.aload_n 0, 1) := by decide +kernel
theorem dX6_takeLines_1 : decode cX6_takeLines 1 = .ok (.getfield 60, 3) := by decide +kernel
theorem dX6_takeLines_4 : decode cX6_takeLines 4 = .ok (.ifCond .ne 5, 3) := by decide +kernel
theorem dX6_takeLines_7 : decode cX6_takeLines 7 = .ok (.iconst 1, 1) := by decide +kernel
theorem dX6_takeLines_8 : decode cX6_takeLines 8 = .ok (.ireturn, 1) := by decide +kernel
theorem dX6_takeLines_9 : decode cX6_takeLines 9 = .ok (.iconst 0, 1) := by decide +kernel
theorem dX6_takeLines_10 : decode cX6_takeLines 10 = .ok (.istore_n 2, 1) := by decide +kernel
theorem dX6_takeLines_11 : decode cX6_takeLines 11 = .ok (.iload_n 2, 1) := by decide +kernel
theorem dX6_takeLines_12 : decode cX6_takeLines 12 = .ok (.bipush 16, 2) := by decide +kernel
theorem dX6_takeLines_14 : decode cX6_takeLines 14 = .ok (.if_icmp .ge 76, 3) := by decide +kernel
theorem dX6_takeLines_17 : decode cX6_takeLines 17 = .ok (.aload_n 0, 1) := by decide +kernel
theorem dX6_takeLines_18 : decode cX6_takeLines 18 = .ok (.iload_n 1, 1) := by decide +kernel
theorem dX6_takeLines_19 : decode cX6_takeLines 19 = .ok (.invokevirtual 63, 3) := by decide +kernel
theorem dX6_takeLines_22 : decode cX6_takeLines 22 = .ok (.ifCond .eq 24, 3) := by decide +kernel
theorem dX6_takeLines_25 : decode cX6_takeLines 25 = .ok (.iload_n 1, 1) := by decide +kernel
theorem dX6_takeLines_26 : decode cX6_takeLines 26 = .ok (.ifCond .eq 13, 3) := by decide +kernel
theorem dX6_takeLines_29 : decode cX6_takeLines 29 = .ok (.aload_n 0, 1) := by decide +kernel
theorem dX6_takeLines_30 : decode cX6_takeLines 30 = .ok (.invokevirtual 66, 3) := by decide +kernel
theorem dX6_takeLines_33 : decode cX6_takeLines 33 = .ok (.ifCond .eq 13, 3) := by decide +kernel
theorem dX6_takeLines_36 : decode cX6_takeLines 36 = .ok (.goto 12, 3) := by decide +kernel
theorem dX6_takeLines_39 : decode cX6_takeLines 39 = .ok (.aload_n 0, 1) := by decide +kernel
theorem dX6_takeLines_40 : decode cX6_takeLines 40 = .ok (.invokevirtual 70, 3) := by decide +kernel
theorem dX6_takeLines_43 : decode cX6_takeLines 43 = .ok (.ifCond .ne 5, 3) := by decide +kernel
theorem dX6_takeLines_46 : decode cX6_takeLines 46 = .ok (.iconst 0, 1) := by decide +kernel
theorem dX6_takeLines_47 : decode cX6_takeLines 47 = .ok (.ireturn, 1) := by decide +kernel
theorem dX6_takeLines_48 : decode cX6_takeLines 48 = .ok (.aload_n 0, 1) := by decide +kernel
theorem dX6_takeLines_49 : decode cX6_takeLines 49 = .ok (.iconst 5, 1) := by decide +kernel
theorem dX6_takeLines_50 : decode cX6_takeLines 50 = .ok (.aload_n 0, 1) := by decide +kernel
theorem dX6_takeLines_51 : decode cX6_takeLines 51 = .ok (.getfield 37, 3) := by decide +kernel
theorem dX6_takeLines_54 : decode cX6_takeLines 54 = .ok (.invokevirtual 73, 3) := by decide +kernel
theorem dX6_takeLines_57 : decode cX6_takeLines 57 = .ok (.aload_n 0, 1) := by decide +kernel
theorem dX6_takeLines_58 : decode cX6_takeLines 58 = .ok (.iload_n 2, 1) := by decide +kernel
theorem dX6_takeLines_59 : decode cX6_takeLines 59 = .ok (.iconst 1, 1) := by decide +kernel
theorem dX6_takeLines_60 : decode cX6_takeLines 60 = .ok (.iadd, 1) := by decide +kernel
theorem dX6_takeLines_61 : decode cX6_takeLines 61 = .ok (.putfield 34, 3) := by decide +kernel
theorem dX6_takeLines_64 : decode cX6_takeLines 64 = .ok (.aload_n 0, 1) := by decide +kernel
theorem dX6_takeLines_65 : decode cX6_takeLines 65 = .ok (.getfield 60, 3) := by decide +kernel
theorem dX6_takeLines_68 : decode cX6_takeLines 68 = .ok (.ifCond .ne 5, 3) := by decide +kernel
theorem dX6_takeLines_71 : decode cX6_takeLines 71 = .ok (.iconst 1, 1) := by decide +kernel
theorem dX6_takeLines_72 : decode cX6_takeLines 72 = .ok (.ireturn, 1) := by decide +kernel
theorem dX6_takeLines_73 : decode cX6_takeLines 73 = .ok (.aload_n 0, 1) := by decide +kernel
theorem dX6_takeLines_74 : decode cX6_takeLines 74 = .ok (.bipush 59, 2) := by decide +kernel
theorem dX6_takeLines_76 : decode cX6_takeLines 76 = .ok (.invokevirtual 77, 3) := by decide +kernel
theorem dX6_takeLines_79 : decode cX6_takeLines 79 = .ok (.ifCond .ne 5, 3) := by decide +kernel
theorem dX6_takeLines_82 : decode cX6_takeLines 82 = .ok (.iconst 0, 1) := by decide +kernel
theorem dX6_takeLines_83 : decode cX6_takeLines 83 = .ok (.ireturn, 1) := by decide +kernel
theorem dX6_takeLines_84 : decode cX6_takeLines 84 = .ok (.iinc 2 1, 3) := by decide +kernel
theorem dX6_takeLines_87 : decode cX6_takeLines 87 = .ok (.goto (-76), 3) := by decide +kernel
theorem dX6_takeLines_90 : decode cX6_takeLines 90 = .ok (.iconst 0, 1) := by decide +kernel
theorem dX6_takeLines_91 : decode cX6_takeLines 91 = .ok (.ireturn, 1) := by decide +kernel
noncomputable def E_X6_takeLines : mE := (mX6_takeLines, [(46, [(0, (.aload_n 0, 1, false, false, 0, 0, 0, 0, 0, 0, [])), (1, (.getfield 60, 4, false, false, 9, 6, 0, 0, 0, 0, [])), (4, (.ifCond .ne 5, 7, false, false, 9, 0, 0, 0, 0, 0, [])), (7, (.iconst 1, 8, false, false, 0, 0, 0, 0, 1, 0, [])), (8, (.ireturn, 9, false, false, 0, 0, 1, 0, 0, 0, [])), (9, (.iconst 0, 10, false, false, 0, 0, 0, 0, 0, 0, [])), (10, (.istore_n 2, 11, true, false, 2, 0, 0, 0, 0, 0, [])), (11, (.iload_n 2, 12, false, false, 2, 0, 0, 0, 0, 0, [])), (12, (.bipush 16, 14, false, false, 0, 0, 0, 0, 16, 0, [])), (14, (.if_icmp .ge 76, 17, false, false, 90, 0, 0, 0, 0, 0, [])), (17, (.aload_n 0, 18, false, false, 0, 0, 0, 0, 0, 0, [])), (18, (.iload_n 1, 19, false, false, 1, 0, 0, 0, 0, 0, [])), (19, (.invokevirtual 63, 22, false, false, 67, 1, 1, 9, 0, 0, [])), (22, (.ifCond .eq 24, 25, false, false, 46, 0, 0, 0, 0, 0, [])), (25, (.iload_n 1, 26, false, false, 1, 0, 0, 0, 0, 0, [])), (26, (.ifCond .eq 13, 29, false, false, 39, 0, 0, 0, 0, 0, [])), (29, (.aload_n 0, 30, false, false, 0, 0, 0, 0, 0, 0, [])), (30, (.invokevirtual 66, 33, false, false, 81, 0, 1, 9, 0, 0, [])), (33, (.ifCond .eq 13, 36, false, false, 46, 0, 0, 0, 0, 0, [])), (36, (.goto 12, 39, false, true, 48, 0, 0, 0, 0, 0, [])), (39, (.aload_n 0, 40, false, false, 0, 0, 0, 0, 0, 0, [])), (40, (.invokevirtual 70, 43, false, false, 82, 0, 1, 9, 0, 0, [])), (43, (.ifCond .ne 5, 46, false, true, 48, 0, 0, 0, 0, 0, [])), (46, (.iconst 0, 47, false, false, 0, 0, 0, 0, 0, 0, []))]),
  (87, [(47, (.ireturn, 48, false, false, 0, 0, 1, 0, 0, 0, [])), (48, (.aload_n 0, 49, false, false, 0, 0, 0, 0, 0, 0, [])), (49, (.iconst 5, 50, false, false, 0, 0, 0, 0, 5, 0, [])), (50, (.aload_n 0, 51, false, false, 0, 0, 0, 0, 0, 0, [])), (51, (.getfield 37, 54, false, false, 9, 10, 0, 0, 0, 0, [])), (54, (.invokevirtual 73, 57, false, false, 66, 2, 0, 9, 0, 0, [])), (57, (.aload_n 0, 58, false, false, 0, 0, 0, 0, 0, 0, [])), (58, (.iload_n 2, 59, false, false, 2, 0, 0, 0, 0, 0, [])), (59, (.iconst 1, 60, false, false, 0, 0, 0, 0, 1, 0, [])), (60, (.iadd, 61, false, false, 0, 0, 0, 0, 0, 0, [])), (61, (.putfield 34, 64, false, false, 9, 9, 0, 0, 0, 0, [])), (64, (.aload_n 0, 65, false, false, 0, 0, 0, 0, 0, 0, [])), (65, (.getfield 60, 68, false, false, 9, 6, 0, 0, 0, 0, [])), (68, (.ifCond .ne 5, 71, false, false, 73, 0, 0, 0, 0, 0, [])), (71, (.iconst 1, 72, false, false, 0, 0, 0, 0, 1, 0, [])), (72, (.ireturn, 73, false, false, 0, 0, 1, 0, 0, 0, [])), (73, (.aload_n 0, 74, false, false, 0, 0, 0, 0, 0, 0, [])), (74, (.bipush 59, 76, false, false, 0, 0, 0, 0, 59, 0, [])), (76, (.invokevirtual 77, 79, false, false, 74, 1, 1, 9, 0, 0, [])), (79, (.ifCond .ne 5, 82, false, false, 84, 0, 0, 0, 0, 0, [])), (82, (.iconst 0, 83, false, false, 0, 0, 0, 0, 0, 0, [])), (83, (.ireturn, 84, false, false, 0, 0, 1, 0, 0, 0, [])), (84, (.iinc 2 1, 87, false, false, 2, 0, 0, 0, 1, 0, [])), (87, (.goto (-76), 90, false, true, 11, 0, 0, 0, 0, 0, []))]),
  (91, [(90, (.iconst 0, 91, false, false, 0, 0, 0, 0, 0, 0, [])), (91, (.ireturn, 92, false, false, 0, 0, 1, 0, 0, 0, []))])], 0, [])
set_option maxRecDepth 100000 in
theorem v_X6_takeLines : VE MYT dflT E_X6_takeLines := ⟨⟨⟨⟨⟨dX6_takeLines_0, rfl⟩, rfl⟩, ⟨⟨dX6_takeLines_1, rfl⟩, Or.inl ⟨by decide, _, _, fX6_60⟩⟩, ⟨⟨dX6_takeLines_4, rfl⟩, rfl⟩, ⟨⟨dX6_takeLines_7, rfl⟩, rfl⟩, ⟨⟨dX6_takeLines_8, rfl⟩, Or.inr (Or.inl ⟨rfl, rfl⟩)⟩, ⟨⟨dX6_takeLines_9, rfl⟩, rfl⟩, ⟨⟨dX6_takeLines_10, rfl⟩, rfl⟩, ⟨⟨dX6_takeLines_11, rfl⟩, rfl⟩, ⟨⟨dX6_takeLines_12, rfl⟩, rfl⟩, ⟨⟨dX6_takeLines_14, rfl⟩, rfl⟩, ⟨⟨dX6_takeLines_17, rfl⟩, rfl⟩, ⟨⟨dX6_takeLines_18, rfl⟩, rfl⟩, ⟨⟨dX6_takeLines_19, rfl⟩, Or.inr ⟨by decide, ⟨_, my_67, sX6_63⟩, fun q => absurd q (by decide)⟩⟩, ⟨⟨dX6_takeLines_22, rfl⟩, rfl⟩, ⟨⟨dX6_takeLines_25, rfl⟩, rfl⟩, ⟨⟨dX6_takeLines_26, rfl⟩, rfl⟩, ⟨⟨dX6_takeLines_29, rfl⟩, rfl⟩, ⟨⟨dX6_takeLines_30, rfl⟩, Or.inr ⟨by decide, ⟨_, my_81, sX6_66⟩, fun q => absurd q (by decide)⟩⟩, ⟨⟨dX6_takeLines_33, rfl⟩, rfl⟩, ⟨⟨dX6_takeLines_36, rfl⟩, rfl⟩, ⟨⟨dX6_takeLines_39, rfl⟩, rfl⟩, ⟨⟨dX6_takeLines_40, rfl⟩, Or.inr ⟨by decide, ⟨_, my_82, sX6_70⟩, fun q => absurd q (by decide)⟩⟩, ⟨⟨dX6_takeLines_43, rfl⟩, rfl⟩, ⟨⟨dX6_takeLines_46, rfl⟩, rfl⟩, trivial⟩,
  ⟨⟨⟨dX6_takeLines_47, rfl⟩, Or.inr (Or.inl ⟨rfl, rfl⟩)⟩, ⟨⟨dX6_takeLines_48, rfl⟩, rfl⟩, ⟨⟨dX6_takeLines_49, rfl⟩, rfl⟩, ⟨⟨dX6_takeLines_50, rfl⟩, rfl⟩, ⟨⟨dX6_takeLines_51, rfl⟩, Or.inl ⟨by decide, _, _, fX6_37⟩⟩, ⟨⟨dX6_takeLines_54, rfl⟩, Or.inr ⟨by decide, ⟨_, my_66, sX6_73⟩, fun q => absurd q (by decide)⟩⟩, ⟨⟨dX6_takeLines_57, rfl⟩, rfl⟩, ⟨⟨dX6_takeLines_58, rfl⟩, rfl⟩, ⟨⟨dX6_takeLines_59, rfl⟩, rfl⟩, ⟨⟨dX6_takeLines_60, rfl⟩, trivial⟩, ⟨⟨dX6_takeLines_61, rfl⟩, Or.inl ⟨rfl, fX6_34⟩⟩, ⟨⟨dX6_takeLines_64, rfl⟩, rfl⟩, ⟨⟨dX6_takeLines_65, rfl⟩, Or.inl ⟨by decide, _, _, fX6_60⟩⟩, ⟨⟨dX6_takeLines_68, rfl⟩, rfl⟩, ⟨⟨dX6_takeLines_71, rfl⟩, rfl⟩, ⟨⟨dX6_takeLines_72, rfl⟩, Or.inr (Or.inl ⟨rfl, rfl⟩)⟩, ⟨⟨dX6_takeLines_73, rfl⟩, rfl⟩, ⟨⟨dX6_takeLines_74, rfl⟩, rfl⟩, ⟨⟨dX6_takeLines_76, rfl⟩, Or.inr ⟨by decide, ⟨_, my_74, sX6_77⟩, fun q => absurd q (by decide)⟩⟩, ⟨⟨dX6_takeLines_79, rfl⟩, rfl⟩, ⟨⟨dX6_takeLines_82, rfl⟩, rfl⟩, ⟨⟨dX6_takeLines_83, rfl⟩, Or.inr (Or.inl ⟨rfl, rfl⟩)⟩, ⟨⟨dX6_takeLines_84, rfl⟩, ⟨rfl, rfl⟩⟩, ⟨⟨dX6_takeLines_87, rfl⟩, rfl⟩, trivial⟩,
  ⟨⟨⟨dX6_takeLines_90, rfl⟩, rfl⟩, ⟨⟨dX6_takeLines_91, rfl⟩, Or.inr (Or.inl ⟨rfl, rfl⟩)⟩, trivial⟩, trivial⟩, by decide, Or.inl ⟨rfl, by decide, rfl⟩⟩
set_option maxRecDepth 100000 in
theorem g_X6_takeLines_0 (S : sT) (call : cT) (n : Nat) (a0 : Nat) (x1 : Int32) (h : pH) : bd S call dflT E_X6_takeLines (n + 1) 0 [some (.ref a0), some (.int x1), none] [] h = (gI h (.ref a0) 9 6 (fun y1 => (if y1 = 0 then zR 1 (some (.inl (some (.int 1)), h)) else bd S call dflT E_X6_takeLines n 11 [some (.ref a0), some (.int x1), some (.int 0)] [] h))) := rfl
set_option maxRecDepth 100000 in
theorem g_X6_takeLines_11 (S : sT) (call : cT) (n : Nat) (a0 : Nat) (x1 : Int32) (x2 : Int32) (h : pH) : bd S call dflT E_X6_takeLines (n + 1) 11 [some (.ref a0), some (.int x1), some (.int x2)] [] h = ((if 16 ≤ x2 then zR 0 (some (.inl (some (.int 0)), h)) else rC h (.ref a0) 9 (cI (call 67 [.ref a0, .int x1] h) (fun y2 h1 => (if y2 = 0 then zR 0 (some (.inl (some (.int 0)), h1)) else (if x1 = 0 then rC h1 (.ref a0) 9 (cI (call 82 [.ref a0] h1) (fun y4 h3 => (if y4 = 0 then zR 0 (some (.inl (some (.int 0)), h3)) else bd S call dflT E_X6_takeLines n 48 [some (.ref a0), some (.int x1), some (.int x2)] [] h3))) else rC h1 (.ref a0) 9 (cI (call 81 [.ref a0] h1) (fun y6 h5 => (if y6 = 0 then zR 0 (some (.inl (some (.int 0)), h5)) else bd S call dflT E_X6_takeLines n 48 [some (.ref a0), some (.int x1), some (.int x2)] [] h5))))))))) := rfl
set_option maxRecDepth 100000 in
theorem g_X6_takeLines_48 (S : sT) (call : cT) (n : Nat) (a0 : Nat) (x1 : Int32) (x2 : Int32) (h : pH) : bd S call dflT E_X6_takeLines (n + 1) 48 [some (.ref a0), some (.int x1), some (.int x2)] [] h = (gI h (.ref a0) 9 10 (fun y1 => rC h (.ref a0) 9 (cU (call 66 [.ref a0, .int 5, .int y1] h) (fun h2 => pF h2 (.ref a0) 9 9 (.int (x2 + 1)) (fun h3 => gI h3 (.ref a0) 9 6 (fun y4 => (if y4 = 0 then zR 1 (some (.inl (some (.int 1)), h3)) else rC h3 (.ref a0) 9 (cI (call 74 [.ref a0, .int 59] h3) (fun y6 h5 => (if y6 = 0 then zR 0 (some (.inl (some (.int 0)), h5)) else bd S call dflT E_X6_takeLines n 11 [some (.ref a0), some (.int x1), some (.int (x2 + 1))] [] h5)))))))))) := rfl
theorem dX6_read_0 : decode cX6_read 0 = .ok (.aload_n 0, 1) := by decide +kernel
theorem dX6_read_1 : decode cX6_read 1 = .ok (.iconst 0, 1) := by decide +kernel
theorem dX6_read_2 : decode cX6_read 2 = .ok (.putfield 31, 3) := by decide +kernel
theorem dX6_read_5 : decode cX6_read 5 = .ok (.aload_n 0, 1) := by decide +kernel
theorem dX6_read_6 : decode cX6_read 6 = .ok (.iconst 0, 1) := by decide +kernel
theorem dX6_read_7 : decode cX6_read 7 = .ok (.putfield 34, 3) := by decide +kernel
theorem dX6_read_10 : decode cX6_read 10 = .ok (.aload_n 0, 1) := by decide +kernel
theorem dX6_read_11 : decode cX6_read 11 = .ok (.iconst 0, 1) := by decide +kernel
theorem dX6_read_12 : decode cX6_read 12 = .ok (.putfield 37, 3) := by decide +kernel
theorem dX6_read_15 : decode cX6_read 15 = .ok (.aload_n 0, 1) := by decide +kernel
theorem dX6_read_16 : decode cX6_read 16 = .ok (.invokevirtual 40, 3) := by decide +kernel
theorem dX6_read_19 : decode cX6_read 19 = .ok (.aload_n 0, 1) := by decide +kernel
theorem dX6_read_20 : decode cX6_read 20 = .ok (.iload_n 1, 1) := by decide +kernel
theorem dX6_read_21 : decode cX6_read 21 = .ok (.invokevirtual 43, 3) := by decide +kernel
theorem dX6_read_24 : decode cX6_read 24 = .ok (.istore_n 2, 1) := by decide +kernel
theorem dX6_read_25 : decode cX6_read 25 = .ok (.aload_n 0, 1) := by decide +kernel
theorem dX6_read_26 : decode cX6_read 26 = .ok (.iload_n 2, 1) := by decide +kernel
theorem dX6_read_27 : decode cX6_read 27 = .ok (.ifCond .eq 7, 3) := by decide +kernel
theorem dX6_read_30 : decode cX6_read 30 = .ok (.iconst (-1), 1) := by decide +kernel
theorem dX6_read_31 : decode cX6_read 31 = .ok (.goto 7, 3) := by decide +kernel
theorem dX6_read_34 : decode cX6_read 34 = .ok (.aload_n 0, 1) := by decide +kernel
theorem dX6_read_35 : decode cX6_read 35 = .ok (.getfield 47, 3) := by decide +kernel
theorem dX6_read_38 : decode cX6_read 38 = .ok (.putfield 17, 3) := by decide +kernel
theorem dX6_read_41 : decode cX6_read 41 = .ok (.iload_n 2, 1) := by decide +kernel
theorem dX6_read_42 : decode cX6_read 42 = .ok (.ireturn, 1) := by decide +kernel
noncomputable def E_X6_read : mE := (mX6_read, [(41, [(0, (.aload_n 0, 1, false, false, 0, 0, 0, 0, 0, 0, [])), (1, (.iconst 0, 2, false, false, 0, 0, 0, 0, 0, 0, [])), (2, (.putfield 31, 5, false, false, 9, 4, 0, 0, 0, 0, [])), (5, (.aload_n 0, 6, false, false, 0, 0, 0, 0, 0, 0, [])), (6, (.iconst 0, 7, false, false, 0, 0, 0, 0, 0, 0, [])), (7, (.putfield 34, 10, false, false, 9, 9, 0, 0, 0, 0, [])), (10, (.aload_n 0, 11, false, false, 0, 0, 0, 0, 0, 0, [])), (11, (.iconst 0, 12, false, false, 0, 0, 0, 0, 0, 0, [])), (12, (.putfield 37, 15, false, false, 9, 10, 0, 0, 0, 0, [])), (15, (.aload_n 0, 16, false, false, 0, 0, 0, 0, 0, 0, [])), (16, (.invokevirtual 40, 19, false, false, 65, 0, 0, 9, 0, 0, [])), (19, (.aload_n 0, 20, false, false, 0, 0, 0, 0, 0, 0, [])), (20, (.iload_n 1, 21, false, false, 1, 0, 0, 0, 0, 0, [])), (21, (.invokevirtual 43, 24, false, false, 83, 1, 1, 9, 0, 0, [])), (24, (.istore_n 2, 25, false, false, 2, 0, 0, 0, 0, 0, [])), (25, (.aload_n 0, 26, false, false, 0, 0, 0, 0, 0, 0, [])), (26, (.iload_n 2, 27, false, false, 2, 0, 0, 0, 0, 0, [])), (27, (.ifCond .eq 7, 30, false, false, 34, 0, 0, 0, 0, 0, [])), (30, (.iconst (-1), 31, false, false, 0, 0, 0, 0, -1, 0, [])), (31, (.goto 7, 34, false, false, 38, 0, 0, 0, 0, 0, [])), (34, (.aload_n 0, 35, false, false, 0, 0, 0, 0, 0, 0, [])), (35, (.getfield 47, 38, false, false, 9, 5, 0, 0, 0, 0, [])), (38, (.putfield 17, 41, false, false, 9, 2, 0, 0, 0, 0, [])), (41, (.iload_n 2, 42, false, false, 2, 0, 0, 0, 0, 0, []))]),
  (42, [(42, (.ireturn, 43, false, false, 0, 0, 1, 0, 0, 0, []))])], 0, [])
set_option maxRecDepth 100000 in
theorem v_X6_read : VE MYT dflT E_X6_read := ⟨⟨⟨⟨⟨dX6_read_0, rfl⟩, rfl⟩, ⟨⟨dX6_read_1, rfl⟩, rfl⟩, ⟨⟨dX6_read_2, rfl⟩, Or.inl ⟨rfl, fX6_31⟩⟩, ⟨⟨dX6_read_5, rfl⟩, rfl⟩, ⟨⟨dX6_read_6, rfl⟩, rfl⟩, ⟨⟨dX6_read_7, rfl⟩, Or.inl ⟨rfl, fX6_34⟩⟩, ⟨⟨dX6_read_10, rfl⟩, rfl⟩, ⟨⟨dX6_read_11, rfl⟩, rfl⟩, ⟨⟨dX6_read_12, rfl⟩, Or.inl ⟨rfl, fX6_37⟩⟩, ⟨⟨dX6_read_15, rfl⟩, rfl⟩, ⟨⟨dX6_read_16, rfl⟩, Or.inr ⟨by decide, ⟨_, my_65, sX6_40⟩, fun q => absurd q (by decide)⟩⟩, ⟨⟨dX6_read_19, rfl⟩, rfl⟩, ⟨⟨dX6_read_20, rfl⟩, rfl⟩, ⟨⟨dX6_read_21, rfl⟩, Or.inr ⟨by decide, ⟨_, my_83, sX6_43⟩, fun q => absurd q (by decide)⟩⟩, ⟨⟨dX6_read_24, rfl⟩, rfl⟩, ⟨⟨dX6_read_25, rfl⟩, rfl⟩, ⟨⟨dX6_read_26, rfl⟩, rfl⟩, ⟨⟨dX6_read_27, rfl⟩, rfl⟩, ⟨⟨dX6_read_30, rfl⟩, rfl⟩, ⟨⟨dX6_read_31, rfl⟩, rfl⟩, ⟨⟨dX6_read_34, rfl⟩, rfl⟩, ⟨⟨dX6_read_35, rfl⟩, Or.inl ⟨by decide, _, _, fX6_47⟩⟩, ⟨⟨dX6_read_38, rfl⟩, Or.inl ⟨rfl, fX6_17⟩⟩, ⟨⟨dX6_read_41, rfl⟩, rfl⟩, trivial⟩,
  ⟨⟨⟨dX6_read_42, rfl⟩, Or.inr (Or.inl ⟨rfl, rfl⟩)⟩, trivial⟩, trivial⟩, by decide, Or.inl ⟨rfl, by decide, rfl⟩⟩
set_option maxRecDepth 100000 in
theorem g_X6_read_0 (S : sT) (call : cT) (n : Nat) (a0 : Nat) (x1 : Int32) (h : pH) : bd S call dflT E_X6_read (n + 1) 0 [some (.ref a0), some (.int x1), none] [] h = (pF h (.ref a0) 9 4 (.int 0) (fun h1 => pF h1 (.ref a0) 9 9 (.int 0) (fun h2 => pF h2 (.ref a0) 9 10 (.int 0) (fun h3 => rC h3 (.ref a0) 9 (cU (call 65 [.ref a0] h3) (fun h4 => rC h4 (.ref a0) 9 (cI (call 83 [.ref a0, .int x1] h4) (fun y6 h5 => (if y6 = 0 then gI h5 (.ref a0) 9 5 (fun y7 => pF h5 (.ref a0) 9 2 (.int y7) (fun h8 => zR y6 (some (.inl (some (.int y6)), h8)))) else pF h5 (.ref a0) 9 2 (.int (-1)) (fun h9 => zR y6 (some (.inl (some (.int y6)), h9)))))))))))) := rfl
theorem dX6_newText_0 : decode cX6_newText 0 = .ok (.bipush 6, 2) := by decide +kernel
theorem dX6_newText_2 : decode cX6_newText 2 = .ok (.aload_n 0, 1) := by decide +kernel
theorem dX6_newText_3 : decode cX6_newText 3 = .ok (.getfield 34, 3) := by decide +kernel
theorem dX6_newText_6 : decode cX6_newText 6 = .ok (.imul, 1) := by decide +kernel
theorem dX6_newText_7 : decode cX6_newText 7 = .ok (.istore_n 1, 1) := by decide +kernel
theorem dX6_newText_8 : decode cX6_newText 8 = .ok (.iload_n 1, 1) := by decide +kernel
theorem dX6_newText_9 : decode cX6_newText 9 = .ok (.ifCond .le 26, 3) := by decide +kernel
theorem dX6_newText_12 : decode cX6_newText 12 = .ok (.iload_n 1, 1) := by decide +kernel
theorem dX6_newText_13 : decode cX6_newText 13 = .ok (.bipush 96, 2) := by decide +kernel
theorem dX6_newText_15 : decode cX6_newText 15 = .ok (.if_icmp .gt 20, 3) := by decide +kernel
theorem dX6_newText_18 : decode cX6_newText 18 = .ok (.aload_n 0, 1) := by decide +kernel
theorem dX6_newText_19 : decode cX6_newText 19 = .ok (.getfield 37, 3) := by decide +kernel
theorem dX6_newText_22 : decode cX6_newText 22 = .ok (.ifCond .lt 13, 3) := by decide +kernel
theorem dX6_newText_25 : decode cX6_newText 25 = .ok (.aload_n 0, 1) := by decide +kernel
theorem dX6_newText_26 : decode cX6_newText 26 = .ok (.getfield 37, 3) := by decide +kernel
theorem dX6_newText_29 : decode cX6_newText 29 = .ok (.sipush 400, 3) := by decide +kernel
theorem dX6_newText_32 : decode cX6_newText 32 = .ok (.if_icmp .le 11, 3) := by decide +kernel
theorem dX6_newText_35 : decode cX6_newText 35 = .ok (.new 1, 3) := by decide +kernel
theorem dX6_newText_38 : decode cX6_newText 38 = .ok (.dup, 1) := by decide +kernel
theorem dX6_newText_39 : decode cX6_newText 39 = .ok (.invokespecial 50, 3) := by decide +kernel
theorem dX6_newText_42 : decode cX6_newText 42 = .ok (.areturn, 1) := by decide +kernel
theorem dX6_newText_43 : decode cX6_newText 43 = .ok (.iload_n 1, 1) := by decide +kernel
theorem dX6_newText_44 : decode cX6_newText 44 = .ok (.aload_n 0, 1) := by decide +kernel
theorem dX6_newText_45 : decode cX6_newText 45 = .ok (.getfield 37, 3) := by decide +kernel
theorem dX6_newText_48 : decode cX6_newText 48 = .ok (.iadd, 1) := by decide +kernel
theorem dX6_newText_49 : decode cX6_newText 49 = .ok (.newarray .int, 2) := by decide +kernel
theorem dX6_newText_51 : decode cX6_newText 51 = .ok (.astore_n 2, 1) := by decide +kernel
theorem dX6_newText_52 : decode cX6_newText 52 = .ok (.aload_n 0, 1) := by decide +kernel
theorem dX6_newText_53 : decode cX6_newText 53 = .ok (.getfield 21, 3) := by decide +kernel
theorem dX6_newText_56 : decode cX6_newText 56 = .ok (.iconst 0, 1) := by decide +kernel
theorem dX6_newText_57 : decode cX6_newText 57 = .ok (.aload_n 2, 1) := by decide +kernel
theorem dX6_newText_58 : decode cX6_newText 58 = .ok (.iconst 0, 1) := by decide +kernel
theorem dX6_newText_59 : decode cX6_newText 59 = .ok (.iload_n 1, 1) := by decide +kernel
theorem dX6_newText_60 : decode cX6_newText 60 = .ok (.invokestatic 51, 3) := by decide +kernel
theorem dX6_newText_63 : decode cX6_newText 63 = .ok (.aload_n 0, 1) := by decide +kernel
theorem dX6_newText_64 : decode cX6_newText 64 = .ok (.getfield 21, 3) := by decide +kernel
theorem dX6_newText_67 : decode cX6_newText 67 = .ok (.bipush 96, 2) := by decide +kernel
theorem dX6_newText_69 : decode cX6_newText 69 = .ok (.aload_n 2, 1) := by decide +kernel
theorem dX6_newText_70 : decode cX6_newText 70 = .ok (.iload_n 1, 1) := by decide +kernel
theorem dX6_newText_71 : decode cX6_newText 71 = .ok (.aload_n 0, 1) := by decide +kernel
theorem dX6_newText_72 : decode cX6_newText 72 = .ok (.getfield 37, 3) := by decide +kernel
theorem dX6_newText_75 : decode cX6_newText 75 = .ok (.invokestatic 51, 3) := by decide +kernel
theorem dX6_newText_78 : decode cX6_newText 78 = .ok (.new 1, 3) := by decide +kernel
theorem dX6_newText_81 : decode cX6_newText 81 = .ok (.dup, 1) := by decide +kernel
theorem dX6_newText_82 : decode cX6_newText 82 = .ok (.aload_n 0, 1) := by decide +kernel
theorem dX6_newText_83 : decode cX6_newText 83 = .ok (.getfield 34, 3) := by decide +kernel
theorem dX6_newText_86 : decode cX6_newText 86 = .ok (.aload_n 2, 1) := by decide +kernel
theorem dX6_newText_87 : decode cX6_newText 87 = .ok (.invokespecial 57, 3) := by decide +kernel
theorem dX6_newText_90 : decode cX6_newText 90 = .ok (.areturn, 1) := by decide +kernel
noncomputable def E_X6_newText : mE := (mX6_newText, [(45, [(0, (.bipush 6, 2, false, false, 0, 0, 0, 0, 6, 0, [])), (2, (.aload_n 0, 3, false, false, 0, 0, 0, 0, 0, 0, [])), (3, (.getfield 34, 6, false, false, 9, 9, 0, 0, 0, 0, [])), (6, (.imul, 7, false, false, 0, 0, 0, 0, 0, 0, [])), (7, (.istore_n 1, 8, false, false, 1, 0, 0, 0, 0, 0, [])), (8, (.iload_n 1, 9, false, false, 1, 0, 0, 0, 0, 0, [])), (9, (.ifCond .le 26, 12, false, false, 35, 0, 0, 0, 0, 0, [])), (12, (.iload_n 1, 13, false, false, 1, 0, 0, 0, 0, 0, [])), (13, (.bipush 96, 15, false, false, 0, 0, 0, 0, 96, 0, [])), (15, (.if_icmp .gt 20, 18, false, false, 35, 0, 0, 0, 0, 0, [])), (18, (.aload_n 0, 19, false, false, 0, 0, 0, 0, 0, 0, [])), (19, (.getfield 37, 22, false, false, 9, 10, 0, 0, 0, 0, [])), (22, (.ifCond .lt 13, 25, false, false, 35, 0, 0, 0, 0, 0, [])), (25, (.aload_n 0, 26, false, false, 0, 0, 0, 0, 0, 0, [])), (26, (.getfield 37, 29, false, false, 9, 10, 0, 0, 0, 0, [])), (29, (.sipush 400, 32, false, false, 0, 0, 0, 0, 400, 0, [])), (32, (.if_icmp .le 11, 35, false, false, 43, 0, 0, 0, 0, 0, [])), (35, (.new 1, 38, false, false, 11, 0, 0, 0, 0, 0, [])), (38, (.dup, 39, false, false, 0, 0, 0, 0, 0, 0, [])), (39, (.invokespecial 50, 42, false, false, 3, 0, 0, 0, 0, 0, [])), (42, (.areturn, 43, false, false, 0, 0, 0, 0, 0, 0, [])), (43, (.iload_n 1, 44, false, false, 1, 0, 0, 0, 0, 0, [])), (44, (.aload_n 0, 45, false, false, 0, 0, 0, 0, 0, 0, [])), (45, (.getfield 37, 48, false, false, 9, 10, 0, 0, 0, 0, []))]),
  (87, [(48, (.iadd, 49, false, false, 0, 0, 0, 0, 0, 0, [])), (49, (.newarray .int, 51, false, false, 0, 0, 0, 0, 0, 0, [])), (51, (.astore_n 2, 52, false, false, 2, 0, 0, 0, 0, 0, [])), (52, (.aload_n 0, 53, false, false, 0, 0, 0, 0, 0, 0, [])), (53, (.getfield 21, 56, false, false, 9, 8, 1, 0, 0, 0, [])), (56, (.iconst 0, 57, false, false, 0, 0, 0, 0, 0, 0, [])), (57, (.aload_n 2, 58, false, false, 2, 0, 0, 0, 0, 0, [])), (58, (.iconst 0, 59, false, false, 0, 0, 0, 0, 0, 0, [])), (59, (.iload_n 1, 60, false, false, 1, 0, 0, 0, 0, 0, [])), (60, (.invokestatic 51, 63, false, false, 0, 5, 0, 2, 0, 0, [])), (63, (.aload_n 0, 64, false, false, 0, 0, 0, 0, 0, 0, [])), (64, (.getfield 21, 67, false, false, 9, 8, 1, 0, 0, 0, [])), (67, (.bipush 96, 69, false, false, 0, 0, 0, 0, 96, 0, [])), (69, (.aload_n 2, 70, false, false, 2, 0, 0, 0, 0, 0, [])), (70, (.iload_n 1, 71, false, false, 1, 0, 0, 0, 0, 0, [])), (71, (.aload_n 0, 72, false, false, 0, 0, 0, 0, 0, 0, [])), (72, (.getfield 37, 75, false, false, 9, 10, 0, 0, 0, 0, [])), (75, (.invokestatic 51, 78, false, false, 0, 5, 0, 2, 0, 0, [])), (78, (.new 1, 81, false, false, 11, 0, 0, 0, 0, 0, [])), (81, (.dup, 82, false, false, 0, 0, 0, 0, 0, 0, [])), (82, (.aload_n 0, 83, false, false, 0, 0, 0, 0, 0, 0, [])), (83, (.getfield 34, 86, false, false, 9, 9, 0, 0, 0, 0, [])), (86, (.aload_n 2, 87, false, false, 2, 0, 0, 0, 0, 0, [])), (87, (.invokespecial 57, 90, false, false, 107, 2, 0, 0, 0, 0, []))]),
  (90, [(90, (.areturn, 91, false, false, 0, 0, 0, 0, 0, 0, []))])], 0, [])
set_option maxRecDepth 100000 in
theorem v_X6_newText : VE MYT dflT E_X6_newText := ⟨⟨⟨⟨⟨dX6_newText_0, rfl⟩, rfl⟩, ⟨⟨dX6_newText_2, rfl⟩, rfl⟩, ⟨⟨dX6_newText_3, rfl⟩, Or.inl ⟨by decide, _, _, fX6_34⟩⟩, ⟨⟨dX6_newText_6, rfl⟩, trivial⟩, ⟨⟨dX6_newText_7, rfl⟩, rfl⟩, ⟨⟨dX6_newText_8, rfl⟩, rfl⟩, ⟨⟨dX6_newText_9, rfl⟩, rfl⟩, ⟨⟨dX6_newText_12, rfl⟩, rfl⟩, ⟨⟨dX6_newText_13, rfl⟩, rfl⟩, ⟨⟨dX6_newText_15, rfl⟩, rfl⟩, ⟨⟨dX6_newText_18, rfl⟩, rfl⟩, ⟨⟨dX6_newText_19, rfl⟩, Or.inl ⟨by decide, _, _, fX6_37⟩⟩, ⟨⟨dX6_newText_22, rfl⟩, rfl⟩, ⟨⟨dX6_newText_25, rfl⟩, rfl⟩, ⟨⟨dX6_newText_26, rfl⟩, Or.inl ⟨by decide, _, _, fX6_37⟩⟩, ⟨⟨dX6_newText_29, rfl⟩, rfl⟩, ⟨⟨dX6_newText_32, rfl⟩, rfl⟩, ⟨⟨dX6_newText_35, rfl⟩, Or.inl ⟨rfl, _, rfl, nX6_1⟩⟩, ⟨⟨dX6_newText_38, rfl⟩, trivial⟩, ⟨⟨dX6_newText_39, rfl⟩, Or.inl ⟨rfl, _, my_3, sX6_50⟩⟩, ⟨⟨dX6_newText_42, rfl⟩, ⟨_, rfl⟩⟩, ⟨⟨dX6_newText_43, rfl⟩, rfl⟩, ⟨⟨dX6_newText_44, rfl⟩, rfl⟩, ⟨⟨dX6_newText_45, rfl⟩, Or.inl ⟨by decide, _, _, fX6_37⟩⟩, trivial⟩,
  ⟨⟨⟨dX6_newText_48, rfl⟩, trivial⟩, ⟨⟨dX6_newText_49, rfl⟩, Or.inl ⟨rfl, rfl, a_int⟩⟩, ⟨⟨dX6_newText_51, rfl⟩, rfl⟩, ⟨⟨dX6_newText_52, rfl⟩, rfl⟩, ⟨⟨dX6_newText_53, rfl⟩, Or.inl ⟨by decide, _, _, fX6_21⟩⟩, ⟨⟨dX6_newText_56, rfl⟩, rfl⟩, ⟨⟨dX6_newText_57, rfl⟩, rfl⟩, ⟨⟨dX6_newText_58, rfl⟩, rfl⟩, ⟨⟨dX6_newText_59, rfl⟩, rfl⟩, ⟨⟨dX6_newText_60, rfl⟩, Or.inr (Or.inr (Or.inl ⟨rfl, acX6_51, ac_1, ac_2, ac_3⟩))⟩, ⟨⟨dX6_newText_63, rfl⟩, rfl⟩, ⟨⟨dX6_newText_64, rfl⟩, Or.inl ⟨by decide, _, _, fX6_21⟩⟩, ⟨⟨dX6_newText_67, rfl⟩, rfl⟩, ⟨⟨dX6_newText_69, rfl⟩, rfl⟩, ⟨⟨dX6_newText_70, rfl⟩, rfl⟩, ⟨⟨dX6_newText_71, rfl⟩, rfl⟩, ⟨⟨dX6_newText_72, rfl⟩, Or.inl ⟨by decide, _, _, fX6_37⟩⟩, ⟨⟨dX6_newText_75, rfl⟩, Or.inr (Or.inr (Or.inl ⟨rfl, acX6_51, ac_1, ac_2, ac_3⟩))⟩, ⟨⟨dX6_newText_78, rfl⟩, Or.inl ⟨rfl, _, rfl, nX6_1⟩⟩, ⟨⟨dX6_newText_81, rfl⟩, trivial⟩, ⟨⟨dX6_newText_82, rfl⟩, rfl⟩, ⟨⟨dX6_newText_83, rfl⟩, Or.inl ⟨by decide, _, _, fX6_34⟩⟩, ⟨⟨dX6_newText_86, rfl⟩, rfl⟩, ⟨⟨dX6_newText_87, rfl⟩, Or.inl ⟨rfl, _, my_107, sX6_57⟩⟩, trivial⟩,
  ⟨⟨⟨dX6_newText_90, rfl⟩, ⟨_, rfl⟩⟩, trivial⟩, trivial⟩, by decide, Or.inl ⟨rfl, by decide, rfl⟩⟩
set_option maxRecDepth 100000 in
theorem g_X6_newText_0 (S : sT) (call : cT) (n : Nat) (a0 : Nat) (h : pH) : bd S call dflT E_X6_newText (n + 1) 0 [some (.ref a0), none, none] [] h = (gI h (.ref a0) 9 9 (fun y1 => (if (6 * y1) ≤ 0 then cUx tN (call 3 [.ref (List.length h)] (h ++ [.inr (11, dflT 11)])) (fun h2 => some (.inl (some (.ref (List.length h))), h2)) else (if 96 < (6 * y1) then cUx tN (call 3 [.ref (List.length h)] (h ++ [.inr (11, dflT 11)])) (fun h3 => some (.inl (some (.ref (List.length h))), h3)) else gI h (.ref a0) 9 10 (fun y4 => (if y4 < 0 then cUx tN (call 3 [.ref (List.length h)] (h ++ [.inr (11, dflT 11)])) (fun h5 => some (.inl (some (.ref (List.length h))), h5)) else gI h (.ref a0) 9 10 (fun y6 => (if y6 ≤ 400 then gI h (.ref a0) 9 10 (fun y7 => mkI h 0 ((6 * y1) + y7) (fun h8 => gV h8 (.ref a0) 9 8 (fun w9 => cpI h8 w9 0 (.ref (List.length h)) 0 (6 * y1) (fun h10 => gV h10 (.ref a0) 9 8 (fun w11 => gI h10 (.ref a0) 9 10 (fun y12 => cpI h10 w11 96 (.ref (List.length h)) (6 * y1) y12 (fun h13 => gI (h13 ++ [.inr (11, dflT 11)]) (.ref a0) 9 9 (fun y14 => cUx tN (call 107 [.ref (List.length h13), .int y14, .ref (List.length h)] (h13 ++ [.inr (11, dflT 11)])) (fun h15 => some (.inl (some (.ref (List.length h13))), h15)))))))))) else cUx tN (call 3 [.ref (List.length h)] (h ++ [.inr (11, dflT 11)])) (fun h16 => some (.inl (some (.ref (List.length h))), h16)))))))))) := rfl
