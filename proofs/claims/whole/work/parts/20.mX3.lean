/-! by program: methods as data, that they are right, what their bodies do -/
theorem dX3_init_0 : decode cX3_init 0 = .ok (.aload_n 0, 1) := by decide +kernel
theorem dX3_init_1 : decode cX3_init 1 = .ok (.invokespecial 3, 3) := by decide +kernel
theorem dX3_init_4 : decode cX3_init 4 = .ok (.aload_n 0, 1) := by decide +kernel
theorem dX3_init_5 : decode cX3_init 5 = .ok (.sipush 240, 3) := by decide +kernel
theorem dX3_init_8 : decode cX3_init 8 = .ok (.newarray .int, 2) := by decide +kernel
theorem dX3_init_10 : decode cX3_init 10 = .ok (.putfield 11, 3) := by decide +kernel
theorem dX3_init_13 : decode cX3_init 13 = .ok (.aload_n 0, 1) := by decide +kernel
theorem dX3_init_14 : decode cX3_init 14 = .ok (.bipush 12, 2) := by decide +kernel
theorem dX3_init_16 : decode cX3_init 16 = .ok (.newarray .int, 2) := by decide +kernel
theorem dX3_init_18 : decode cX3_init 18 = .ok (.putfield 15, 3) := by decide +kernel
theorem dX3_init_21 : decode cX3_init 21 = .ok (.aload_n 0, 1) := by decide +kernel
theorem dX3_init_22 : decode cX3_init 22 = .ok (.bipush 12, 2) := by decide +kernel
theorem dX3_init_24 : decode cX3_init 24 = .ok (.newarray .int, 2) := by decide +kernel
theorem dX3_init_26 : decode cX3_init 26 = .ok (.putfield 18, 3) := by decide +kernel
theorem dX3_init_29 : decode cX3_init 29 = .ok (.aload_n 0, 1) := by decide +kernel
theorem dX3_init_30 : decode cX3_init 30 = .ok (.bipush 12, 2) := by decide +kernel
theorem dX3_init_32 : decode cX3_init 32 = .ok (.newarray .int, 2) := by decide +kernel
theorem dX3_init_34 : decode cX3_init 34 = .ok (.putfield 21, 3) := by decide +kernel
theorem dX3_init_37 : decode cX3_init 37 = .ok (.return_, 1) := by decide +kernel
noncomputable def E_X3_init : mE := (mX3_init, [(37, [(0, (.aload_n 0, 1, false, false, 0, 0, 0, 0, 0, 0, [])), (1, (.invokespecial 3, 4, false, false, 0, 0, 0, 1, 0, 0, [])), (4, (.aload_n 0, 5, false, false, 0, 0, 0, 0, 0, 0, [])), (5, (.sipush 240, 8, false, false, 0, 0, 0, 0, 240, 0, [])), (8, (.newarray .int, 10, false, false, 0, 0, 0, 0, 0, 0, [])), (10, (.putfield 11, 13, false, false, 6, 7, 4, 0, 0, 0, [])), (13, (.aload_n 0, 14, false, false, 0, 0, 0, 0, 0, 0, [])), (14, (.bipush 12, 16, false, false, 0, 0, 0, 0, 12, 0, [])), (16, (.newarray .int, 18, false, false, 0, 0, 0, 0, 0, 0, [])), (18, (.putfield 15, 21, false, false, 6, 9, 4, 0, 0, 0, [])), (21, (.aload_n 0, 22, false, false, 0, 0, 0, 0, 0, 0, [])), (22, (.bipush 12, 24, false, false, 0, 0, 0, 0, 12, 0, [])), (24, (.newarray .int, 26, false, false, 0, 0, 0, 0, 0, 0, [])), (26, (.putfield 18, 29, false, false, 6, 10, 4, 0, 0, 0, [])), (29, (.aload_n 0, 30, false, false, 0, 0, 0, 0, 0, 0, [])), (30, (.bipush 12, 32, false, false, 0, 0, 0, 0, 12, 0, [])), (32, (.newarray .int, 34, false, false, 0, 0, 0, 0, 0, 0, [])), (34, (.putfield 21, 37, false, false, 6, 11, 4, 0, 0, 0, [])), (37, (.return_, 38, false, false, 0, 0, 0, 0, 0, 0, []))])], 0, [])
set_option maxRecDepth 100000 in
theorem v_X3_init : VE MYT dflT E_X3_init := ⟨⟨⟨⟨⟨dX3_init_0, rfl⟩, rfl⟩, ⟨⟨dX3_init_1, rfl⟩, Or.inr ⟨rfl, oX3_3, o_1, o_2⟩⟩, ⟨⟨dX3_init_4, rfl⟩, rfl⟩, ⟨⟨dX3_init_5, rfl⟩, rfl⟩, ⟨⟨dX3_init_8, rfl⟩, Or.inl ⟨rfl, rfl, a_int⟩⟩, ⟨⟨dX3_init_10, rfl⟩, Or.inr (Or.inr (Or.inr (Or.inr ⟨rfl, ⟨_, (Or.inr ⟨_, rfl⟩), fX3_11⟩, rfl, rfl⟩)))⟩, ⟨⟨dX3_init_13, rfl⟩, rfl⟩, ⟨⟨dX3_init_14, rfl⟩, rfl⟩, ⟨⟨dX3_init_16, rfl⟩, Or.inl ⟨rfl, rfl, a_int⟩⟩, ⟨⟨dX3_init_18, rfl⟩, Or.inr (Or.inr (Or.inr (Or.inr ⟨rfl, ⟨_, (Or.inr ⟨_, rfl⟩), fX3_15⟩, rfl, rfl⟩)))⟩, ⟨⟨dX3_init_21, rfl⟩, rfl⟩, ⟨⟨dX3_init_22, rfl⟩, rfl⟩, ⟨⟨dX3_init_24, rfl⟩, Or.inl ⟨rfl, rfl, a_int⟩⟩, ⟨⟨dX3_init_26, rfl⟩, Or.inr (Or.inr (Or.inr (Or.inr ⟨rfl, ⟨_, (Or.inr ⟨_, rfl⟩), fX3_18⟩, rfl, rfl⟩)))⟩, ⟨⟨dX3_init_29, rfl⟩, rfl⟩, ⟨⟨dX3_init_30, rfl⟩, rfl⟩, ⟨⟨dX3_init_32, rfl⟩, Or.inl ⟨rfl, rfl, a_int⟩⟩, ⟨⟨dX3_init_34, rfl⟩, Or.inr (Or.inr (Or.inr (Or.inr ⟨rfl, ⟨_, (Or.inr ⟨_, rfl⟩), fX3_21⟩, rfl, rfl⟩)))⟩, ⟨⟨dX3_init_37, rfl⟩, rfl⟩, trivial⟩, trivial⟩, by decide, Or.inl ⟨rfl, by decide, rfl⟩⟩
set_option maxRecDepth 100000 in
theorem g_X3_init_0 (S : sT) (call : cT) (n : Nat) (a0 : Nat) (h : pH) : bd S call dflT E_X3_init (n + 1) 0 [some (.ref a0)] [] h = (mkI h 0 240 (fun h1 => pF h1 (.ref a0) 6 7 (.ref (List.length h)) (fun h2 => mkI h2 0 12 (fun h3 => pF h3 (.ref a0) 6 9 (.ref (List.length h2)) (fun h4 => mkI h4 0 12 (fun h5 => pF h5 (.ref a0) 6 10 (.ref (List.length h4)) (fun h6 => mkI h6 0 12 (fun h7 => pF h7 (.ref a0) 6 11 (.ref (List.length h6)) (fun h8 => some (.inl none, h8)))))))))) := rfl
theorem dX3_note_0 : decode cX3_note 0 = .ok (.aload_n 0, 1) := by decide +kernel
theorem dX3_note_1 : decode cX3_note 1 = .ok (.getfield 43, 3) := by decide +kernel
theorem dX3_note_4 : decode cX3_note 4 = .ok (.bipush 60, 2) := by decide +kernel
theorem dX3_note_6 : decode cX3_note 6 = .ok (.if_icmp .ge 60, 3) := by decide +kernel
theorem dX3_note_9 : decode cX3_note 9 = .ok (.aload_n 0, 1) := by decide +kernel
theorem dX3_note_10 : decode cX3_note 10 = .ok (.getfield 11, 3) := by decide +kernel
theorem dX3_note_13 : decode cX3_note 13 = .ok (.aload_n 0, 1) := by decide +kernel
theorem dX3_note_14 : decode cX3_note 14 = .ok (.getfield 43, 3) := by decide +kernel
theorem dX3_note_17 : decode cX3_note 17 = .ok (.iconst 4, 1) := by decide +kernel
theorem dX3_note_18 : decode cX3_note 18 = .ok (.imul, 1) := by decide +kernel
theorem dX3_note_19 : decode cX3_note 19 = .ok (.iload_n 1, 1) := by decide +kernel
theorem dX3_note_20 : decode cX3_note 20 = .ok (.iastore, 1) := by decide +kernel
theorem dX3_note_21 : decode cX3_note 21 = .ok (.aload_n 0, 1) := by decide +kernel
theorem dX3_note_22 : decode cX3_note 22 = .ok (.getfield 11, 3) := by decide +kernel
theorem dX3_note_25 : decode cX3_note 25 = .ok (.aload_n 0, 1) := by decide +kernel
theorem dX3_note_26 : decode cX3_note 26 = .ok (.getfield 43, 3) := by decide +kernel
theorem dX3_note_29 : decode cX3_note 29 = .ok (.iconst 4, 1) := by decide +kernel
theorem dX3_note_30 : decode cX3_note 30 = .ok (.imul, 1) := by decide +kernel
theorem dX3_note_31 : decode cX3_note 31 = .ok (.iconst 1, 1) := by decide +kernel
theorem dX3_note_32 : decode cX3_note 32 = .ok (.iadd, 1) := by decide +kernel
theorem dX3_note_33 : decode cX3_note 33 = .ok (.iload_n 2, 1) := by decide +kernel
theorem dX3_note_34 : decode cX3_note 34 = .ok (.iastore, 1) := by decide +kernel
theorem dX3_note_35 : decode cX3_note 35 = .ok (.aload_n 0, 1) := by decide +kernel
theorem dX3_note_36 : decode cX3_note 36 = .ok (.getfield 11, 3) := by decide +kernel
theorem dX3_note_39 : decode cX3_note 39 = .ok (.aload_n 0, 1) := by decide +kernel
theorem dX3_note_40 : decode cX3_note 40 = .ok (.getfield 43, 3) := by decide +kernel
theorem dX3_note_43 : decode cX3_note 43 = .ok (.iconst 4, 1) := by decide +kernel
theorem dX3_note_44 : decode cX3_note 44 = .ok (.imul, 1) := by decide +kernel
theorem dX3_note_45 : decode cX3_note 45 = .ok (.iconst 2, 1) := by decide +kernel
theorem dX3_note_46 : decode cX3_note 46 = .ok (.iadd, 1) := by decide +kernel
theorem dX3_note_47 : decode cX3_note 47 = .ok (.iload_n 3, 1) := by decide +kernel
theorem dX3_note_48 : decode cX3_note 48 = .ok (.iastore, 1) := by decide +kernel
theorem dX3_note_49 : decode cX3_note 49 = .ok (.aload_n 0, 1) := by decide +kernel
theorem dX3_note_50 : decode cX3_note 50 = .ok (.getfield 11, 3) := by decide +kernel
theorem dX3_note_53 : decode cX3_note 53 = .ok (.aload_n 0, 1) := by decide +kernel
theorem dX3_note_54 : decode cX3_note 54 = .ok (.getfield 43, 3) := by decide +kernel
theorem dX3_note_57 : decode cX3_note 57 = .ok (.iconst 4, 1) := by decide +kernel
theorem dX3_note_58 : decode cX3_note 58 = .ok (.imul, 1) := by decide +kernel
theorem dX3_note_59 : decode cX3_note 59 = .ok (.iconst 3, 1) := by decide +kernel
theorem dX3_note_60 : decode cX3_note 60 = .ok (.iadd, 1) := by decide +kernel
theorem dX3_note_61 : decode cX3_note 61 = .ok (.aload_n 0, 1) := by decide +kernel
theorem dX3_note_62 : decode cX3_note 62 = .ok (.getfield 40, 3) := by decide +kernel
theorem dX3_note_65 : decode cX3_note 65 = .ok (.iastore, 1) := by decide +kernel
theorem dX3_note_66 : decode cX3_note 66 = .ok (.aload_n 0, 1) := by decide +kernel
theorem dX3_note_67 : decode cX3_note 67 = .ok (.dup, 1) := by decide +kernel
theorem dX3_note_68 : decode cX3_note 68 = .ok (.getfield 43, 3) := by decide +kernel
theorem dX3_note_71 : decode cX3_note 71 = .ok (.iconst 1, 1) := by decide +kernel
theorem dX3_note_72 : decode cX3_note 72 = .ok (.iadd, 1) := by decide +kernel
theorem dX3_note_73 : decode cX3_note 73 = .ok (.putfield 43, 3) := by decide +kernel
theorem dX3_note_76 : decode cX3_note 76 = .ok (.return_, 1) := by decide +kernel
noncomputable def E_X3_note : mE := (mX3_note, [(36, [(0, (.aload_n 0, 1, false, false, 0, 0, 0, 0, 0, 0, [])), (1, (.getfield 43, 4, false, false, 6, 6, 0, 0, 0, 0, [])), (4, (.bipush 60, 6, false, false, 0, 0, 0, 0, 60, 0, [])), (6, (.if_icmp .ge 60, 9, false, false, 66, 0, 0, 0, 0, 0, [])), (9, (.aload_n 0, 10, false, false, 0, 0, 0, 0, 0, 0, [])), (10, (.getfield 11, 13, false, false, 6, 7, 1, 0, 0, 0, [])), (13, (.aload_n 0, 14, false, false, 0, 0, 0, 0, 0, 0, [])), (14, (.getfield 43, 17, false, false, 6, 6, 0, 0, 0, 0, [])), (17, (.iconst 4, 18, false, false, 0, 0, 0, 0, 4, 0, [])), (18, (.imul, 19, false, false, 0, 0, 0, 0, 0, 0, [])), (19, (.iload_n 1, 20, false, false, 1, 0, 0, 0, 0, 0, [])), (20, (.iastore, 21, false, false, 0, 0, 0, 0, 0, 0, [])), (21, (.aload_n 0, 22, false, false, 0, 0, 0, 0, 0, 0, [])), (22, (.getfield 11, 25, false, false, 6, 7, 1, 0, 0, 0, [])), (25, (.aload_n 0, 26, false, false, 0, 0, 0, 0, 0, 0, [])), (26, (.getfield 43, 29, false, false, 6, 6, 0, 0, 0, 0, [])), (29, (.iconst 4, 30, false, false, 0, 0, 0, 0, 4, 0, [])), (30, (.imul, 31, false, false, 0, 0, 0, 0, 0, 0, [])), (31, (.iconst 1, 32, false, false, 0, 0, 0, 0, 1, 0, [])), (32, (.iadd, 33, false, false, 0, 0, 0, 0, 0, 0, [])), (33, (.iload_n 2, 34, false, false, 2, 0, 0, 0, 0, 0, [])), (34, (.iastore, 35, false, false, 0, 0, 0, 0, 0, 0, [])), (35, (.aload_n 0, 36, false, false, 0, 0, 0, 0, 0, 0, [])), (36, (.getfield 11, 39, false, false, 6, 7, 1, 0, 0, 0, []))]),
  (72, [(39, (.aload_n 0, 40, false, false, 0, 0, 0, 0, 0, 0, [])), (40, (.getfield 43, 43, false, false, 6, 6, 0, 0, 0, 0, [])), (43, (.iconst 4, 44, false, false, 0, 0, 0, 0, 4, 0, [])), (44, (.imul, 45, false, false, 0, 0, 0, 0, 0, 0, [])), (45, (.iconst 2, 46, false, false, 0, 0, 0, 0, 2, 0, [])), (46, (.iadd, 47, false, false, 0, 0, 0, 0, 0, 0, [])), (47, (.iload_n 3, 48, false, false, 3, 0, 0, 0, 0, 0, [])), (48, (.iastore, 49, false, false, 0, 0, 0, 0, 0, 0, [])), (49, (.aload_n 0, 50, false, false, 0, 0, 0, 0, 0, 0, [])), (50, (.getfield 11, 53, false, false, 6, 7, 1, 0, 0, 0, [])), (53, (.aload_n 0, 54, false, false, 0, 0, 0, 0, 0, 0, [])), (54, (.getfield 43, 57, false, false, 6, 6, 0, 0, 0, 0, [])), (57, (.iconst 4, 58, false, false, 0, 0, 0, 0, 4, 0, [])), (58, (.imul, 59, false, false, 0, 0, 0, 0, 0, 0, [])), (59, (.iconst 3, 60, false, false, 0, 0, 0, 0, 3, 0, [])), (60, (.iadd, 61, false, false, 0, 0, 0, 0, 0, 0, [])), (61, (.aload_n 0, 62, false, false, 0, 0, 0, 0, 0, 0, [])), (62, (.getfield 40, 65, false, false, 6, 5, 0, 0, 0, 0, [])), (65, (.iastore, 66, false, false, 0, 0, 0, 0, 0, 0, [])), (66, (.aload_n 0, 67, false, false, 0, 0, 0, 0, 0, 0, [])), (67, (.dup, 68, false, false, 0, 0, 0, 0, 0, 0, [])), (68, (.getfield 43, 71, false, false, 6, 6, 0, 0, 0, 0, [])), (71, (.iconst 1, 72, false, false, 0, 0, 0, 0, 1, 0, [])), (72, (.iadd, 73, false, false, 0, 0, 0, 0, 0, 0, []))]),
  (76, [(73, (.putfield 43, 76, false, false, 6, 6, 0, 0, 0, 0, [])), (76, (.return_, 77, false, false, 0, 0, 0, 0, 0, 0, []))])], 0, [])
set_option maxRecDepth 100000 in
theorem v_X3_note : VE MYT dflT E_X3_note := ⟨⟨⟨⟨⟨dX3_note_0, rfl⟩, rfl⟩, ⟨⟨dX3_note_1, rfl⟩, Or.inl ⟨by decide, _, _, fX3_43⟩⟩, ⟨⟨dX3_note_4, rfl⟩, rfl⟩, ⟨⟨dX3_note_6, rfl⟩, rfl⟩, ⟨⟨dX3_note_9, rfl⟩, rfl⟩, ⟨⟨dX3_note_10, rfl⟩, Or.inl ⟨by decide, _, _, fX3_11⟩⟩, ⟨⟨dX3_note_13, rfl⟩, rfl⟩, ⟨⟨dX3_note_14, rfl⟩, Or.inl ⟨by decide, _, _, fX3_43⟩⟩, ⟨⟨dX3_note_17, rfl⟩, rfl⟩, ⟨⟨dX3_note_18, rfl⟩, trivial⟩, ⟨⟨dX3_note_19, rfl⟩, rfl⟩, ⟨⟨dX3_note_20, rfl⟩, trivial⟩, ⟨⟨dX3_note_21, rfl⟩, rfl⟩, ⟨⟨dX3_note_22, rfl⟩, Or.inl ⟨by decide, _, _, fX3_11⟩⟩, ⟨⟨dX3_note_25, rfl⟩, rfl⟩, ⟨⟨dX3_note_26, rfl⟩, Or.inl ⟨by decide, _, _, fX3_43⟩⟩, ⟨⟨dX3_note_29, rfl⟩, rfl⟩, ⟨⟨dX3_note_30, rfl⟩, trivial⟩, ⟨⟨dX3_note_31, rfl⟩, rfl⟩, ⟨⟨dX3_note_32, rfl⟩, trivial⟩, ⟨⟨dX3_note_33, rfl⟩, rfl⟩, ⟨⟨dX3_note_34, rfl⟩, trivial⟩, ⟨⟨dX3_note_35, rfl⟩, rfl⟩, ⟨⟨dX3_note_36, rfl⟩, Or.inl ⟨by decide, _, _, fX3_11⟩⟩, trivial⟩,
  ⟨⟨⟨dX3_note_39, rfl⟩, rfl⟩, ⟨⟨dX3_note_40, rfl⟩, Or.inl ⟨by decide, _, _, fX3_43⟩⟩, ⟨⟨dX3_note_43, rfl⟩, rfl⟩, ⟨⟨dX3_note_44, rfl⟩, trivial⟩, ⟨⟨dX3_note_45, rfl⟩, rfl⟩, ⟨⟨dX3_note_46, rfl⟩, trivial⟩, ⟨⟨dX3_note_47, rfl⟩, rfl⟩, ⟨⟨dX3_note_48, rfl⟩, trivial⟩, ⟨⟨dX3_note_49, rfl⟩, rfl⟩, ⟨⟨dX3_note_50, rfl⟩, Or.inl ⟨by decide, _, _, fX3_11⟩⟩, ⟨⟨dX3_note_53, rfl⟩, rfl⟩, ⟨⟨dX3_note_54, rfl⟩, Or.inl ⟨by decide, _, _, fX3_43⟩⟩, ⟨⟨dX3_note_57, rfl⟩, rfl⟩, ⟨⟨dX3_note_58, rfl⟩, trivial⟩, ⟨⟨dX3_note_59, rfl⟩, rfl⟩, ⟨⟨dX3_note_60, rfl⟩, trivial⟩, ⟨⟨dX3_note_61, rfl⟩, rfl⟩, ⟨⟨dX3_note_62, rfl⟩, Or.inl ⟨by decide, _, _, fX3_40⟩⟩, ⟨⟨dX3_note_65, rfl⟩, trivial⟩, ⟨⟨dX3_note_66, rfl⟩, rfl⟩, ⟨⟨dX3_note_67, rfl⟩, trivial⟩, ⟨⟨dX3_note_68, rfl⟩, Or.inl ⟨by decide, _, _, fX3_43⟩⟩, ⟨⟨dX3_note_71, rfl⟩, rfl⟩, ⟨⟨dX3_note_72, rfl⟩, trivial⟩, trivial⟩,
  ⟨⟨⟨dX3_note_73, rfl⟩, Or.inl ⟨rfl, fX3_43⟩⟩, ⟨⟨dX3_note_76, rfl⟩, rfl⟩, trivial⟩, trivial⟩, by decide, Or.inl ⟨rfl, by decide, rfl⟩⟩
set_option maxRecDepth 100000 in
theorem g_X3_note_0 (S : sT) (call : cT) (n : Nat) (a0 : Nat) (x1 : Int32) (x2 : Int32) (x3 : Int32) (h : pH) : bd S call dflT E_X3_note (n + 1) 0 [some (.ref a0), some (.int x1), some (.int x2), some (.int x3)] [] h = (gI h (.ref a0) 6 6 (fun y1 => (if 60 ≤ y1 then gI h (.ref a0) 6 6 (fun y2 => pF h (.ref a0) 6 6 (.int (y2 + 1)) (fun h3 => some (.inl none, h3))) else gV h (.ref a0) 6 7 (fun w4 => gI h (.ref a0) 6 6 (fun y5 => sI h w4 0 (y5 * 4) x1 (fun h6 => gV h6 (.ref a0) 6 7 (fun w7 => gI h6 (.ref a0) 6 6 (fun y8 => sI h6 w7 0 ((y8 * 4) + 1) x2 (fun h9 => gV h9 (.ref a0) 6 7 (fun w10 => gI h9 (.ref a0) 6 6 (fun y11 => sI h9 w10 0 ((y11 * 4) + 2) x3 (fun h12 => gV h12 (.ref a0) 6 7 (fun w13 => gI h12 (.ref a0) 6 6 (fun y14 => gI h12 (.ref a0) 6 5 (fun y15 => sI h12 w13 0 ((y14 * 4) + 3) y15 (fun h16 => gI h16 (.ref a0) 6 6 (fun y17 => pF h16 (.ref a0) 6 6 (.int (y17 + 1)) (fun h18 => some (.inl none, h18))))))))))))))))))) := rfl
theorem dX3_addHarvest_0 : decode cX3_addHarvest 0 = .ok (.aload_n 0, 1) := by decide +kernel
theorem dX3_addHarvest_1 : decode cX3_addHarvest 1 = .ok (.aload_n 0, 1) := by decide +kernel
theorem dX3_addHarvest_2 : decode cX3_addHarvest 2 = .ok (.getfield 31, 3) := by decide +kernel
theorem dX3_addHarvest_5 : decode cX3_addHarvest 5 = .ok (.i2l, 1) := by decide +kernel
theorem dX3_addHarvest_6 : decode cX3_addHarvest 6 = .ok (.iload_n 1, 1) := by decide +kernel
theorem dX3_addHarvest_7 : decode cX3_addHarvest 7 = .ok (.i2l, 1) := by decide +kernel
theorem dX3_addHarvest_8 : decode cX3_addHarvest 8 = .ok (.ladd, 1) := by decide +kernel
theorem dX3_addHarvest_9 : decode cX3_addHarvest 9 = .ok (.invokestatic 55, 3) := by decide +kernel
theorem dX3_addHarvest_12 : decode cX3_addHarvest 12 = .ok (.putfield 31, 3) := by decide +kernel
theorem dX3_addHarvest_15 : decode cX3_addHarvest 15 = .ok (.return_, 1) := by decide +kernel
noncomputable def E_X3_addHarvest : mE := (mX3_addHarvest, [(15, [(0, (.aload_n 0, 1, false, false, 0, 0, 0, 0, 0, 0, [])), (1, (.aload_n 0, 2, false, false, 0, 0, 0, 0, 0, 0, [])), (2, (.getfield 31, 5, false, false, 6, 2, 0, 0, 0, 0, [])), (5, (.i2l, 6, false, false, 0, 0, 0, 0, 0, 0, [])), (6, (.iload_n 1, 7, false, false, 1, 0, 0, 0, 0, 0, [])), (7, (.i2l, 8, false, false, 0, 0, 0, 0, 0, 0, [])), (8, (.ladd, 9, false, false, 0, 0, 0, 0, 0, 0, [])), (9, (.invokestatic 55, 12, false, false, 103, 1, 1, 1, 0, 0, [])), (12, (.putfield 31, 15, false, false, 6, 2, 0, 0, 0, 0, [])), (15, (.return_, 16, false, false, 0, 0, 0, 0, 0, 0, []))])], 0, [])
set_option maxRecDepth 100000 in
theorem v_X3_addHarvest : VE MYT dflT E_X3_addHarvest := ⟨⟨⟨⟨⟨dX3_addHarvest_0, rfl⟩, rfl⟩, ⟨⟨dX3_addHarvest_1, rfl⟩, rfl⟩, ⟨⟨dX3_addHarvest_2, rfl⟩, Or.inl ⟨by decide, _, _, fX3_31⟩⟩, ⟨⟨dX3_addHarvest_5, rfl⟩, trivial⟩, ⟨⟨dX3_addHarvest_6, rfl⟩, rfl⟩, ⟨⟨dX3_addHarvest_7, rfl⟩, trivial⟩, ⟨⟨dX3_addHarvest_8, rfl⟩, trivial⟩, ⟨⟨dX3_addHarvest_9, rfl⟩, Or.inr (Or.inl ⟨rfl, 0, _, my_103, sX3_55⟩)⟩, ⟨⟨dX3_addHarvest_12, rfl⟩, Or.inl ⟨rfl, fX3_31⟩⟩, ⟨⟨dX3_addHarvest_15, rfl⟩, rfl⟩, trivial⟩, trivial⟩, by decide, Or.inl ⟨rfl, by decide, rfl⟩⟩
set_option maxRecDepth 100000 in
theorem g_X3_addHarvest_0 (S : sT) (call : cT) (n : Nat) (a0 : Nat) (x1 : Int32) (h : pH) : bd S call dflT E_X3_addHarvest (n + 1) 0 [some (.ref a0), some (.int x1)] [] h = (gI h (.ref a0) 6 2 (fun y1 => cIx tN (call 103 [.long (y1.toInt64 + x1.toInt64)] h) (fun y3 h2 => pF h2 (.ref a0) 6 2 (.int y3) (fun h4 => some (.inl none, h4))))) := rfl
theorem dX3_addIncome_0 : decode cX3_addIncome 0 = .ok (.aload_n 0, 1) := by decide +kernel
theorem dX3_addIncome_1 : decode cX3_addIncome 1 = .ok (.aload_n 0, 1) := by decide +kernel
theorem dX3_addIncome_2 : decode cX3_addIncome 2 = .ok (.getfield 24, 3) := by decide +kernel
theorem dX3_addIncome_5 : decode cX3_addIncome 5 = .ok (.i2l, 1) := by decide +kernel
theorem dX3_addIncome_6 : decode cX3_addIncome 6 = .ok (.lload_n 1, 1) := by decide +kernel
theorem dX3_addIncome_7 : decode cX3_addIncome 7 = .ok (.ladd, 1) := by decide +kernel
theorem dX3_addIncome_8 : decode cX3_addIncome 8 = .ok (.invokestatic 55, 3) := by decide +kernel
theorem dX3_addIncome_11 : decode cX3_addIncome 11 = .ok (.putfield 24, 3) := by decide +kernel
theorem dX3_addIncome_14 : decode cX3_addIncome 14 = .ok (.return_, 1) := by decide +kernel
noncomputable def E_X3_addIncome : mE := (mX3_addIncome, [(14, [(0, (.aload_n 0, 1, false, false, 0, 0, 0, 0, 0, 0, [])), (1, (.aload_n 0, 2, false, false, 0, 0, 0, 0, 0, 0, [])), (2, (.getfield 24, 5, false, false, 6, 0, 0, 0, 0, 0, [])), (5, (.i2l, 6, false, false, 0, 0, 0, 0, 0, 0, [])), (6, (.lload_n 1, 7, false, false, 1, 0, 0, 0, 0, 0, [])), (7, (.ladd, 8, false, false, 0, 0, 0, 0, 0, 0, [])), (8, (.invokestatic 55, 11, false, false, 103, 1, 1, 1, 0, 0, [])), (11, (.putfield 24, 14, false, false, 6, 0, 0, 0, 0, 0, [])), (14, (.return_, 15, false, false, 0, 0, 0, 0, 0, 0, []))])], 0, [])
set_option maxRecDepth 100000 in
theorem v_X3_addIncome : VE MYT dflT E_X3_addIncome := ⟨⟨⟨⟨⟨dX3_addIncome_0, rfl⟩, rfl⟩, ⟨⟨dX3_addIncome_1, rfl⟩, rfl⟩, ⟨⟨dX3_addIncome_2, rfl⟩, Or.inl ⟨by decide, _, _, fX3_24⟩⟩, ⟨⟨dX3_addIncome_5, rfl⟩, trivial⟩, ⟨⟨dX3_addIncome_6, rfl⟩, rfl⟩, ⟨⟨dX3_addIncome_7, rfl⟩, trivial⟩, ⟨⟨dX3_addIncome_8, rfl⟩, Or.inr (Or.inl ⟨rfl, 0, _, my_103, sX3_55⟩)⟩, ⟨⟨dX3_addIncome_11, rfl⟩, Or.inl ⟨rfl, fX3_24⟩⟩, ⟨⟨dX3_addIncome_14, rfl⟩, rfl⟩, trivial⟩, trivial⟩, by decide, Or.inl ⟨rfl, by decide, rfl⟩⟩
set_option maxRecDepth 100000 in
theorem g_X3_addIncome_0 (S : sT) (call : cT) (n : Nat) (a0 : Nat) (j1 : Int64) (h : pH) : bd S call dflT E_X3_addIncome (n + 1) 0 [some (.ref a0), some (.long j1), none] [] h = (gI h (.ref a0) 6 0 (fun y1 => cIx tN (call 103 [.long (y1.toInt64 + j1)] h) (fun y3 h2 => pF h2 (.ref a0) 6 0 (.int y3) (fun h4 => some (.inl none, h4))))) := rfl
theorem dX3_addCapital_0 : decode cX3_addCapital 0 = .ok (.aload_n 0, 1) := by decide +kernel
theorem dX3_addCapital_1 : decode cX3_addCapital 1 = .ok (.aload_n 0, 1) := by decide +kernel
theorem dX3_addCapital_2 : decode cX3_addCapital 2 = .ok (.getfield 28, 3) := by decide +kernel
theorem dX3_addCapital_5 : decode cX3_addCapital 5 = .ok (.i2l, 1) := by decide +kernel
theorem dX3_addCapital_6 : decode cX3_addCapital 6 = .ok (.lload_n 1, 1) := by decide +kernel
theorem dX3_addCapital_7 : decode cX3_addCapital 7 = .ok (.ladd, 1) := by decide +kernel
theorem dX3_addCapital_8 : decode cX3_addCapital 8 = .ok (.invokestatic 55, 3) := by decide +kernel
theorem dX3_addCapital_11 : decode cX3_addCapital 11 = .ok (.putfield 28, 3) := by decide +kernel
theorem dX3_addCapital_14 : decode cX3_addCapital 14 = .ok (.return_, 1) := by decide +kernel
noncomputable def E_X3_addCapital : mE := (mX3_addCapital, [(14, [(0, (.aload_n 0, 1, false, false, 0, 0, 0, 0, 0, 0, [])), (1, (.aload_n 0, 2, false, false, 0, 0, 0, 0, 0, 0, [])), (2, (.getfield 28, 5, false, false, 6, 1, 0, 0, 0, 0, [])), (5, (.i2l, 6, false, false, 0, 0, 0, 0, 0, 0, [])), (6, (.lload_n 1, 7, false, false, 1, 0, 0, 0, 0, 0, [])), (7, (.ladd, 8, false, false, 0, 0, 0, 0, 0, 0, [])), (8, (.invokestatic 55, 11, false, false, 103, 1, 1, 1, 0, 0, [])), (11, (.putfield 28, 14, false, false, 6, 1, 0, 0, 0, 0, [])), (14, (.return_, 15, false, false, 0, 0, 0, 0, 0, 0, []))])], 0, [])
set_option maxRecDepth 100000 in
theorem v_X3_addCapital : VE MYT dflT E_X3_addCapital := ⟨⟨⟨⟨⟨dX3_addCapital_0, rfl⟩, rfl⟩, ⟨⟨dX3_addCapital_1, rfl⟩, rfl⟩, ⟨⟨dX3_addCapital_2, rfl⟩, Or.inl ⟨by decide, _, _, fX3_28⟩⟩, ⟨⟨dX3_addCapital_5, rfl⟩, trivial⟩, ⟨⟨dX3_addCapital_6, rfl⟩, rfl⟩, ⟨⟨dX3_addCapital_7, rfl⟩, trivial⟩, ⟨⟨dX3_addCapital_8, rfl⟩, Or.inr (Or.inl ⟨rfl, 0, _, my_103, sX3_55⟩)⟩, ⟨⟨dX3_addCapital_11, rfl⟩, Or.inl ⟨rfl, fX3_28⟩⟩, ⟨⟨dX3_addCapital_14, rfl⟩, rfl⟩, trivial⟩, trivial⟩, by decide, Or.inl ⟨rfl, by decide, rfl⟩⟩
set_option maxRecDepth 100000 in
theorem g_X3_addCapital_0 (S : sT) (call : cT) (n : Nat) (a0 : Nat) (j1 : Int64) (h : pH) : bd S call dflT E_X3_addCapital (n + 1) 0 [some (.ref a0), some (.long j1), none] [] h = (gI h (.ref a0) 6 1 (fun y1 => cIx tN (call 103 [.long (y1.toInt64 + j1)] h) (fun y3 h2 => pF h2 (.ref a0) 6 1 (.int y3) (fun h4 => some (.inl none, h4))))) := rfl
theorem dX3_payLoans_0 : decode cX3_payLoans 0 = .ok (.iconst 0, 1) := by decide +kernel
theorem dX3_payLoans_1 : decode cX3_payLoans 1 = .ok (.istore_n 1, 1) := by decide +kernel
theorem dX3_payLoans_2 : decode cX3_payLoans 2 = .ok (.iload_n 1, 1) := by decide +kernel
theorem dX3_payLoans_3 : decode cX3_payLoans 3 = .ok (.aload_n 0, 1) := by decide +kernel
theorem dX3_payLoans_4 : decode cX3_payLoans 4 = .ok (.getfield 52, 3) := by decide +kernel
theorem dX3_payLoans_7 : decode cX3_payLoans 7 = .ok (.if_icmp .ge 71, 3) := by decide +kernel
theorem dX3_payLoans_10 : decode cX3_payLoans 10 = .ok (.aload_n 0, 1) := by decide +kernel
theorem dX3_payLoans_11 : decode cX3_payLoans 11 = .ok (.getfield 21, 3) := by decide +kernel
theorem dX3_payLoans_14 : decode cX3_payLoans 14 = .ok (.iload_n 1, 1) := by decide +kernel
theorem dX3_payLoans_15 : decode cX3_payLoans 15 = .ok (.iaload, 1) := by decide +kernel
theorem dX3_payLoans_16 : decode cX3_payLoans 16 = .ok (.i2l, 1) := by decide +kernel
theorem dX3_payLoans_17 : decode cX3_payLoans 17 = .ok (.aload_n 0, 1) := by decide +kernel
theorem dX3_payLoans_18 : decode cX3_payLoans 18 = .ok (.getfield 15, 3) := by decide +kernel
theorem dX3_payLoans_21 : decode cX3_payLoans 21 = .ok (.iload_n 1, 1) := by decide +kernel
theorem dX3_payLoans_22 : decode cX3_payLoans 22 = .ok (.iaload, 1) := by decide +kernel
theorem dX3_payLoans_23 : decode cX3_payLoans 23 = .ok (.i2l, 1) := by decide +kernel
theorem dX3_payLoans_24 : decode cX3_payLoans 24 = .ok (.lmul, 1) := by decide +kernel
theorem dX3_payLoans_25 : decode cX3_payLoans 25 = .ok (.ldc2_w 72, 3) := by decide +kernel
theorem dX3_payLoans_28 : decode cX3_payLoans 28 = .ok (.ladd, 1) := by decide +kernel
theorem dX3_payLoans_29 : decode cX3_payLoans 29 = .ok (.ldc2_w 74, 3) := by decide +kernel
theorem dX3_payLoans_32 : decode cX3_payLoans 32 = .ok (.ldiv, 1) := by decide +kernel
theorem dX3_payLoans_33 : decode cX3_payLoans 33 = .ok (.lstore_n 2, 1) := by decide +kernel
theorem dX3_payLoans_34 : decode cX3_payLoans 34 = .ok (.aload_n 0, 1) := by decide +kernel
theorem dX3_payLoans_35 : decode cX3_payLoans 35 = .ok (.getfield 18, 3) := by decide +kernel
theorem dX3_payLoans_38 : decode cX3_payLoans 38 = .ok (.iload_n 1, 1) := by decide +kernel
theorem dX3_payLoans_39 : decode cX3_payLoans 39 = .ok (.iaload, 1) := by decide +kernel
theorem dX3_payLoans_40 : decode cX3_payLoans 40 = .ok (.aload_n 0, 1) := by decide +kernel
theorem dX3_payLoans_41 : decode cX3_payLoans 41 = .ok (.getfield 21, 3) := by decide +kernel
theorem dX3_payLoans_44 : decode cX3_payLoans 44 = .ok (.iload_n 1, 1) := by decide +kernel
theorem dX3_payLoans_45 : decode cX3_payLoans 45 = .ok (.iaload, 1) := by decide +kernel
theorem dX3_payLoans_46 : decode cX3_payLoans 46 = .ok (.invokestatic 76, 3) := by decide +kernel
theorem dX3_payLoans_49 : decode cX3_payLoans 49 = .ok (.istore 4, 2) := by decide +kernel
theorem dX3_payLoans_51 : decode cX3_payLoans 51 = .ok (.aload_n 0, 1) := by decide +kernel
theorem dX3_payLoans_52 : decode cX3_payLoans 52 = .ok (.lload_n 2, 1) := by decide +kernel
theorem dX3_payLoans_53 : decode cX3_payLoans 53 = .ok (.lneg, 1) := by decide +kernel
theorem dX3_payLoans_54 : decode cX3_payLoans 54 = .ok (.iload 4, 2) := by decide +kernel
theorem dX3_payLoans_56 : decode cX3_payLoans 56 = .ok (.i2l, 1) := by decide +kernel
theorem dX3_payLoans_57 : decode cX3_payLoans 57 = .ok (.lsub, 1) := by decide +kernel
theorem dX3_payLoans_58 : decode cX3_payLoans 58 = .ok (.invokevirtual 59, 3) := by decide +kernel
theorem dX3_payLoans_61 : decode cX3_payLoans 61 = .ok (.aload_n 0, 1) := by decide +kernel
theorem dX3_payLoans_62 : decode cX3_payLoans 62 = .ok (.getfield 21, 3) := by decide +kernel
theorem dX3_payLoans_65 : decode cX3_payLoans 65 = .ok (.iload_n 1, 1) := by decide +kernel
theorem dX3_payLoans_66 : decode cX3_payLoans 66 = .ok (.dup2, 1) := by decide +kernel
theorem dX3_payLoans_67 : decode cX3_payLoans 67 = .ok (.iaload, 1) := by decide +kernel
theorem dX3_payLoans_68 : decode cX3_payLoans 68 = .ok (.iload 4, 2) := by decide +kernel
theorem dX3_payLoans_70 : decode cX3_payLoans 70 = .ok (.isub, 1) := by decide +kernel
theorem dX3_payLoans_71 : decode cX3_payLoans 71 = .ok (.iastore, 1) := by decide +kernel
theorem dX3_payLoans_72 : decode cX3_payLoans 72 = .ok (.iinc 1 1, 3) := by decide +kernel
theorem dX3_payLoans_75 : decode cX3_payLoans 75 = .ok (.goto (-73), 3) := by decide +kernel
theorem dX3_payLoans_78 : decode cX3_payLoans 78 = .ok (.return_, 1) := by decide +kernel
noncomputable def E_X3_payLoans : mE := (mX3_payLoans, [(35, [(0, (.iconst 0, 1, false, false, 0, 0, 0, 0, 0, 0, [])), (1, (.istore_n 1, 2, true, false, 1, 0, 0, 0, 0, 0, [])), (2, (.iload_n 1, 3, false, false, 1, 0, 0, 0, 0, 0, [])), (3, (.aload_n 0, 4, false, false, 0, 0, 0, 0, 0, 0, [])), (4, (.getfield 52, 7, false, false, 6, 8, 0, 0, 0, 0, [])), (7, (.if_icmp .ge 71, 10, false, false, 78, 0, 0, 0, 0, 0, [])), (10, (.aload_n 0, 11, false, false, 0, 0, 0, 0, 0, 0, [])), (11, (.getfield 21, 14, false, false, 6, 11, 1, 0, 0, 0, [])), (14, (.iload_n 1, 15, false, false, 1, 0, 0, 0, 0, 0, [])), (15, (.iaload, 16, false, false, 0, 0, 0, 0, 0, 0, [])), (16, (.i2l, 17, false, false, 0, 0, 0, 0, 0, 0, [])), (17, (.aload_n 0, 18, false, false, 0, 0, 0, 0, 0, 0, [])), (18, (.getfield 15, 21, false, false, 6, 9, 1, 0, 0, 0, [])), (21, (.iload_n 1, 22, false, false, 1, 0, 0, 0, 0, 0, [])), (22, (.iaload, 23, false, false, 0, 0, 0, 0, 0, 0, [])), (23, (.i2l, 24, false, false, 0, 0, 0, 0, 0, 0, [])), (24, (.lmul, 25, false, false, 0, 0, 0, 0, 0, 0, [])), (25, (.ldc2_w 72, 28, false, false, 0, 0, 0, 0, 0, 9999, [])), (28, (.ladd, 29, false, false, 0, 0, 0, 0, 0, 0, [])), (29, (.ldc2_w 74, 32, false, false, 0, 0, 0, 0, 0, 10000, [])), (32, (.ldiv, 33, false, false, 0, 0, 0, 0, 0, 0, [])), (33, (.lstore_n 2, 34, false, false, 2, 3, 0, 0, 0, 0, [])), (34, (.aload_n 0, 35, false, false, 0, 0, 0, 0, 0, 0, [])), (35, (.getfield 18, 38, false, false, 6, 10, 1, 0, 0, 0, []))]),
  (72, [(38, (.iload_n 1, 39, false, false, 1, 0, 0, 0, 0, 0, [])), (39, (.iaload, 40, false, false, 0, 0, 0, 0, 0, 0, [])), (40, (.aload_n 0, 41, false, false, 0, 0, 0, 0, 0, 0, [])), (41, (.getfield 21, 44, false, false, 6, 11, 1, 0, 0, 0, [])), (44, (.iload_n 1, 45, false, false, 1, 0, 0, 0, 0, 0, [])), (45, (.iaload, 46, false, false, 0, 0, 0, 0, 0, 0, [])), (46, (.invokestatic 76, 49, false, false, 0, 2, 1, 6, 0, 0, [])), (49, (.istore 4, 51, false, false, 4, 0, 0, 0, 0, 0, [])), (51, (.aload_n 0, 52, false, false, 0, 0, 0, 0, 0, 0, [])), (52, (.lload_n 2, 53, false, false, 2, 0, 0, 0, 0, 0, [])), (53, (.lneg, 54, false, false, 0, 0, 0, 0, 0, 0, [])), (54, (.iload 4, 56, false, false, 4, 0, 0, 0, 0, 0, [])), (56, (.i2l, 57, false, false, 0, 0, 0, 0, 0, 0, [])), (57, (.lsub, 58, false, false, 0, 0, 0, 0, 0, 0, [])), (58, (.invokevirtual 59, 61, false, false, 191, 1, 0, 6, 0, 0, [])), (61, (.aload_n 0, 62, false, false, 0, 0, 0, 0, 0, 0, [])), (62, (.getfield 21, 65, false, false, 6, 11, 1, 0, 0, 0, [])), (65, (.iload_n 1, 66, false, false, 1, 0, 0, 0, 0, 0, [])), (66, (.dup2, 67, false, false, 0, 0, 0, 0, 0, 0, [])), (67, (.iaload, 68, false, false, 0, 0, 0, 0, 0, 0, [])), (68, (.iload 4, 70, false, false, 4, 0, 0, 0, 0, 0, [])), (70, (.isub, 71, false, false, 0, 0, 0, 0, 0, 0, [])), (71, (.iastore, 72, false, false, 0, 0, 0, 0, 0, 0, [])), (72, (.iinc 1 1, 75, false, false, 1, 0, 0, 0, 1, 0, []))]),
  (78, [(75, (.goto (-73), 78, false, true, 2, 0, 0, 0, 0, 0, [])), (78, (.return_, 79, false, false, 0, 0, 0, 0, 0, 0, []))])], 0, [])
set_option maxRecDepth 100000 in
theorem v_X3_payLoans : VE MYT dflT E_X3_payLoans := ⟨⟨⟨⟨⟨dX3_payLoans_0, rfl⟩, rfl⟩, ⟨⟨dX3_payLoans_1, rfl⟩, rfl⟩, ⟨⟨dX3_payLoans_2, rfl⟩, rfl⟩, ⟨⟨dX3_payLoans_3, rfl⟩, rfl⟩, ⟨⟨dX3_payLoans_4, rfl⟩, Or.inl ⟨by decide, _, _, fX3_52⟩⟩, ⟨⟨dX3_payLoans_7, rfl⟩, rfl⟩, ⟨⟨dX3_payLoans_10, rfl⟩, rfl⟩, ⟨⟨dX3_payLoans_11, rfl⟩, Or.inl ⟨by decide, _, _, fX3_21⟩⟩, ⟨⟨dX3_payLoans_14, rfl⟩, rfl⟩, ⟨⟨dX3_payLoans_15, rfl⟩, trivial⟩, ⟨⟨dX3_payLoans_16, rfl⟩, trivial⟩, ⟨⟨dX3_payLoans_17, rfl⟩, rfl⟩, ⟨⟨dX3_payLoans_18, rfl⟩, Or.inl ⟨by decide, _, _, fX3_15⟩⟩, ⟨⟨dX3_payLoans_21, rfl⟩, rfl⟩, ⟨⟨dX3_payLoans_22, rfl⟩, trivial⟩, ⟨⟨dX3_payLoans_23, rfl⟩, trivial⟩, ⟨⟨dX3_payLoans_24, rfl⟩, trivial⟩, ⟨⟨dX3_payLoans_25, rfl⟩, kX3_72⟩, ⟨⟨dX3_payLoans_28, rfl⟩, trivial⟩, ⟨⟨dX3_payLoans_29, rfl⟩, kX3_74⟩, ⟨⟨dX3_payLoans_32, rfl⟩, trivial⟩, ⟨⟨dX3_payLoans_33, rfl⟩, ⟨rfl, rfl⟩⟩, ⟨⟨dX3_payLoans_34, rfl⟩, rfl⟩, ⟨⟨dX3_payLoans_35, rfl⟩, Or.inl ⟨by decide, _, _, fX3_18⟩⟩, trivial⟩,
  ⟨⟨⟨dX3_payLoans_38, rfl⟩, rfl⟩, ⟨⟨dX3_payLoans_39, rfl⟩, trivial⟩, ⟨⟨dX3_payLoans_40, rfl⟩, rfl⟩, ⟨⟨dX3_payLoans_41, rfl⟩, Or.inl ⟨by decide, _, _, fX3_21⟩⟩, ⟨⟨dX3_payLoans_44, rfl⟩, rfl⟩, ⟨⟨dX3_payLoans_45, rfl⟩, trivial⟩, ⟨⟨dX3_payLoans_46, rfl⟩, Or.inr (Or.inr (Or.inr (Or.inr (Or.inr (Or.inl ⟨rfl, sX3_76⟩)))))⟩, ⟨⟨dX3_payLoans_49, rfl⟩, rfl⟩, ⟨⟨dX3_payLoans_51, rfl⟩, rfl⟩, ⟨⟨dX3_payLoans_52, rfl⟩, rfl⟩, ⟨⟨dX3_payLoans_53, rfl⟩, trivial⟩, ⟨⟨dX3_payLoans_54, rfl⟩, rfl⟩, ⟨⟨dX3_payLoans_56, rfl⟩, trivial⟩, ⟨⟨dX3_payLoans_57, rfl⟩, trivial⟩, ⟨⟨dX3_payLoans_58, rfl⟩, Or.inr ⟨by decide, ⟨_, my_191, sX3_59⟩, fun q => absurd q (by decide)⟩⟩, ⟨⟨dX3_payLoans_61, rfl⟩, rfl⟩, ⟨⟨dX3_payLoans_62, rfl⟩, Or.inl ⟨by decide, _, _, fX3_21⟩⟩, ⟨⟨dX3_payLoans_65, rfl⟩, rfl⟩, ⟨⟨dX3_payLoans_66, rfl⟩, trivial⟩, ⟨⟨dX3_payLoans_67, rfl⟩, trivial⟩, ⟨⟨dX3_payLoans_68, rfl⟩, rfl⟩, ⟨⟨dX3_payLoans_70, rfl⟩, trivial⟩, ⟨⟨dX3_payLoans_71, rfl⟩, trivial⟩, ⟨⟨dX3_payLoans_72, rfl⟩, ⟨rfl, rfl⟩⟩, trivial⟩,
  ⟨⟨⟨dX3_payLoans_75, rfl⟩, rfl⟩, ⟨⟨dX3_payLoans_78, rfl⟩, rfl⟩, trivial⟩, trivial⟩, by decide, Or.inl ⟨rfl, by decide, rfl⟩⟩
set_option maxRecDepth 100000 in
theorem g_X3_payLoans_0 (S : sT) (call : cT) (n : Nat) (a0 : Nat) (h : pH) : bd S call dflT E_X3_payLoans (n + 1) 0 [some (.ref a0), none, none, none, none] [] h = (bd S call dflT E_X3_payLoans n 2 [some (.ref a0), some (.int 0), none, none, none] [] h) := rfl
set_option maxRecDepth 100000 in
theorem g_X3_payLoans_2 (S : sT) (call : cT) (n : Nat) (a0 : Nat) (x1 : Int32) (o2 : Option Value) (o3 : Option Value) (o4 : Option Value) (h : pH) : bd S call dflT E_X3_payLoans (n + 1) 2 [some (.ref a0), some (.int x1), o2, o3, o4] [] h = (gI h (.ref a0) 6 8 (fun y1 => (if y1 ≤ x1 then some (.inl none, h) else gV h (.ref a0) 6 11 (fun w2 => aI h w2 0 x1 (fun y3 => gV h (.ref a0) 6 9 (fun w4 => aI h w4 0 x1 (fun y5 => dvJ 10000 (gV h (.ref a0) 6 10 (fun w6 => aI h w6 0 x1 (fun y7 => gV h (.ref a0) 6 11 (fun w8 => aI h w8 0 x1 (fun y9 => rC h (.ref a0) 6 (cU (call 191 [.ref a0, .long ((-(((y3.toInt64 * y5.toInt64) + 9999) / 10000)) - (if y9 < y7 then y9 else y7).toInt64)] h) (fun h10 => gV h10 (.ref a0) 6 11 (fun w11 => nl w11 (aI h10 w11 0 x1 (fun y12 => sI h10 w11 0 x1 (y12 - (if y9 < y7 then y9 else y7)) (fun h13 => bd S call dflT E_X3_payLoans n 2 [some (.ref a0), some (.int (x1 + 1)), some (.long (((y3.toInt64 * y5.toInt64) + 9999) / 10000)), none, some (.int (if y9 < y7 then y9 else y7))] [] h13)))))))))))))))))) := rfl
theorem dX3_payCharges_0 : decode cX3_payCharges 0 = .ok (.aload_n 0, 1) := by decide +kernel
theorem dX3_payCharges_1 : decode cX3_payCharges 1 = .ok (.iload_n 1, 1) := by decide +kernel
theorem dX3_payCharges_2 : decode cX3_payCharges 2 = .ok (.ineg, 1) := by decide +kernel
theorem dX3_payCharges_3 : decode cX3_payCharges 3 = .ok (.i2l, 1) := by decide +kernel
theorem dX3_payCharges_4 : decode cX3_payCharges 4 = .ok (.invokevirtual 59, 3) := by decide +kernel
theorem dX3_payCharges_7 : decode cX3_payCharges 7 = .ok (.aload_n 0, 1) := by decide +kernel
theorem dX3_payCharges_8 : decode cX3_payCharges 8 = .ok (.aload_n 0, 1) := by decide +kernel
theorem dX3_payCharges_9 : decode cX3_payCharges 9 = .ok (.getfield 34, 3) := by decide +kernel
theorem dX3_payCharges_12 : decode cX3_payCharges 12 = .ok (.i2l, 1) := by decide +kernel
theorem dX3_payCharges_13 : decode cX3_payCharges 13 = .ok (.iload_n 1, 1) := by decide +kernel
theorem dX3_payCharges_14 : decode cX3_payCharges 14 = .ok (.i2l, 1) := by decide +kernel
theorem dX3_payCharges_15 : decode cX3_payCharges 15 = .ok (.ladd, 1) := by decide +kernel
theorem dX3_payCharges_16 : decode cX3_payCharges 16 = .ok (.invokestatic 55, 3) := by decide +kernel
theorem dX3_payCharges_19 : decode cX3_payCharges 19 = .ok (.putfield 34, 3) := by decide +kernel
theorem dX3_payCharges_22 : decode cX3_payCharges 22 = .ok (.return_, 1) := by decide +kernel
noncomputable def E_X3_payCharges : mE := (mX3_payCharges, [(22, [(0, (.aload_n 0, 1, false, false, 0, 0, 0, 0, 0, 0, [])), (1, (.iload_n 1, 2, false, false, 1, 0, 0, 0, 0, 0, [])), (2, (.ineg, 3, false, false, 0, 0, 0, 0, 0, 0, [])), (3, (.i2l, 4, false, false, 0, 0, 0, 0, 0, 0, [])), (4, (.invokevirtual 59, 7, false, false, 191, 1, 0, 6, 0, 0, [])), (7, (.aload_n 0, 8, false, false, 0, 0, 0, 0, 0, 0, [])), (8, (.aload_n 0, 9, false, false, 0, 0, 0, 0, 0, 0, [])), (9, (.getfield 34, 12, false, false, 6, 3, 0, 0, 0, 0, [])), (12, (.i2l, 13, false, false, 0, 0, 0, 0, 0, 0, [])), (13, (.iload_n 1, 14, false, false, 1, 0, 0, 0, 0, 0, [])), (14, (.i2l, 15, false, false, 0, 0, 0, 0, 0, 0, [])), (15, (.ladd, 16, false, false, 0, 0, 0, 0, 0, 0, [])), (16, (.invokestatic 55, 19, false, false, 103, 1, 1, 1, 0, 0, [])), (19, (.putfield 34, 22, false, false, 6, 3, 0, 0, 0, 0, [])), (22, (.return_, 23, false, false, 0, 0, 0, 0, 0, 0, []))])], 0, [])
set_option maxRecDepth 100000 in
theorem v_X3_payCharges : VE MYT dflT E_X3_payCharges := ⟨⟨⟨⟨⟨dX3_payCharges_0, rfl⟩, rfl⟩, ⟨⟨dX3_payCharges_1, rfl⟩, rfl⟩, ⟨⟨dX3_payCharges_2, rfl⟩, trivial⟩, ⟨⟨dX3_payCharges_3, rfl⟩, trivial⟩, ⟨⟨dX3_payCharges_4, rfl⟩, Or.inr ⟨by decide, ⟨_, my_191, sX3_59⟩, fun q => absurd q (by decide)⟩⟩, ⟨⟨dX3_payCharges_7, rfl⟩, rfl⟩, ⟨⟨dX3_payCharges_8, rfl⟩, rfl⟩, ⟨⟨dX3_payCharges_9, rfl⟩, Or.inl ⟨by decide, _, _, fX3_34⟩⟩, ⟨⟨dX3_payCharges_12, rfl⟩, trivial⟩, ⟨⟨dX3_payCharges_13, rfl⟩, rfl⟩, ⟨⟨dX3_payCharges_14, rfl⟩, trivial⟩, ⟨⟨dX3_payCharges_15, rfl⟩, trivial⟩, ⟨⟨dX3_payCharges_16, rfl⟩, Or.inr (Or.inl ⟨rfl, 0, _, my_103, sX3_55⟩)⟩, ⟨⟨dX3_payCharges_19, rfl⟩, Or.inl ⟨rfl, fX3_34⟩⟩, ⟨⟨dX3_payCharges_22, rfl⟩, rfl⟩, trivial⟩, trivial⟩, by decide, Or.inl ⟨rfl, by decide, rfl⟩⟩
set_option maxRecDepth 100000 in
theorem g_X3_payCharges_0 (S : sT) (call : cT) (n : Nat) (a0 : Nat) (x1 : Int32) (h : pH) : bd S call dflT E_X3_payCharges (n + 1) 0 [some (.ref a0), some (.int x1)] [] h = (rC h (.ref a0) 6 (cU (call 191 [.ref a0, .long (-x1).toInt64] h) (fun h1 => gI h1 (.ref a0) 6 3 (fun y2 => cIx tN (call 103 [.long (y2.toInt64 + x1.toInt64)] h1) (fun y4 h3 => pF h3 (.ref a0) 6 3 (.int y4) (fun h5 => some (.inl none, h5))))))) := rfl
theorem dX3_owedInAll_0 : decode cX3_owedInAll 0 = .ok (.iconst 0, 1) := by decide +kernel
theorem dX3_owedInAll_1 : decode cX3_owedInAll 1 = .ok (.istore_n 1, 1) := by decide +kernel
theorem dX3_owedInAll_2 : decode cX3_owedInAll 2 = .ok (.iconst 0, 1) := by decide +kernel
theorem dX3_owedInAll_3 : decode cX3_owedInAll 3 = .ok (.istore_n 2, 1) := by decide +kernel
theorem dX3_owedInAll_4 : decode cX3_owedInAll 4 = .ok (.iload_n 2, 1) := by decide +kernel
theorem dX3_owedInAll_5 : decode cX3_owedInAll 5 = .ok (.aload_n 0, 1) := by decide +kernel
theorem dX3_owedInAll_6 : decode cX3_owedInAll 6 = .ok (.getfield 52, 3) := by decide +kernel
theorem dX3_owedInAll_9 : decode cX3_owedInAll 9 = .ok (.if_icmp .ge 18, 3) := by decide +kernel
theorem dX3_owedInAll_12 : decode cX3_owedInAll 12 = .ok (.iload_n 1, 1) := by decide +kernel
theorem dX3_owedInAll_13 : decode cX3_owedInAll 13 = .ok (.aload_n 0, 1) := by decide +kernel
theorem dX3_owedInAll_14 : decode cX3_owedInAll 14 = .ok (.getfield 21, 3) := by decide +kernel
theorem dX3_owedInAll_17 : decode cX3_owedInAll 17 = .ok (.iload_n 2, 1) := by decide +kernel
theorem dX3_owedInAll_18 : decode cX3_owedInAll 18 = .ok (.iaload, 1) := by decide +kernel
theorem dX3_owedInAll_19 : decode cX3_owedInAll 19 = .ok (.iadd, 1) := by decide +kernel
theorem dX3_owedInAll_20 : decode cX3_owedInAll 20 = .ok (.istore_n 1, 1) := by decide +kernel
theorem dX3_owedInAll_21 : decode cX3_owedInAll 21 = .ok (.iinc 2 1, 3) := by decide +kernel
theorem dX3_owedInAll_24 : decode cX3_owedInAll 24 = .ok (.goto (-20), 3) := by decide +kernel
theorem dX3_owedInAll_27 : decode cX3_owedInAll 27 = .ok (.iload_n 1, 1) := by decide +kernel
theorem dX3_owedInAll_28 : decode cX3_owedInAll 28 = .ok (.ireturn, 1) := by decide +kernel
noncomputable def E_X3_owedInAll : mE := (mX3_owedInAll, [(28, [(0, (.iconst 0, 1, false, false, 0, 0, 0, 0, 0, 0, [])), (1, (.istore_n 1, 2, false, false, 1, 0, 0, 0, 0, 0, [])), (2, (.iconst 0, 3, false, false, 0, 0, 0, 0, 0, 0, [])), (3, (.istore_n 2, 4, true, false, 2, 0, 0, 0, 0, 0, [])), (4, (.iload_n 2, 5, false, false, 2, 0, 0, 0, 0, 0, [])), (5, (.aload_n 0, 6, false, false, 0, 0, 0, 0, 0, 0, [])), (6, (.getfield 52, 9, false, false, 6, 8, 0, 0, 0, 0, [])), (9, (.if_icmp .ge 18, 12, false, false, 27, 0, 0, 0, 0, 0, [])), (12, (.iload_n 1, 13, false, false, 1, 0, 0, 0, 0, 0, [])), (13, (.aload_n 0, 14, false, false, 0, 0, 0, 0, 0, 0, [])), (14, (.getfield 21, 17, false, false, 6, 11, 1, 0, 0, 0, [])), (17, (.iload_n 2, 18, false, false, 2, 0, 0, 0, 0, 0, [])), (18, (.iaload, 19, false, false, 0, 0, 0, 0, 0, 0, [])), (19, (.iadd, 20, false, false, 0, 0, 0, 0, 0, 0, [])), (20, (.istore_n 1, 21, false, false, 1, 0, 0, 0, 0, 0, [])), (21, (.iinc 2 1, 24, false, false, 2, 0, 0, 0, 1, 0, [])), (24, (.goto (-20), 27, false, true, 4, 0, 0, 0, 0, 0, [])), (27, (.iload_n 1, 28, false, false, 1, 0, 0, 0, 0, 0, [])), (28, (.ireturn, 29, false, false, 0, 0, 0, 0, 0, 0, []))])], 0, [])
set_option maxRecDepth 100000 in
theorem v_X3_owedInAll : VE MYT dflT E_X3_owedInAll := ⟨⟨⟨⟨⟨dX3_owedInAll_0, rfl⟩, rfl⟩, ⟨⟨dX3_owedInAll_1, rfl⟩, rfl⟩, ⟨⟨dX3_owedInAll_2, rfl⟩, rfl⟩, ⟨⟨dX3_owedInAll_3, rfl⟩, rfl⟩, ⟨⟨dX3_owedInAll_4, rfl⟩, rfl⟩, ⟨⟨dX3_owedInAll_5, rfl⟩, rfl⟩, ⟨⟨dX3_owedInAll_6, rfl⟩, Or.inl ⟨by decide, _, _, fX3_52⟩⟩, ⟨⟨dX3_owedInAll_9, rfl⟩, rfl⟩, ⟨⟨dX3_owedInAll_12, rfl⟩, rfl⟩, ⟨⟨dX3_owedInAll_13, rfl⟩, rfl⟩, ⟨⟨dX3_owedInAll_14, rfl⟩, Or.inl ⟨by decide, _, _, fX3_21⟩⟩, ⟨⟨dX3_owedInAll_17, rfl⟩, rfl⟩, ⟨⟨dX3_owedInAll_18, rfl⟩, trivial⟩, ⟨⟨dX3_owedInAll_19, rfl⟩, trivial⟩, ⟨⟨dX3_owedInAll_20, rfl⟩, rfl⟩, ⟨⟨dX3_owedInAll_21, rfl⟩, ⟨rfl, rfl⟩⟩, ⟨⟨dX3_owedInAll_24, rfl⟩, rfl⟩, ⟨⟨dX3_owedInAll_27, rfl⟩, rfl⟩, ⟨⟨dX3_owedInAll_28, rfl⟩, Or.inl ⟨rfl, rfl⟩⟩, trivial⟩, trivial⟩, by decide, Or.inl ⟨rfl, by decide, rfl⟩⟩
set_option maxRecDepth 100000 in
theorem g_X3_owedInAll_0 (S : sT) (call : cT) (n : Nat) (a0 : Nat) (h : pH) : bd S call dflT E_X3_owedInAll (n + 1) 0 [some (.ref a0), none, none] [] h = (bd S call dflT E_X3_owedInAll n 4 [some (.ref a0), some (.int 0), some (.int 0)] [] h) := rfl
set_option maxRecDepth 100000 in
theorem g_X3_owedInAll_4 (S : sT) (call : cT) (n : Nat) (a0 : Nat) (x1 : Int32) (x2 : Int32) (h : pH) : bd S call dflT E_X3_owedInAll (n + 1) 4 [some (.ref a0), some (.int x1), some (.int x2)] [] h = (gI h (.ref a0) 6 8 (fun y1 => (if y1 ≤ x2 then some (.inl (some (.int x1)), h) else gV h (.ref a0) 6 11 (fun w2 => aI h w2 0 x2 (fun y3 => bd S call dflT E_X3_owedInAll n 4 [some (.ref a0), some (.int (x1 + y3)), some (.int (x2 + 1))] [] h))))) := rfl
theorem dX3_lend_0 : decode cX3_lend 0 = .ok (.aload_n 0, 1) := by decide +kernel
theorem dX3_lend_1 : decode cX3_lend 1 = .ok (.getfield 52, 3) := by decide +kernel
theorem dX3_lend_4 : decode cX3_lend 4 = .ok (.bipush 12, 2) := by decide +kernel
theorem dX3_lend_6 : decode cX3_lend 6 = .ok (.if_icmp .ge 8, 3) := by decide +kernel
theorem dX3_lend_9 : decode cX3_lend 9 = .ok (.iload_n 3, 1) := by decide +kernel
theorem dX3_lend_10 : decode cX3_lend 10 = .ok (.iconst 1, 1) := by decide +kernel
theorem dX3_lend_11 : decode cX3_lend 11 = .ok (.if_icmp .ge 5, 3) := by decide +kernel
theorem dX3_lend_14 : decode cX3_lend 14 = .ok (.iconst (-1), 1) := by decide +kernel
theorem dX3_lend_15 : decode cX3_lend 15 = .ok (.ireturn, 1) := by decide +kernel
theorem dX3_lend_16 : decode cX3_lend 16 = .ok (.aload_n 0, 1) := by decide +kernel
theorem dX3_lend_17 : decode cX3_lend 17 = .ok (.getfield 15, 3) := by decide +kernel
theorem dX3_lend_20 : decode cX3_lend 20 = .ok (.aload_n 0, 1) := by decide +kernel
theorem dX3_lend_21 : decode cX3_lend 21 = .ok (.getfield 52, 3) := by decide +kernel
theorem dX3_lend_24 : decode cX3_lend 24 = .ok (.iload_n 2, 1) := by decide +kernel
theorem dX3_lend_25 : decode cX3_lend 25 = .ok (.iastore, 1) := by decide +kernel
theorem dX3_lend_26 : decode cX3_lend 26 = .ok (.aload_n 0, 1) := by decide +kernel
theorem dX3_lend_27 : decode cX3_lend 27 = .ok (.getfield 18, 3) := by decide +kernel
theorem dX3_lend_30 : decode cX3_lend 30 = .ok (.aload_n 0, 1) := by decide +kernel
theorem dX3_lend_31 : decode cX3_lend 31 = .ok (.getfield 52, 3) := by decide +kernel
theorem dX3_lend_34 : decode cX3_lend 34 = .ok (.iload_n 1, 1) := by decide +kernel
theorem dX3_lend_35 : decode cX3_lend 35 = .ok (.iload_n 3, 1) := by decide +kernel
theorem dX3_lend_36 : decode cX3_lend 36 = .ok (.iadd, 1) := by decide +kernel
theorem dX3_lend_37 : decode cX3_lend 37 = .ok (.iconst 1, 1) := by decide +kernel
theorem dX3_lend_38 : decode cX3_lend 38 = .ok (.isub, 1) := by decide +kernel
theorem dX3_lend_39 : decode cX3_lend 39 = .ok (.iload_n 3, 1) := by decide +kernel
theorem dX3_lend_40 : decode cX3_lend 40 = .ok (.idiv, 1) := by decide +kernel
theorem dX3_lend_41 : decode cX3_lend 41 = .ok (.iastore, 1) := by decide +kernel
theorem dX3_lend_42 : decode cX3_lend 42 = .ok (.aload_n 0, 1) := by decide +kernel
theorem dX3_lend_43 : decode cX3_lend 43 = .ok (.getfield 21, 3) := by decide +kernel
theorem dX3_lend_46 : decode cX3_lend 46 = .ok (.aload_n 0, 1) := by decide +kernel
theorem dX3_lend_47 : decode cX3_lend 47 = .ok (.getfield 52, 3) := by decide +kernel
theorem dX3_lend_50 : decode cX3_lend 50 = .ok (.iload_n 1, 1) := by decide +kernel
theorem dX3_lend_51 : decode cX3_lend 51 = .ok (.iastore, 1) := by decide +kernel
theorem dX3_lend_52 : decode cX3_lend 52 = .ok (.aload_n 0, 1) := by decide +kernel
theorem dX3_lend_53 : decode cX3_lend 53 = .ok (.iload_n 1, 1) := by decide +kernel
theorem dX3_lend_54 : decode cX3_lend 54 = .ok (.i2l, 1) := by decide +kernel
theorem dX3_lend_55 : decode cX3_lend 55 = .ok (.invokevirtual 69, 3) := by decide +kernel
theorem dX3_lend_58 : decode cX3_lend 58 = .ok (.aload_n 0, 1) := by decide +kernel
theorem dX3_lend_59 : decode cX3_lend 59 = .ok (.dup, 1) := by decide +kernel
theorem dX3_lend_60 : decode cX3_lend 60 = .ok (.getfield 52, 3) := by decide +kernel
theorem dX3_lend_63 : decode cX3_lend 63 = .ok (.iconst 1, 1) := by decide +kernel
theorem dX3_lend_64 : decode cX3_lend 64 = .ok (.iadd, 1) := by decide +kernel
theorem dX3_lend_65 : decode cX3_lend 65 = .ok (.putfield 52, 3) := by decide +kernel
theorem dX3_lend_68 : decode cX3_lend 68 = .ok (.aload_n 0, 1) := by decide +kernel
theorem dX3_lend_69 : decode cX3_lend 69 = .ok (.getfield 52, 3) := by decide +kernel
theorem dX3_lend_72 : decode cX3_lend 72 = .ok (.iconst 1, 1) := by decide +kernel
theorem dX3_lend_73 : decode cX3_lend 73 = .ok (.isub, 1) := by decide +kernel
theorem dX3_lend_74 : decode cX3_lend 74 = .ok (.ireturn, 1) := by decide +kernel
noncomputable def E_X3_lend : mE := (mX3_lend, [(38, [(0, (.aload_n 0, 1, false, false, 0, 0, 0, 0, 0, 0, [])), (1, (.getfield 52, 4, false, false, 6, 8, 0, 0, 0, 0, [])), (4, (.bipush 12, 6, false, false, 0, 0, 0, 0, 12, 0, [])), (6, (.if_icmp .ge 8, 9, false, false, 14, 0, 0, 0, 0, 0, [])), (9, (.iload_n 3, 10, false, false, 3, 0, 0, 0, 0, 0, [])), (10, (.iconst 1, 11, false, false, 0, 0, 0, 0, 1, 0, [])), (11, (.if_icmp .ge 5, 14, false, false, 16, 0, 0, 0, 0, 0, [])), (14, (.iconst (-1), 15, false, false, 0, 0, 0, 0, -1, 0, [])), (15, (.ireturn, 16, false, false, 0, 0, 0, 0, 0, 0, [])), (16, (.aload_n 0, 17, false, false, 0, 0, 0, 0, 0, 0, [])), (17, (.getfield 15, 20, false, false, 6, 9, 1, 0, 0, 0, [])), (20, (.aload_n 0, 21, false, false, 0, 0, 0, 0, 0, 0, [])), (21, (.getfield 52, 24, false, false, 6, 8, 0, 0, 0, 0, [])), (24, (.iload_n 2, 25, false, false, 2, 0, 0, 0, 0, 0, [])), (25, (.iastore, 26, false, false, 0, 0, 0, 0, 0, 0, [])), (26, (.aload_n 0, 27, false, false, 0, 0, 0, 0, 0, 0, [])), (27, (.getfield 18, 30, false, false, 6, 10, 1, 0, 0, 0, [])), (30, (.aload_n 0, 31, false, false, 0, 0, 0, 0, 0, 0, [])), (31, (.getfield 52, 34, false, false, 6, 8, 0, 0, 0, 0, [])), (34, (.iload_n 1, 35, false, false, 1, 0, 0, 0, 0, 0, [])), (35, (.iload_n 3, 36, false, false, 3, 0, 0, 0, 0, 0, [])), (36, (.iadd, 37, false, false, 0, 0, 0, 0, 0, 0, [])), (37, (.iconst 1, 38, false, false, 0, 0, 0, 0, 1, 0, [])), (38, (.isub, 39, false, false, 0, 0, 0, 0, 0, 0, []))]),
  (74, [(39, (.iload_n 3, 40, false, false, 3, 0, 0, 0, 0, 0, [])), (40, (.idiv, 41, false, false, 0, 0, 0, 0, 0, 0, [])), (41, (.iastore, 42, false, false, 0, 0, 0, 0, 0, 0, [])), (42, (.aload_n 0, 43, false, false, 0, 0, 0, 0, 0, 0, [])), (43, (.getfield 21, 46, false, false, 6, 11, 1, 0, 0, 0, [])), (46, (.aload_n 0, 47, false, false, 0, 0, 0, 0, 0, 0, [])), (47, (.getfield 52, 50, false, false, 6, 8, 0, 0, 0, 0, [])), (50, (.iload_n 1, 51, false, false, 1, 0, 0, 0, 0, 0, [])), (51, (.iastore, 52, false, false, 0, 0, 0, 0, 0, 0, [])), (52, (.aload_n 0, 53, false, false, 0, 0, 0, 0, 0, 0, [])), (53, (.iload_n 1, 54, false, false, 1, 0, 0, 0, 0, 0, [])), (54, (.i2l, 55, false, false, 0, 0, 0, 0, 0, 0, [])), (55, (.invokevirtual 69, 58, false, false, 211, 1, 0, 6, 0, 0, [])), (58, (.aload_n 0, 59, false, false, 0, 0, 0, 0, 0, 0, [])), (59, (.dup, 60, false, false, 0, 0, 0, 0, 0, 0, [])), (60, (.getfield 52, 63, false, false, 6, 8, 0, 0, 0, 0, [])), (63, (.iconst 1, 64, false, false, 0, 0, 0, 0, 1, 0, [])), (64, (.iadd, 65, false, false, 0, 0, 0, 0, 0, 0, [])), (65, (.putfield 52, 68, false, false, 6, 8, 0, 0, 0, 0, [])), (68, (.aload_n 0, 69, false, false, 0, 0, 0, 0, 0, 0, [])), (69, (.getfield 52, 72, false, false, 6, 8, 0, 0, 0, 0, [])), (72, (.iconst 1, 73, false, false, 0, 0, 0, 0, 1, 0, [])), (73, (.isub, 74, false, false, 0, 0, 0, 0, 0, 0, [])), (74, (.ireturn, 75, false, false, 0, 0, 0, 0, 0, 0, []))])], 0, [])
set_option maxRecDepth 100000 in
theorem v_X3_lend : VE MYT dflT E_X3_lend := ⟨⟨⟨⟨⟨dX3_lend_0, rfl⟩, rfl⟩, ⟨⟨dX3_lend_1, rfl⟩, Or.inl ⟨by decide, _, _, fX3_52⟩⟩, ⟨⟨dX3_lend_4, rfl⟩, rfl⟩, ⟨⟨dX3_lend_6, rfl⟩, rfl⟩, ⟨⟨dX3_lend_9, rfl⟩, rfl⟩, ⟨⟨dX3_lend_10, rfl⟩, rfl⟩, ⟨⟨dX3_lend_11, rfl⟩, rfl⟩, ⟨⟨dX3_lend_14, rfl⟩, rfl⟩, ⟨⟨dX3_lend_15, rfl⟩, Or.inl ⟨rfl, rfl⟩⟩, ⟨⟨dX3_lend_16, rfl⟩, rfl⟩, ⟨⟨dX3_lend_17, rfl⟩, Or.inl ⟨by decide, _, _, fX3_15⟩⟩, ⟨⟨dX3_lend_20, rfl⟩, rfl⟩, ⟨⟨dX3_lend_21, rfl⟩, Or.inl ⟨by decide, _, _, fX3_52⟩⟩, ⟨⟨dX3_lend_24, rfl⟩, rfl⟩, ⟨⟨dX3_lend_25, rfl⟩, trivial⟩, ⟨⟨dX3_lend_26, rfl⟩, rfl⟩, ⟨⟨dX3_lend_27, rfl⟩, Or.inl ⟨by decide, _, _, fX3_18⟩⟩, ⟨⟨dX3_lend_30, rfl⟩, rfl⟩, ⟨⟨dX3_lend_31, rfl⟩, Or.inl ⟨by decide, _, _, fX3_52⟩⟩, ⟨⟨dX3_lend_34, rfl⟩, rfl⟩, ⟨⟨dX3_lend_35, rfl⟩, rfl⟩, ⟨⟨dX3_lend_36, rfl⟩, trivial⟩, ⟨⟨dX3_lend_37, rfl⟩, rfl⟩, ⟨⟨dX3_lend_38, rfl⟩, trivial⟩, trivial⟩,
  ⟨⟨⟨dX3_lend_39, rfl⟩, rfl⟩, ⟨⟨dX3_lend_40, rfl⟩, trivial⟩, ⟨⟨dX3_lend_41, rfl⟩, trivial⟩, ⟨⟨dX3_lend_42, rfl⟩, rfl⟩, ⟨⟨dX3_lend_43, rfl⟩, Or.inl ⟨by decide, _, _, fX3_21⟩⟩, ⟨⟨dX3_lend_46, rfl⟩, rfl⟩, ⟨⟨dX3_lend_47, rfl⟩, Or.inl ⟨by decide, _, _, fX3_52⟩⟩, ⟨⟨dX3_lend_50, rfl⟩, rfl⟩, ⟨⟨dX3_lend_51, rfl⟩, trivial⟩, ⟨⟨dX3_lend_52, rfl⟩, rfl⟩, ⟨⟨dX3_lend_53, rfl⟩, rfl⟩, ⟨⟨dX3_lend_54, rfl⟩, trivial⟩, ⟨⟨dX3_lend_55, rfl⟩, Or.inr ⟨by decide, ⟨_, my_211, sX3_69⟩, fun q => absurd q (by decide)⟩⟩, ⟨⟨dX3_lend_58, rfl⟩, rfl⟩, ⟨⟨dX3_lend_59, rfl⟩, trivial⟩, ⟨⟨dX3_lend_60, rfl⟩, Or.inl ⟨by decide, _, _, fX3_52⟩⟩, ⟨⟨dX3_lend_63, rfl⟩, rfl⟩, ⟨⟨dX3_lend_64, rfl⟩, trivial⟩, ⟨⟨dX3_lend_65, rfl⟩, Or.inl ⟨rfl, fX3_52⟩⟩, ⟨⟨dX3_lend_68, rfl⟩, rfl⟩, ⟨⟨dX3_lend_69, rfl⟩, Or.inl ⟨by decide, _, _, fX3_52⟩⟩, ⟨⟨dX3_lend_72, rfl⟩, rfl⟩, ⟨⟨dX3_lend_73, rfl⟩, trivial⟩, ⟨⟨dX3_lend_74, rfl⟩, Or.inl ⟨rfl, rfl⟩⟩, trivial⟩, trivial⟩, by decide, Or.inl ⟨rfl, by decide, rfl⟩⟩
set_option maxRecDepth 100000 in
theorem g_X3_lend_0 (S : sT) (call : cT) (n : Nat) (a0 : Nat) (x1 : Int32) (x2 : Int32) (x3 : Int32) (h : pH) : bd S call dflT E_X3_lend (n + 1) 0 [some (.ref a0), some (.int x1), some (.int x2), some (.int x3)] [] h = (gI h (.ref a0) 6 8 (fun y1 => (if 12 ≤ y1 then some (.inl (some (.int (-1))), h) else (if 1 ≤ x3 then gV h (.ref a0) 6 9 (fun w2 => gI h (.ref a0) 6 8 (fun y3 => sI h w2 0 y3 x2 (fun h4 => gV h4 (.ref a0) 6 10 (fun w5 => gI h4 (.ref a0) 6 8 (fun y6 => dv x3 (sI h4 w5 0 y6 (((x1 + x3) - 1) / x3) (fun h7 => gV h7 (.ref a0) 6 11 (fun w8 => gI h7 (.ref a0) 6 8 (fun y9 => sI h7 w8 0 y9 x1 (fun h10 => rC h10 (.ref a0) 6 (cU (call 211 [.ref a0, .long x1.toInt64] h10) (fun h11 => gI h11 (.ref a0) 6 8 (fun y12 => pF h11 (.ref a0) 6 8 (.int (y12 + 1)) (fun h13 => gI h13 (.ref a0) 6 8 (fun y14 => some (.inl (some (.int (y14 - 1))), h13)))))))))))))))) else some (.inl (some (.int (-1))), h))))) := rfl
theorem dX3_passOn_0 : decode cX3_passOn 0 = .ok (.iconst 0, 1) := by decide +kernel
theorem dX3_passOn_1 : decode cX3_passOn 1 = .ok (.aload_n 0, 1) := by decide +kernel
theorem dX3_passOn_2 : decode cX3_passOn 2 = .ok (.getfield 24, 3) := by decide +kernel
theorem dX3_passOn_5 : decode cX3_passOn 5 = .ok (.invokestatic 63, 3) := by decide +kernel
theorem dX3_passOn_8 : decode cX3_passOn 8 = .ok (.istore_n 1, 1) := by decide +kernel
theorem dX3_passOn_9 : decode cX3_passOn 9 = .ok (.aload_n 0, 1) := by decide +kernel
theorem dX3_passOn_10 : decode cX3_passOn 10 = .ok (.dup, 1) := by decide +kernel
theorem dX3_passOn_11 : decode cX3_passOn 11 = .ok (.getfield 24, 3) := by decide +kernel
theorem dX3_passOn_14 : decode cX3_passOn 14 = .ok (.iload_n 1, 1) := by decide +kernel
theorem dX3_passOn_15 : decode cX3_passOn 15 = .ok (.isub, 1) := by decide +kernel
theorem dX3_passOn_16 : decode cX3_passOn 16 = .ok (.putfield 24, 3) := by decide +kernel
theorem dX3_passOn_19 : decode cX3_passOn 19 = .ok (.aload_n 0, 1) := by decide +kernel
theorem dX3_passOn_20 : decode cX3_passOn 20 = .ok (.aload_n 0, 1) := by decide +kernel
theorem dX3_passOn_21 : decode cX3_passOn 21 = .ok (.getfield 37, 3) := by decide +kernel
theorem dX3_passOn_24 : decode cX3_passOn 24 = .ok (.i2l, 1) := by decide +kernel
theorem dX3_passOn_25 : decode cX3_passOn 25 = .ok (.iload_n 1, 1) := by decide +kernel
theorem dX3_passOn_26 : decode cX3_passOn 26 = .ok (.i2l, 1) := by decide +kernel
theorem dX3_passOn_27 : decode cX3_passOn 27 = .ok (.ladd, 1) := by decide +kernel
theorem dX3_passOn_28 : decode cX3_passOn 28 = .ok (.invokestatic 55, 3) := by decide +kernel
theorem dX3_passOn_31 : decode cX3_passOn 31 = .ok (.putfield 37, 3) := by decide +kernel
theorem dX3_passOn_34 : decode cX3_passOn 34 = .ok (.aload_n 0, 1) := by decide +kernel
theorem dX3_passOn_35 : decode cX3_passOn 35 = .ok (.dup, 1) := by decide +kernel
theorem dX3_passOn_36 : decode cX3_passOn 36 = .ok (.getfield 40, 3) := by decide +kernel
theorem dX3_passOn_39 : decode cX3_passOn 39 = .ok (.iconst 1, 1) := by decide +kernel
theorem dX3_passOn_40 : decode cX3_passOn 40 = .ok (.iadd, 1) := by decide +kernel
theorem dX3_passOn_41 : decode cX3_passOn 41 = .ok (.putfield 40, 3) := by decide +kernel
theorem dX3_passOn_44 : decode cX3_passOn 44 = .ok (.iload_n 1, 1) := by decide +kernel
theorem dX3_passOn_45 : decode cX3_passOn 45 = .ok (.ireturn, 1) := by decide +kernel
noncomputable def E_X3_passOn : mE := (mX3_passOn, [(39, [(0, (.iconst 0, 1, false, false, 0, 0, 0, 0, 0, 0, [])), (1, (.aload_n 0, 2, false, false, 0, 0, 0, 0, 0, 0, [])), (2, (.getfield 24, 5, false, false, 6, 0, 0, 0, 0, 0, [])), (5, (.invokestatic 63, 8, false, false, 0, 2, 1, 5, 0, 0, [])), (8, (.istore_n 1, 9, false, false, 1, 0, 0, 0, 0, 0, [])), (9, (.aload_n 0, 10, false, false, 0, 0, 0, 0, 0, 0, [])), (10, (.dup, 11, false, false, 0, 0, 0, 0, 0, 0, [])), (11, (.getfield 24, 14, false, false, 6, 0, 0, 0, 0, 0, [])), (14, (.iload_n 1, 15, false, false, 1, 0, 0, 0, 0, 0, [])), (15, (.isub, 16, false, false, 0, 0, 0, 0, 0, 0, [])), (16, (.putfield 24, 19, false, false, 6, 0, 0, 0, 0, 0, [])), (19, (.aload_n 0, 20, false, false, 0, 0, 0, 0, 0, 0, [])), (20, (.aload_n 0, 21, false, false, 0, 0, 0, 0, 0, 0, [])), (21, (.getfield 37, 24, false, false, 6, 4, 0, 0, 0, 0, [])), (24, (.i2l, 25, false, false, 0, 0, 0, 0, 0, 0, [])), (25, (.iload_n 1, 26, false, false, 1, 0, 0, 0, 0, 0, [])), (26, (.i2l, 27, false, false, 0, 0, 0, 0, 0, 0, [])), (27, (.ladd, 28, false, false, 0, 0, 0, 0, 0, 0, [])), (28, (.invokestatic 55, 31, false, false, 103, 1, 1, 1, 0, 0, [])), (31, (.putfield 37, 34, false, false, 6, 4, 0, 0, 0, 0, [])), (34, (.aload_n 0, 35, false, false, 0, 0, 0, 0, 0, 0, [])), (35, (.dup, 36, false, false, 0, 0, 0, 0, 0, 0, [])), (36, (.getfield 40, 39, false, false, 6, 5, 0, 0, 0, 0, [])), (39, (.iconst 1, 40, false, false, 0, 0, 0, 0, 1, 0, []))]),
  (45, [(40, (.iadd, 41, false, false, 0, 0, 0, 0, 0, 0, [])), (41, (.putfield 40, 44, false, false, 6, 5, 0, 0, 0, 0, [])), (44, (.iload_n 1, 45, false, false, 1, 0, 0, 0, 0, 0, [])), (45, (.ireturn, 46, false, false, 0, 0, 0, 0, 0, 0, []))])], 0, [])
set_option maxRecDepth 100000 in
theorem v_X3_passOn : VE MYT dflT E_X3_passOn := ⟨⟨⟨⟨⟨dX3_passOn_0, rfl⟩, rfl⟩, ⟨⟨dX3_passOn_1, rfl⟩, rfl⟩, ⟨⟨dX3_passOn_2, rfl⟩, Or.inl ⟨by decide, _, _, fX3_24⟩⟩, ⟨⟨dX3_passOn_5, rfl⟩, Or.inr (Or.inr (Or.inr (Or.inr (Or.inl ⟨rfl, sX3_63⟩))))⟩, ⟨⟨dX3_passOn_8, rfl⟩, rfl⟩, ⟨⟨dX3_passOn_9, rfl⟩, rfl⟩, ⟨⟨dX3_passOn_10, rfl⟩, trivial⟩, ⟨⟨dX3_passOn_11, rfl⟩, Or.inl ⟨by decide, _, _, fX3_24⟩⟩, ⟨⟨dX3_passOn_14, rfl⟩, rfl⟩, ⟨⟨dX3_passOn_15, rfl⟩, trivial⟩, ⟨⟨dX3_passOn_16, rfl⟩, Or.inl ⟨rfl, fX3_24⟩⟩, ⟨⟨dX3_passOn_19, rfl⟩, rfl⟩, ⟨⟨dX3_passOn_20, rfl⟩, rfl⟩, ⟨⟨dX3_passOn_21, rfl⟩, Or.inl ⟨by decide, _, _, fX3_37⟩⟩, ⟨⟨dX3_passOn_24, rfl⟩, trivial⟩, ⟨⟨dX3_passOn_25, rfl⟩, rfl⟩, ⟨⟨dX3_passOn_26, rfl⟩, trivial⟩, ⟨⟨dX3_passOn_27, rfl⟩, trivial⟩, ⟨⟨dX3_passOn_28, rfl⟩, Or.inr (Or.inl ⟨rfl, 0, _, my_103, sX3_55⟩)⟩, ⟨⟨dX3_passOn_31, rfl⟩, Or.inl ⟨rfl, fX3_37⟩⟩, ⟨⟨dX3_passOn_34, rfl⟩, rfl⟩, ⟨⟨dX3_passOn_35, rfl⟩, trivial⟩, ⟨⟨dX3_passOn_36, rfl⟩, Or.inl ⟨by decide, _, _, fX3_40⟩⟩, ⟨⟨dX3_passOn_39, rfl⟩, rfl⟩, trivial⟩,
  ⟨⟨⟨dX3_passOn_40, rfl⟩, trivial⟩, ⟨⟨dX3_passOn_41, rfl⟩, Or.inl ⟨rfl, fX3_40⟩⟩, ⟨⟨dX3_passOn_44, rfl⟩, rfl⟩, ⟨⟨dX3_passOn_45, rfl⟩, Or.inl ⟨rfl, rfl⟩⟩, trivial⟩, trivial⟩, by decide, Or.inl ⟨rfl, by decide, rfl⟩⟩
set_option maxRecDepth 100000 in
theorem g_X3_passOn_0 (S : sT) (call : cT) (n : Nat) (a0 : Nat) (h : pH) : bd S call dflT E_X3_passOn (n + 1) 0 [some (.ref a0), none] [] h = (gI h (.ref a0) 6 0 (fun y1 => gI h (.ref a0) 6 0 (fun y2 => pF h (.ref a0) 6 0 (.int (y2 - (if (0 : Int32) < y1 then y1 else (0 : Int32)))) (fun h3 => gI h3 (.ref a0) 6 4 (fun y4 => cIx tN (call 103 [.long (y4.toInt64 + (if (0 : Int32) < y1 then y1 else (0 : Int32)).toInt64)] h3) (fun y6 h5 => pF h5 (.ref a0) 6 4 (.int y6) (fun h7 => gI h7 (.ref a0) 6 5 (fun y8 => pF h7 (.ref a0) 6 5 (.int (y8 + 1)) (fun h9 => some (.inl (some (.int (if (0 : Int32) < y1 then y1 else (0 : Int32)))), h9)))))))))) := rfl
theorem dX3_wrongNote_0 : decode cX3_wrongNote 0 = .ok (.aload_n 0, 1) := by decide +kernel
theorem dX3_wrongNote_1 : decode cX3_wrongNote 1 = .ok (.getfield 11, 3) := by decide +kernel
theorem dX3_wrongNote_4 : decode cX3_wrongNote 4 = .ok (.iload_n 1, 1) := by decide +kernel
theorem dX3_wrongNote_5 : decode cX3_wrongNote 5 = .ok (.iconst 4, 1) := by decide +kernel
theorem dX3_wrongNote_6 : decode cX3_wrongNote 6 = .ok (.imul, 1) := by decide +kernel
theorem dX3_wrongNote_7 : decode cX3_wrongNote 7 = .ok (.iload_n 2, 1) := by decide +kernel
theorem dX3_wrongNote_8 : decode cX3_wrongNote 8 = .ok (.iadd, 1) := by decide +kernel
theorem dX3_wrongNote_9 : decode cX3_wrongNote 9 = .ok (.iaload, 1) := by decide +kernel
theorem dX3_wrongNote_10 : decode cX3_wrongNote 10 = .ok (.ireturn, 1) := by decide +kernel
noncomputable def E_X3_wrongNote : mE := (mX3_wrongNote, [(10, [(0, (.aload_n 0, 1, false, false, 0, 0, 0, 0, 0, 0, [])), (1, (.getfield 11, 4, false, false, 6, 7, 1, 0, 0, 0, [])), (4, (.iload_n 1, 5, false, false, 1, 0, 0, 0, 0, 0, [])), (5, (.iconst 4, 6, false, false, 0, 0, 0, 0, 4, 0, [])), (6, (.imul, 7, false, false, 0, 0, 0, 0, 0, 0, [])), (7, (.iload_n 2, 8, false, false, 2, 0, 0, 0, 0, 0, [])), (8, (.iadd, 9, false, false, 0, 0, 0, 0, 0, 0, [])), (9, (.iaload, 10, false, false, 0, 0, 0, 0, 0, 0, [])), (10, (.ireturn, 11, false, false, 0, 0, 0, 0, 0, 0, []))])], 0, [])
set_option maxRecDepth 100000 in
theorem v_X3_wrongNote : VE MYT dflT E_X3_wrongNote := ⟨⟨⟨⟨⟨dX3_wrongNote_0, rfl⟩, rfl⟩, ⟨⟨dX3_wrongNote_1, rfl⟩, Or.inl ⟨by decide, _, _, fX3_11⟩⟩, ⟨⟨dX3_wrongNote_4, rfl⟩, rfl⟩, ⟨⟨dX3_wrongNote_5, rfl⟩, rfl⟩, ⟨⟨dX3_wrongNote_6, rfl⟩, trivial⟩, ⟨⟨dX3_wrongNote_7, rfl⟩, rfl⟩, ⟨⟨dX3_wrongNote_8, rfl⟩, trivial⟩, ⟨⟨dX3_wrongNote_9, rfl⟩, trivial⟩, ⟨⟨dX3_wrongNote_10, rfl⟩, Or.inl ⟨rfl, rfl⟩⟩, trivial⟩, trivial⟩, by decide, Or.inl ⟨rfl, by decide, rfl⟩⟩
set_option maxRecDepth 100000 in
theorem g_X3_wrongNote_0 (S : sT) (call : cT) (n : Nat) (a0 : Nat) (x1 : Int32) (x2 : Int32) (h : pH) : bd S call dflT E_X3_wrongNote (n + 1) 0 [some (.ref a0), some (.int x1), some (.int x2)] [] h = (gV h (.ref a0) 6 7 (fun w1 => aI h w1 0 ((x1 * 4) + x2) (fun y2 => some (.inl (some (.int y2)), h)))) := rfl
theorem dX3_copyFrom_0 : decode cX3_copyFrom 0 = .ok (.aload_n 0, 1) := by decide +kernel
theorem dX3_copyFrom_1 : decode cX3_copyFrom 1 = .ok (.aload_n 1, 1) := by decide +kernel
theorem dX3_copyFrom_2 : decode cX3_copyFrom 2 = .ok (.getfield 24, 3) := by decide +kernel
theorem dX3_copyFrom_5 : decode cX3_copyFrom 5 = .ok (.putfield 24, 3) := by decide +kernel
theorem dX3_copyFrom_8 : decode cX3_copyFrom 8 = .ok (.aload_n 0, 1) := by decide +kernel
theorem dX3_copyFrom_9 : decode cX3_copyFrom 9 = .ok (.aload_n 1, 1) := by decide +kernel
theorem dX3_copyFrom_10 : decode cX3_copyFrom 10 = .ok (.getfield 28, 3) := by decide +kernel
theorem dX3_copyFrom_13 : decode cX3_copyFrom 13 = .ok (.putfield 28, 3) := by decide +kernel
theorem dX3_copyFrom_16 : decode cX3_copyFrom 16 = .ok (.aload_n 0, 1) := by decide +kernel
theorem dX3_copyFrom_17 : decode cX3_copyFrom 17 = .ok (.aload_n 1, 1) := by decide +kernel
theorem dX3_copyFrom_18 : decode cX3_copyFrom 18 = .ok (.getfield 31, 3) := by decide +kernel
theorem dX3_copyFrom_21 : decode cX3_copyFrom 21 = .ok (.putfield 31, 3) := by decide +kernel
theorem dX3_copyFrom_24 : decode cX3_copyFrom 24 = .ok (.aload_n 0, 1) := by decide +kernel
theorem dX3_copyFrom_25 : decode cX3_copyFrom 25 = .ok (.aload_n 1, 1) := by decide +kernel
theorem dX3_copyFrom_26 : decode cX3_copyFrom 26 = .ok (.getfield 34, 3) := by decide +kernel
theorem dX3_copyFrom_29 : decode cX3_copyFrom 29 = .ok (.putfield 34, 3) := by decide +kernel
theorem dX3_copyFrom_32 : decode cX3_copyFrom 32 = .ok (.aload_n 0, 1) := by decide +kernel
theorem dX3_copyFrom_33 : decode cX3_copyFrom 33 = .ok (.aload_n 1, 1) := by decide +kernel
theorem dX3_copyFrom_34 : decode cX3_copyFrom 34 = .ok (.getfield 37, 3) := by decide +kernel
theorem dX3_copyFrom_37 : decode cX3_copyFrom 37 = .ok (.putfield 37, 3) := by decide +kernel
theorem dX3_copyFrom_40 : decode cX3_copyFrom 40 = .ok (.aload_n 0, 1) := by decide +kernel
theorem dX3_copyFrom_41 : decode cX3_copyFrom 41 = .ok (.aload_n 1, 1) := by decide +kernel
theorem dX3_copyFrom_42 : decode cX3_copyFrom 42 = .ok (.getfield 40, 3) := by decide +kernel
theorem dX3_copyFrom_45 : decode cX3_copyFrom 45 = .ok (.putfield 40, 3) := by decide +kernel
theorem dX3_copyFrom_48 : decode cX3_copyFrom 48 = .ok (.aload_n 0, 1) := by decide +kernel
theorem dX3_copyFrom_49 : decode cX3_copyFrom 49 = .ok (.aload_n 1, 1) := by decide +kernel
theorem dX3_copyFrom_50 : decode cX3_copyFrom 50 = .ok (.getfield 43, 3) := by decide +kernel
theorem dX3_copyFrom_53 : decode cX3_copyFrom 53 = .ok (.putfield 43, 3) := by decide +kernel
theorem dX3_copyFrom_56 : decode cX3_copyFrom 56 = .ok (.aload_n 1, 1) := by decide +kernel
theorem dX3_copyFrom_57 : decode cX3_copyFrom 57 = .ok (.getfield 11, 3) := by decide +kernel
theorem dX3_copyFrom_60 : decode cX3_copyFrom 60 = .ok (.iconst 0, 1) := by decide +kernel
theorem dX3_copyFrom_61 : decode cX3_copyFrom 61 = .ok (.aload_n 0, 1) := by decide +kernel
theorem dX3_copyFrom_62 : decode cX3_copyFrom 62 = .ok (.getfield 11, 3) := by decide +kernel
theorem dX3_copyFrom_65 : decode cX3_copyFrom 65 = .ok (.iconst 0, 1) := by decide +kernel
theorem dX3_copyFrom_66 : decode cX3_copyFrom 66 = .ok (.sipush 240, 3) := by decide +kernel
theorem dX3_copyFrom_69 : decode cX3_copyFrom 69 = .ok (.invokestatic 46, 3) := by decide +kernel
theorem dX3_copyFrom_72 : decode cX3_copyFrom 72 = .ok (.aload_n 0, 1) := by decide +kernel
theorem dX3_copyFrom_73 : decode cX3_copyFrom 73 = .ok (.aload_n 1, 1) := by decide +kernel
theorem dX3_copyFrom_74 : decode cX3_copyFrom 74 = .ok (.getfield 52, 3) := by decide +kernel
theorem dX3_copyFrom_77 : decode cX3_copyFrom 77 = .ok (.putfield 52, 3) := by decide +kernel
theorem dX3_copyFrom_80 : decode cX3_copyFrom 80 = .ok (.aload_n 1, 1) := by decide +kernel
theorem dX3_copyFrom_81 : decode cX3_copyFrom 81 = .ok (.getfield 15, 3) := by decide +kernel
theorem dX3_copyFrom_84 : decode cX3_copyFrom 84 = .ok (.iconst 0, 1) := by decide +kernel
theorem dX3_copyFrom_85 : decode cX3_copyFrom 85 = .ok (.aload_n 0, 1) := by decide +kernel
theorem dX3_copyFrom_86 : decode cX3_copyFrom 86 = .ok (.getfield 15, 3) := by decide +kernel
theorem dX3_copyFrom_89 : decode cX3_copyFrom 89 = .ok (.iconst 0, 1) := by decide +kernel
theorem dX3_copyFrom_90 : decode cX3_copyFrom 90 = .ok (.bipush 12, 2) := by decide +kernel
theorem dX3_copyFrom_92 : decode cX3_copyFrom 92 = .ok (.invokestatic 46, 3) := by decide +kernel
theorem dX3_copyFrom_95 : decode cX3_copyFrom 95 = .ok (.aload_n 1, 1) := by decide +kernel
theorem dX3_copyFrom_96 : decode cX3_copyFrom 96 = .ok (.getfield 18, 3) := by decide +kernel
theorem dX3_copyFrom_99 : decode cX3_copyFrom 99 = .ok (.iconst 0, 1) := by decide +kernel
theorem dX3_copyFrom_100 : decode cX3_copyFrom 100 = .ok (.aload_n 0, 1) := by decide +kernel
theorem dX3_copyFrom_101 : decode cX3_copyFrom 101 = .ok (.getfield 18, 3) := by decide +kernel
theorem dX3_copyFrom_104 : decode cX3_copyFrom 104 = .ok (.iconst 0, 1) := by decide +kernel
theorem dX3_copyFrom_105 : decode cX3_copyFrom 105 = .ok (.bipush 12, 2) := by decide +kernel
theorem dX3_copyFrom_107 : decode cX3_copyFrom 107 = .ok (.invokestatic 46, 3) := by decide +kernel
theorem dX3_copyFrom_110 : decode cX3_copyFrom 110 = .ok (.aload_n 1, 1) := by decide +kernel
theorem dX3_copyFrom_111 : decode cX3_copyFrom 111 = .ok (.getfield 21, 3) := by decide +kernel
theorem dX3_copyFrom_114 : decode cX3_copyFrom 114 = .ok (.iconst 0, 1) := by decide +kernel
theorem dX3_copyFrom_115 : decode cX3_copyFrom 115 = .ok (.aload_n 0, 1) := by decide +kernel
theorem dX3_copyFrom_116 : decode cX3_copyFrom 116 = .ok (.getfield 21, 3) := by decide +kernel
theorem dX3_copyFrom_119 : decode cX3_copyFrom 119 = .ok (.iconst 0, 1) := by decide +kernel
theorem dX3_copyFrom_120 : decode cX3_copyFrom 120 = .ok (.bipush 12, 2) := by decide +kernel
theorem dX3_copyFrom_122 : decode cX3_copyFrom 122 = .ok (.invokestatic 46, 3) := by decide +kernel
theorem dX3_copyFrom_125 : decode cX3_copyFrom 125 = .ok (.return_, 1) := by decide +kernel
noncomputable def E_X3_copyFrom : mE := (mX3_copyFrom, [(45, [(0, (.aload_n 0, 1, false, false, 0, 0, 0, 0, 0, 0, [])), (1, (.aload_n 1, 2, false, false, 1, 0, 0, 0, 0, 0, [])), (2, (.getfield 24, 5, false, false, 6, 0, 0, 0, 0, 0, [])), (5, (.putfield 24, 8, false, false, 6, 0, 0, 0, 0, 0, [])), (8, (.aload_n 0, 9, false, false, 0, 0, 0, 0, 0, 0, [])), (9, (.aload_n 1, 10, false, false, 1, 0, 0, 0, 0, 0, [])), (10, (.getfield 28, 13, false, false, 6, 1, 0, 0, 0, 0, [])), (13, (.putfield 28, 16, false, false, 6, 1, 0, 0, 0, 0, [])), (16, (.aload_n 0, 17, false, false, 0, 0, 0, 0, 0, 0, [])), (17, (.aload_n 1, 18, false, false, 1, 0, 0, 0, 0, 0, [])), (18, (.getfield 31, 21, false, false, 6, 2, 0, 0, 0, 0, [])), (21, (.putfield 31, 24, false, false, 6, 2, 0, 0, 0, 0, [])), (24, (.aload_n 0, 25, false, false, 0, 0, 0, 0, 0, 0, [])), (25, (.aload_n 1, 26, false, false, 1, 0, 0, 0, 0, 0, [])), (26, (.getfield 34, 29, false, false, 6, 3, 0, 0, 0, 0, [])), (29, (.putfield 34, 32, false, false, 6, 3, 0, 0, 0, 0, [])), (32, (.aload_n 0, 33, false, false, 0, 0, 0, 0, 0, 0, [])), (33, (.aload_n 1, 34, false, false, 1, 0, 0, 0, 0, 0, [])), (34, (.getfield 37, 37, false, false, 6, 4, 0, 0, 0, 0, [])), (37, (.putfield 37, 40, false, false, 6, 4, 0, 0, 0, 0, [])), (40, (.aload_n 0, 41, false, false, 0, 0, 0, 0, 0, 0, [])), (41, (.aload_n 1, 42, false, false, 1, 0, 0, 0, 0, 0, [])), (42, (.getfield 40, 45, false, false, 6, 5, 0, 0, 0, 0, [])), (45, (.putfield 40, 48, false, false, 6, 5, 0, 0, 0, 0, []))]),
  (92, [(48, (.aload_n 0, 49, false, false, 0, 0, 0, 0, 0, 0, [])), (49, (.aload_n 1, 50, false, false, 1, 0, 0, 0, 0, 0, [])), (50, (.getfield 43, 53, false, false, 6, 6, 0, 0, 0, 0, [])), (53, (.putfield 43, 56, false, false, 6, 6, 0, 0, 0, 0, [])), (56, (.aload_n 1, 57, false, false, 1, 0, 0, 0, 0, 0, [])), (57, (.getfield 11, 60, false, false, 6, 7, 1, 0, 0, 0, [])), (60, (.iconst 0, 61, false, false, 0, 0, 0, 0, 0, 0, [])), (61, (.aload_n 0, 62, false, false, 0, 0, 0, 0, 0, 0, [])), (62, (.getfield 11, 65, false, false, 6, 7, 1, 0, 0, 0, [])), (65, (.iconst 0, 66, false, false, 0, 0, 0, 0, 0, 0, [])), (66, (.sipush 240, 69, false, false, 0, 0, 0, 0, 240, 0, [])), (69, (.invokestatic 46, 72, false, false, 0, 5, 0, 2, 0, 0, [])), (72, (.aload_n 0, 73, false, false, 0, 0, 0, 0, 0, 0, [])), (73, (.aload_n 1, 74, false, false, 1, 0, 0, 0, 0, 0, [])), (74, (.getfield 52, 77, false, false, 6, 8, 0, 0, 0, 0, [])), (77, (.putfield 52, 80, false, false, 6, 8, 0, 0, 0, 0, [])), (80, (.aload_n 1, 81, false, false, 1, 0, 0, 0, 0, 0, [])), (81, (.getfield 15, 84, false, false, 6, 9, 1, 0, 0, 0, [])), (84, (.iconst 0, 85, false, false, 0, 0, 0, 0, 0, 0, [])), (85, (.aload_n 0, 86, false, false, 0, 0, 0, 0, 0, 0, [])), (86, (.getfield 15, 89, false, false, 6, 9, 1, 0, 0, 0, [])), (89, (.iconst 0, 90, false, false, 0, 0, 0, 0, 0, 0, [])), (90, (.bipush 12, 92, false, false, 0, 0, 0, 0, 12, 0, [])), (92, (.invokestatic 46, 95, false, false, 0, 5, 0, 2, 0, 0, []))]),
  (125, [(95, (.aload_n 1, 96, false, false, 1, 0, 0, 0, 0, 0, [])), (96, (.getfield 18, 99, false, false, 6, 10, 1, 0, 0, 0, [])), (99, (.iconst 0, 100, false, false, 0, 0, 0, 0, 0, 0, [])), (100, (.aload_n 0, 101, false, false, 0, 0, 0, 0, 0, 0, [])), (101, (.getfield 18, 104, false, false, 6, 10, 1, 0, 0, 0, [])), (104, (.iconst 0, 105, false, false, 0, 0, 0, 0, 0, 0, [])), (105, (.bipush 12, 107, false, false, 0, 0, 0, 0, 12, 0, [])), (107, (.invokestatic 46, 110, false, false, 0, 5, 0, 2, 0, 0, [])), (110, (.aload_n 1, 111, false, false, 1, 0, 0, 0, 0, 0, [])), (111, (.getfield 21, 114, false, false, 6, 11, 1, 0, 0, 0, [])), (114, (.iconst 0, 115, false, false, 0, 0, 0, 0, 0, 0, [])), (115, (.aload_n 0, 116, false, false, 0, 0, 0, 0, 0, 0, [])), (116, (.getfield 21, 119, false, false, 6, 11, 1, 0, 0, 0, [])), (119, (.iconst 0, 120, false, false, 0, 0, 0, 0, 0, 0, [])), (120, (.bipush 12, 122, false, false, 0, 0, 0, 0, 12, 0, [])), (122, (.invokestatic 46, 125, false, false, 0, 5, 0, 2, 0, 0, [])), (125, (.return_, 126, false, false, 0, 0, 0, 0, 0, 0, []))])], 0, [])
set_option maxRecDepth 100000 in
theorem v_X3_copyFrom : VE MYT dflT E_X3_copyFrom := ⟨⟨⟨⟨⟨dX3_copyFrom_0, rfl⟩, rfl⟩, ⟨⟨dX3_copyFrom_1, rfl⟩, rfl⟩, ⟨⟨dX3_copyFrom_2, rfl⟩, Or.inl ⟨by decide, _, _, fX3_24⟩⟩, ⟨⟨dX3_copyFrom_5, rfl⟩, Or.inl ⟨rfl, fX3_24⟩⟩, ⟨⟨dX3_copyFrom_8, rfl⟩, rfl⟩, ⟨⟨dX3_copyFrom_9, rfl⟩, rfl⟩, ⟨⟨dX3_copyFrom_10, rfl⟩, Or.inl ⟨by decide, _, _, fX3_28⟩⟩, ⟨⟨dX3_copyFrom_13, rfl⟩, Or.inl ⟨rfl, fX3_28⟩⟩, ⟨⟨dX3_copyFrom_16, rfl⟩, rfl⟩, ⟨⟨dX3_copyFrom_17, rfl⟩, rfl⟩, ⟨⟨dX3_copyFrom_18, rfl⟩, Or.inl ⟨by decide, _, _, fX3_31⟩⟩, ⟨⟨dX3_copyFrom_21, rfl⟩, Or.inl ⟨rfl, fX3_31⟩⟩, ⟨⟨dX3_copyFrom_24, rfl⟩, rfl⟩, ⟨⟨dX3_copyFrom_25, rfl⟩, rfl⟩, ⟨⟨dX3_copyFrom_26, rfl⟩, Or.inl ⟨by decide, _, _, fX3_34⟩⟩, ⟨⟨dX3_copyFrom_29, rfl⟩, Or.inl ⟨rfl, fX3_34⟩⟩, ⟨⟨dX3_copyFrom_32, rfl⟩, rfl⟩, ⟨⟨dX3_copyFrom_33, rfl⟩, rfl⟩, ⟨⟨dX3_copyFrom_34, rfl⟩, Or.inl ⟨by decide, _, _, fX3_37⟩⟩, ⟨⟨dX3_copyFrom_37, rfl⟩, Or.inl ⟨rfl, fX3_37⟩⟩, ⟨⟨dX3_copyFrom_40, rfl⟩, rfl⟩, ⟨⟨dX3_copyFrom_41, rfl⟩, rfl⟩, ⟨⟨dX3_copyFrom_42, rfl⟩, Or.inl ⟨by decide, _, _, fX3_40⟩⟩, ⟨⟨dX3_copyFrom_45, rfl⟩, Or.inl ⟨rfl, fX3_40⟩⟩, trivial⟩,
  ⟨⟨⟨dX3_copyFrom_48, rfl⟩, rfl⟩, ⟨⟨dX3_copyFrom_49, rfl⟩, rfl⟩, ⟨⟨dX3_copyFrom_50, rfl⟩, Or.inl ⟨by decide, _, _, fX3_43⟩⟩, ⟨⟨dX3_copyFrom_53, rfl⟩, Or.inl ⟨rfl, fX3_43⟩⟩, ⟨⟨dX3_copyFrom_56, rfl⟩, rfl⟩, ⟨⟨dX3_copyFrom_57, rfl⟩, Or.inl ⟨by decide, _, _, fX3_11⟩⟩, ⟨⟨dX3_copyFrom_60, rfl⟩, rfl⟩, ⟨⟨dX3_copyFrom_61, rfl⟩, rfl⟩, ⟨⟨dX3_copyFrom_62, rfl⟩, Or.inl ⟨by decide, _, _, fX3_11⟩⟩, ⟨⟨dX3_copyFrom_65, rfl⟩, rfl⟩, ⟨⟨dX3_copyFrom_66, rfl⟩, rfl⟩, ⟨⟨dX3_copyFrom_69, rfl⟩, Or.inr (Or.inr (Or.inl ⟨rfl, acX3_46, ac_1, ac_2, ac_3⟩))⟩, ⟨⟨dX3_copyFrom_72, rfl⟩, rfl⟩, ⟨⟨dX3_copyFrom_73, rfl⟩, rfl⟩, ⟨⟨dX3_copyFrom_74, rfl⟩, Or.inl ⟨by decide, _, _, fX3_52⟩⟩, ⟨⟨dX3_copyFrom_77, rfl⟩, Or.inl ⟨rfl, fX3_52⟩⟩, ⟨⟨dX3_copyFrom_80, rfl⟩, rfl⟩, ⟨⟨dX3_copyFrom_81, rfl⟩, Or.inl ⟨by decide, _, _, fX3_15⟩⟩, ⟨⟨dX3_copyFrom_84, rfl⟩, rfl⟩, ⟨⟨dX3_copyFrom_85, rfl⟩, rfl⟩, ⟨⟨dX3_copyFrom_86, rfl⟩, Or.inl ⟨by decide, _, _, fX3_15⟩⟩, ⟨⟨dX3_copyFrom_89, rfl⟩, rfl⟩, ⟨⟨dX3_copyFrom_90, rfl⟩, rfl⟩, ⟨⟨dX3_copyFrom_92, rfl⟩, Or.inr (Or.inr (Or.inl ⟨rfl, acX3_46, ac_1, ac_2, ac_3⟩))⟩, trivial⟩,
  ⟨⟨⟨dX3_copyFrom_95, rfl⟩, rfl⟩, ⟨⟨dX3_copyFrom_96, rfl⟩, Or.inl ⟨by decide, _, _, fX3_18⟩⟩, ⟨⟨dX3_copyFrom_99, rfl⟩, rfl⟩, ⟨⟨dX3_copyFrom_100, rfl⟩, rfl⟩, ⟨⟨dX3_copyFrom_101, rfl⟩, Or.inl ⟨by decide, _, _, fX3_18⟩⟩, ⟨⟨dX3_copyFrom_104, rfl⟩, rfl⟩, ⟨⟨dX3_copyFrom_105, rfl⟩, rfl⟩, ⟨⟨dX3_copyFrom_107, rfl⟩, Or.inr (Or.inr (Or.inl ⟨rfl, acX3_46, ac_1, ac_2, ac_3⟩))⟩, ⟨⟨dX3_copyFrom_110, rfl⟩, rfl⟩, ⟨⟨dX3_copyFrom_111, rfl⟩, Or.inl ⟨by decide, _, _, fX3_21⟩⟩, ⟨⟨dX3_copyFrom_114, rfl⟩, rfl⟩, ⟨⟨dX3_copyFrom_115, rfl⟩, rfl⟩, ⟨⟨dX3_copyFrom_116, rfl⟩, Or.inl ⟨by decide, _, _, fX3_21⟩⟩, ⟨⟨dX3_copyFrom_119, rfl⟩, rfl⟩, ⟨⟨dX3_copyFrom_120, rfl⟩, rfl⟩, ⟨⟨dX3_copyFrom_122, rfl⟩, Or.inr (Or.inr (Or.inl ⟨rfl, acX3_46, ac_1, ac_2, ac_3⟩))⟩, ⟨⟨dX3_copyFrom_125, rfl⟩, rfl⟩, trivial⟩, trivial⟩, by decide, Or.inl ⟨rfl, by decide, rfl⟩⟩
set_option maxRecDepth 100000 in
theorem g_X3_copyFrom_0 (S : sT) (call : cT) (n : Nat) (a0 : Nat) (v1 : Value) (h : pH) : bd S call dflT E_X3_copyFrom (n + 1) 0 [some (.ref a0), some (v1)] [] h = (iA v1 (gI h v1 6 0 (fun y1 => pF h (.ref a0) 6 0 (.int y1) (fun h2 => iA v1 (gI h2 v1 6 1 (fun y3 => pF h2 (.ref a0) 6 1 (.int y3) (fun h4 => iA v1 (gI h4 v1 6 2 (fun y5 => pF h4 (.ref a0) 6 2 (.int y5) (fun h6 => iA v1 (gI h6 v1 6 3 (fun y7 => pF h6 (.ref a0) 6 3 (.int y7) (fun h8 => iA v1 (gI h8 v1 6 4 (fun y9 => pF h8 (.ref a0) 6 4 (.int y9) (fun h10 => iA v1 (gI h10 v1 6 5 (fun y11 => pF h10 (.ref a0) 6 5 (.int y11) (fun h12 => iA v1 (gI h12 v1 6 6 (fun y13 => pF h12 (.ref a0) 6 6 (.int y13) (fun h14 => iA v1 (gV h14 v1 6 7 (fun w15 => gV h14 (.ref a0) 6 7 (fun w16 => cpI h14 w15 0 w16 0 240 (fun h17 => iA v1 (gI h17 v1 6 8 (fun y18 => pF h17 (.ref a0) 6 8 (.int y18) (fun h19 => iA v1 (gV h19 v1 6 9 (fun w20 => gV h19 (.ref a0) 6 9 (fun w21 => cpI h19 w20 0 w21 0 12 (fun h22 => iA v1 (gV h22 v1 6 10 (fun w23 => gV h22 (.ref a0) 6 10 (fun w24 => cpI h22 w23 0 w24 0 12 (fun h25 => iA v1 (gV h25 v1 6 11 (fun w26 => gV h25 (.ref a0) 6 11 (fun w27 => cpI h25 w26 0 w27 0 12 (fun h28 => some (.inl none, h28)))))))))))))))))))))))))))))))))))))))))) := rfl
theorem dX3_told_0 : decode cX3_told 0 = .ok (.iload_n 1, 1) := by decide +kernel
theorem dX3_told_1 : decode cX3_told 1 = .ok (.tableswitch 128 2 18 #[83, 88, 128, 128, 128, 128, 128, 128, 93, 98, 103, 108, 128, 113, 118, 128, 123], 83) := by decide +kernel
theorem dX3_told_84 : decode cX3_told 84 = .ok (.aload_n 0, 1) := by decide +kernel
theorem dX3_told_85 : decode cX3_told 85 = .ok (.getfield 24, 3) := by decide +kernel
theorem dX3_told_88 : decode cX3_told 88 = .ok (.ireturn, 1) := by decide +kernel
theorem dX3_told_89 : decode cX3_told 89 = .ok (.aload_n 0, 1) := by decide +kernel
theorem dX3_told_90 : decode cX3_told 90 = .ok (.getfield 28, 3) := by decide +kernel
theorem dX3_told_93 : decode cX3_told 93 = .ok (.ireturn, 1) := by decide +kernel
theorem dX3_told_94 : decode cX3_told 94 = .ok (.aload_n 0, 1) := by decide +kernel
theorem dX3_told_95 : decode cX3_told 95 = .ok (.getfield 52, 3) := by decide +kernel
theorem dX3_told_98 : decode cX3_told 98 = .ok (.ireturn, 1) := by decide +kernel
theorem dX3_told_99 : decode cX3_told 99 = .ok (.aload_n 0, 1) := by decide +kernel
theorem dX3_told_100 : decode cX3_told 100 = .ok (.invokevirtual 79, 3) := by decide +kernel
theorem dX3_told_103 : decode cX3_told 103 = .ok (.ireturn, 1) := by decide +kernel
theorem dX3_told_104 : decode cX3_told 104 = .ok (.aload_n 0, 1) := by decide +kernel
theorem dX3_told_105 : decode cX3_told 105 = .ok (.getfield 40, 3) := by decide +kernel
theorem dX3_told_108 : decode cX3_told 108 = .ok (.ireturn, 1) := by decide +kernel
theorem dX3_told_109 : decode cX3_told 109 = .ok (.aload_n 0, 1) := by decide +kernel
theorem dX3_told_110 : decode cX3_told 110 = .ok (.getfield 43, 3) := by decide +kernel
theorem dX3_told_113 : decode cX3_told 113 = .ok (.ireturn, 1) := by decide +kernel
theorem dX3_told_114 : decode cX3_told 114 = .ok (.aload_n 0, 1) := by decide +kernel
theorem dX3_told_115 : decode cX3_told 115 = .ok (.getfield 31, 3) := by decide +kernel
theorem dX3_told_118 : decode cX3_told 118 = .ok (.ireturn, 1) := by decide +kernel
theorem dX3_told_119 : decode cX3_told 119 = .ok (.aload_n 0, 1) := by decide +kernel
theorem dX3_told_120 : decode cX3_told 120 = .ok (.getfield 34, 3) := by decide +kernel
theorem dX3_told_123 : decode cX3_told 123 = .ok (.ireturn, 1) := by decide +kernel
theorem dX3_told_124 : decode cX3_told 124 = .ok (.aload_n 0, 1) := by decide +kernel
theorem dX3_told_125 : decode cX3_told 125 = .ok (.getfield 37, 3) := by decide +kernel
theorem dX3_told_128 : decode cX3_told 128 = .ok (.ireturn, 1) := by decide +kernel
theorem dX3_told_129 : decode cX3_told 129 = .ok (.iconst (-1), 1) := by decide +kernel
theorem dX3_told_130 : decode cX3_told 130 = .ok (.ireturn, 1) := by decide +kernel
noncomputable def E_X3_told : mE := (mX3_told, [(119, [(0, (.iload_n 1, 1, false, false, 1, 0, 0, 0, 0, 0, [])), (1, (.tableswitch 128 2 18 #[83, 88, 128, 128, 128, 128, 128, 128, 93, 98, 103, 108, 128, 113, 118, 128, 123], 0, false, false, 129, 0, 0, 0, 0, 0, [(2, 84), (3, 89), (4, 129), (5, 129), (6, 129), (7, 129), (8, 129), (9, 129), (10, 94), (11, 99), (12, 104), (13, 109), (14, 129), (15, 114), (16, 119), (17, 129), (18, 124)])), (84, (.aload_n 0, 85, false, false, 0, 0, 0, 0, 0, 0, [])), (85, (.getfield 24, 88, false, false, 6, 0, 0, 0, 0, 0, [])), (88, (.ireturn, 89, false, false, 0, 0, 0, 0, 0, 0, [])), (89, (.aload_n 0, 90, false, false, 0, 0, 0, 0, 0, 0, [])), (90, (.getfield 28, 93, false, false, 6, 1, 0, 0, 0, 0, [])), (93, (.ireturn, 94, false, false, 0, 0, 0, 0, 0, 0, [])), (94, (.aload_n 0, 95, false, false, 0, 0, 0, 0, 0, 0, [])), (95, (.getfield 52, 98, false, false, 6, 8, 0, 0, 0, 0, [])), (98, (.ireturn, 99, false, false, 0, 0, 0, 0, 0, 0, [])), (99, (.aload_n 0, 100, false, false, 0, 0, 0, 0, 0, 0, [])), (100, (.invokevirtual 79, 103, false, false, 301, 0, 1, 6, 0, 0, [])), (103, (.ireturn, 104, false, false, 0, 0, 0, 0, 0, 0, [])), (104, (.aload_n 0, 105, false, false, 0, 0, 0, 0, 0, 0, [])), (105, (.getfield 40, 108, false, false, 6, 5, 0, 0, 0, 0, [])), (108, (.ireturn, 109, false, false, 0, 0, 0, 0, 0, 0, [])), (109, (.aload_n 0, 110, false, false, 0, 0, 0, 0, 0, 0, [])), (110, (.getfield 43, 113, false, false, 6, 6, 0, 0, 0, 0, [])), (113, (.ireturn, 114, false, false, 0, 0, 0, 0, 0, 0, [])), (114, (.aload_n 0, 115, false, false, 0, 0, 0, 0, 0, 0, [])), (115, (.getfield 31, 118, false, false, 6, 2, 0, 0, 0, 0, [])), (118, (.ireturn, 119, false, false, 0, 0, 0, 0, 0, 0, [])), (119, (.aload_n 0, 120, false, false, 0, 0, 0, 0, 0, 0, []))]),
  (130, [(120, (.getfield 34, 123, false, false, 6, 3, 0, 0, 0, 0, [])), (123, (.ireturn, 124, false, false, 0, 0, 0, 0, 0, 0, [])), (124, (.aload_n 0, 125, false, false, 0, 0, 0, 0, 0, 0, [])), (125, (.getfield 37, 128, false, false, 6, 4, 0, 0, 0, 0, [])), (128, (.ireturn, 129, false, false, 0, 0, 0, 0, 0, 0, [])), (129, (.iconst (-1), 130, false, false, 0, 0, 0, 0, -1, 0, [])), (130, (.ireturn, 131, false, false, 0, 0, 0, 0, 0, 0, []))])], 0, [])
set_option maxRecDepth 100000 in
theorem v_X3_told : VE MYT dflT E_X3_told := ⟨⟨⟨⟨⟨dX3_told_0, rfl⟩, rfl⟩, ⟨⟨_, dX3_told_1⟩, ⟨rfl, rfl, rfl, rfl, rfl, rfl, rfl, rfl, rfl, rfl, rfl, rfl, rfl, rfl, rfl, rfl, rfl, rfl, rfl, rfl, rfl, rfl, rfl, rfl, rfl, rfl, rfl, rfl, rfl, rfl, rfl, rfl, rfl, rfl, rfl, rfl, trivial⟩⟩, ⟨⟨dX3_told_84, rfl⟩, rfl⟩, ⟨⟨dX3_told_85, rfl⟩, Or.inl ⟨by decide, _, _, fX3_24⟩⟩, ⟨⟨dX3_told_88, rfl⟩, Or.inl ⟨rfl, rfl⟩⟩, ⟨⟨dX3_told_89, rfl⟩, rfl⟩, ⟨⟨dX3_told_90, rfl⟩, Or.inl ⟨by decide, _, _, fX3_28⟩⟩, ⟨⟨dX3_told_93, rfl⟩, Or.inl ⟨rfl, rfl⟩⟩, ⟨⟨dX3_told_94, rfl⟩, rfl⟩, ⟨⟨dX3_told_95, rfl⟩, Or.inl ⟨by decide, _, _, fX3_52⟩⟩, ⟨⟨dX3_told_98, rfl⟩, Or.inl ⟨rfl, rfl⟩⟩, ⟨⟨dX3_told_99, rfl⟩, rfl⟩, ⟨⟨dX3_told_100, rfl⟩, Or.inr ⟨by decide, ⟨_, my_301, sX3_79⟩, fun q => absurd q (by decide)⟩⟩, ⟨⟨dX3_told_103, rfl⟩, Or.inl ⟨rfl, rfl⟩⟩, ⟨⟨dX3_told_104, rfl⟩, rfl⟩, ⟨⟨dX3_told_105, rfl⟩, Or.inl ⟨by decide, _, _, fX3_40⟩⟩, ⟨⟨dX3_told_108, rfl⟩, Or.inl ⟨rfl, rfl⟩⟩, ⟨⟨dX3_told_109, rfl⟩, rfl⟩, ⟨⟨dX3_told_110, rfl⟩, Or.inl ⟨by decide, _, _, fX3_43⟩⟩, ⟨⟨dX3_told_113, rfl⟩, Or.inl ⟨rfl, rfl⟩⟩, ⟨⟨dX3_told_114, rfl⟩, rfl⟩, ⟨⟨dX3_told_115, rfl⟩, Or.inl ⟨by decide, _, _, fX3_31⟩⟩, ⟨⟨dX3_told_118, rfl⟩, Or.inl ⟨rfl, rfl⟩⟩, ⟨⟨dX3_told_119, rfl⟩, rfl⟩, trivial⟩,
  ⟨⟨⟨dX3_told_120, rfl⟩, Or.inl ⟨by decide, _, _, fX3_34⟩⟩, ⟨⟨dX3_told_123, rfl⟩, Or.inl ⟨rfl, rfl⟩⟩, ⟨⟨dX3_told_124, rfl⟩, rfl⟩, ⟨⟨dX3_told_125, rfl⟩, Or.inl ⟨by decide, _, _, fX3_37⟩⟩, ⟨⟨dX3_told_128, rfl⟩, Or.inl ⟨rfl, rfl⟩⟩, ⟨⟨dX3_told_129, rfl⟩, rfl⟩, ⟨⟨dX3_told_130, rfl⟩, Or.inl ⟨rfl, rfl⟩⟩, trivial⟩, trivial⟩, by decide, Or.inl ⟨rfl, by decide, rfl⟩⟩
set_option maxRecDepth 100000 in
theorem g_X3_told_0 (S : sT) (call : cT) (n : Nat) (a0 : Nat) (x1 : Int32) (h : pH) : bd S call dflT E_X3_told (n + 1) 0 [some (.ref a0), some (.int x1)] [] h = ((if x1 = 2 then bd S call dflT E_X3_told n 84 [some (.ref a0), some (.int x1)] [] h else (if x1 = 3 then bd S call dflT E_X3_told n 89 [some (.ref a0), some (.int x1)] [] h else (if x1 = 4 then bd S call dflT E_X3_told n 129 [some (.ref a0), some (.int x1)] [] h else (if x1 = 5 then bd S call dflT E_X3_told n 129 [some (.ref a0), some (.int x1)] [] h else (if x1 = 6 then bd S call dflT E_X3_told n 129 [some (.ref a0), some (.int x1)] [] h else (if x1 = 7 then bd S call dflT E_X3_told n 129 [some (.ref a0), some (.int x1)] [] h else (if x1 = 8 then bd S call dflT E_X3_told n 129 [some (.ref a0), some (.int x1)] [] h else (if x1 = 9 then bd S call dflT E_X3_told n 129 [some (.ref a0), some (.int x1)] [] h else (if x1 = 10 then bd S call dflT E_X3_told n 94 [some (.ref a0), some (.int x1)] [] h else (if x1 = 11 then bd S call dflT E_X3_told n 99 [some (.ref a0), some (.int x1)] [] h else (if x1 = 12 then bd S call dflT E_X3_told n 104 [some (.ref a0), some (.int x1)] [] h else (if x1 = 13 then bd S call dflT E_X3_told n 109 [some (.ref a0), some (.int x1)] [] h else (if x1 = 14 then bd S call dflT E_X3_told n 129 [some (.ref a0), some (.int x1)] [] h else (if x1 = 15 then bd S call dflT E_X3_told n 114 [some (.ref a0), some (.int x1)] [] h else (if x1 = 16 then bd S call dflT E_X3_told n 119 [some (.ref a0), some (.int x1)] [] h else (if x1 = 17 then bd S call dflT E_X3_told n 129 [some (.ref a0), some (.int x1)] [] h else (if x1 = 18 then bd S call dflT E_X3_told n 124 [some (.ref a0), some (.int x1)] [] h else bd S call dflT E_X3_told n 129 [some (.ref a0), some (.int x1)] [] h)))))))))))))))))) := rfl
set_option maxRecDepth 100000 in
theorem g_X3_told_84 (S : sT) (call : cT) (n : Nat) (a0 : Nat) (x1 : Int32) (h : pH) : bd S call dflT E_X3_told (n + 1) 84 [some (.ref a0), some (.int x1)] [] h = (gI h (.ref a0) 6 0 (fun y1 => some (.inl (some (.int y1)), h))) := rfl
set_option maxRecDepth 100000 in
theorem g_X3_told_89 (S : sT) (call : cT) (n : Nat) (a0 : Nat) (x1 : Int32) (h : pH) : bd S call dflT E_X3_told (n + 1) 89 [some (.ref a0), some (.int x1)] [] h = (gI h (.ref a0) 6 1 (fun y1 => some (.inl (some (.int y1)), h))) := rfl
set_option maxRecDepth 100000 in
theorem g_X3_told_94 (S : sT) (call : cT) (n : Nat) (a0 : Nat) (x1 : Int32) (h : pH) : bd S call dflT E_X3_told (n + 1) 94 [some (.ref a0), some (.int x1)] [] h = (gI h (.ref a0) 6 8 (fun y1 => some (.inl (some (.int y1)), h))) := rfl
set_option maxRecDepth 100000 in
theorem g_X3_told_99 (S : sT) (call : cT) (n : Nat) (a0 : Nat) (x1 : Int32) (h : pH) : bd S call dflT E_X3_told (n + 1) 99 [some (.ref a0), some (.int x1)] [] h = (rC h (.ref a0) 6 (cI (call 301 [.ref a0] h) (fun y2 h1 => some (.inl (some (.int y2)), h1)))) := rfl
set_option maxRecDepth 100000 in
theorem g_X3_told_104 (S : sT) (call : cT) (n : Nat) (a0 : Nat) (x1 : Int32) (h : pH) : bd S call dflT E_X3_told (n + 1) 104 [some (.ref a0), some (.int x1)] [] h = (gI h (.ref a0) 6 5 (fun y1 => some (.inl (some (.int y1)), h))) := rfl
set_option maxRecDepth 100000 in
theorem g_X3_told_109 (S : sT) (call : cT) (n : Nat) (a0 : Nat) (x1 : Int32) (h : pH) : bd S call dflT E_X3_told (n + 1) 109 [some (.ref a0), some (.int x1)] [] h = (gI h (.ref a0) 6 6 (fun y1 => some (.inl (some (.int y1)), h))) := rfl
set_option maxRecDepth 100000 in
theorem g_X3_told_114 (S : sT) (call : cT) (n : Nat) (a0 : Nat) (x1 : Int32) (h : pH) : bd S call dflT E_X3_told (n + 1) 114 [some (.ref a0), some (.int x1)] [] h = (gI h (.ref a0) 6 2 (fun y1 => some (.inl (some (.int y1)), h))) := rfl
set_option maxRecDepth 100000 in
theorem g_X3_told_119 (S : sT) (call : cT) (n : Nat) (a0 : Nat) (x1 : Int32) (h : pH) : bd S call dflT E_X3_told (n + 1) 119 [some (.ref a0), some (.int x1)] [] h = (gI h (.ref a0) 6 3 (fun y1 => some (.inl (some (.int y1)), h))) := rfl
set_option maxRecDepth 100000 in
theorem g_X3_told_124 (S : sT) (call : cT) (n : Nat) (a0 : Nat) (x1 : Int32) (h : pH) : bd S call dflT E_X3_told (n + 1) 124 [some (.ref a0), some (.int x1)] [] h = (gI h (.ref a0) 6 4 (fun y1 => some (.inl (some (.int y1)), h))) := rfl
set_option maxRecDepth 100000 in
theorem g_X3_told_129 (S : sT) (call : cT) (n : Nat) (a0 : Nat) (x1 : Int32) (h : pH) : bd S call dflT E_X3_told (n + 1) 129 [some (.ref a0), some (.int x1)] [] h = (some (.inl (some (.int (-1))), h)) := rfl
