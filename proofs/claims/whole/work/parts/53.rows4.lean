-- GroupLedgerModel.<init>()V
theorem d60_0 : decode (sm_code 60) 0 = .ok (.aload_n 0, 1) := by decide +kernel
theorem r60_0 {X : sm_X} {w : sm_W} {Q : Option Value → sm_W → Prop} {x0 : Nat} : sm_R X 60 0 [.ref x0] [] w Q ↔ sm_R X 60 1 [.ref x0] [.ref x0] w Q := sm_R_go d60_0 rfl
theorem d60_1 : decode (sm_code 60) 1 = .ok (.invokespecial 1, 3) := by decide +kernel
theorem r60_1 {X : sm_X} {w : sm_W} {Q : Option Value → sm_W → Prop} {x0 : Nat} {s0 : Nat} (h : ¬ s0 < 100) : sm_R X 60 1 [.ref x0] [.ref s0] w Q ↔ sm_R X 60 4 [.ref x0] [] w Q := sm_q_obj d60_1 rfl (by decide) (by decide) h
theorem d60_4 : decode (sm_code 60) 4 = .ok (.aload_n 0, 1) := by decide +kernel
theorem r60_4 {X : sm_X} {w : sm_W} {Q : Option Value → sm_W → Prop} {x0 : Nat} : sm_R X 60 4 [.ref x0] [] w Q ↔ sm_R X 60 5 [.ref x0] [.ref x0] w Q := sm_R_go d60_4 rfl
theorem d60_5 : decode (sm_code 60) 5 = .ok (.bipush 94, 2) := by decide +kernel
theorem r60_5 {X : sm_X} {w : sm_W} {Q : Option Value → sm_W → Prop} {x0 : Nat} {s0 : Nat} : sm_R X 60 5 [.ref x0] [.ref s0] w Q ↔ sm_R X 60 7 [.ref x0] [.int 94, .ref s0] w Q := sm_R_go d60_5 rfl
theorem d60_7 : decode (sm_code 60) 7 = .ok (.newarray .long, 2) := by decide +kernel
theorem r60_7 {X : sm_X} {w : sm_W} {Q : Option Value → sm_W → Prop} {x0 : Nat} {s0 : Int32} {s1 : Nat} (h : ¬ (s0 < 0 ∨ 65536 < s0.toNatClampNeg)) : sm_R X 60 7 [.ref x0] [.int s0, .ref s1] w Q ↔ sm_R X 60 9 [.ref x0] [.ref (100 + w.length), .ref s1] (w ++ [.inl (1, s0.toNatClampNeg, .inr (.inl (fun _ => 0)))]) Q := sm_R_go d60_7 (if_neg h)
theorem d60_9 : decode (sm_code 60) 9 = .ok (.putfield 7, 3) := by decide +kernel
theorem r60_9 {X : sm_X} {w : sm_W} {Q : Option Value → sm_W → Prop} {x0 : Nat} {s0 : Nat} {s1 : Nat} : sm_R X 60 9 [.ref x0] [.ref s0, .ref s1] w Q ↔ sm_wp (sm_pfl 7 0 (.ref s0) (sm_at w s1)) (fun c => sm_R X 60 12 [.ref x0] [] (w.set (s1 - 100) c) Q) := sm_q_putf d60_9 rfl rfl rfl (by decide)
theorem d60_12 : decode (sm_code 60) 12 = .ok (.aload_n 0, 1) := by decide +kernel
theorem r60_12 {X : sm_X} {w : sm_W} {Q : Option Value → sm_W → Prop} {x0 : Nat} : sm_R X 60 12 [.ref x0] [] w Q ↔ sm_R X 60 13 [.ref x0] [.ref x0] w Q := sm_R_go d60_12 rfl
theorem d60_13 : decode (sm_code 60) 13 = .ok (.bipush 94, 2) := by decide +kernel
theorem r60_13 {X : sm_X} {w : sm_W} {Q : Option Value → sm_W → Prop} {x0 : Nat} {s0 : Nat} : sm_R X 60 13 [.ref x0] [.ref s0] w Q ↔ sm_R X 60 15 [.ref x0] [.int 94, .ref s0] w Q := sm_R_go d60_13 rfl
theorem d60_15 : decode (sm_code 60) 15 = .ok (.newarray .long, 2) := by decide +kernel
theorem r60_15 {X : sm_X} {w : sm_W} {Q : Option Value → sm_W → Prop} {x0 : Nat} {s0 : Int32} {s1 : Nat} (h : ¬ (s0 < 0 ∨ 65536 < s0.toNatClampNeg)) : sm_R X 60 15 [.ref x0] [.int s0, .ref s1] w Q ↔ sm_R X 60 17 [.ref x0] [.ref (100 + w.length), .ref s1] (w ++ [.inl (1, s0.toNatClampNeg, .inr (.inl (fun _ => 0)))]) Q := sm_R_go d60_15 (if_neg h)
theorem d60_17 : decode (sm_code 60) 17 = .ok (.putfield 13, 3) := by decide +kernel
theorem r60_17 {X : sm_X} {w : sm_W} {Q : Option Value → sm_W → Prop} {x0 : Nat} {s0 : Nat} {s1 : Nat} : sm_R X 60 17 [.ref x0] [.ref s0, .ref s1] w Q ↔ sm_wp (sm_pfl 7 1 (.ref s0) (sm_at w s1)) (fun c => sm_R X 60 20 [.ref x0] [] (w.set (s1 - 100) c) Q) := sm_q_putf d60_17 rfl rfl rfl (by decide)
theorem d60_20 : decode (sm_code 60) 20 = .ok (.aload_n 0, 1) := by decide +kernel
theorem r60_20 {X : sm_X} {w : sm_W} {Q : Option Value → sm_W → Prop} {x0 : Nat} : sm_R X 60 20 [.ref x0] [] w Q ↔ sm_R X 60 21 [.ref x0] [.ref x0] w Q := sm_R_go d60_20 rfl
theorem d60_21 : decode (sm_code 60) 21 = .ok (.sipush 160, 3) := by decide +kernel
theorem r60_21 {X : sm_X} {w : sm_W} {Q : Option Value → sm_W → Prop} {x0 : Nat} {s0 : Nat} : sm_R X 60 21 [.ref x0] [.ref s0] w Q ↔ sm_R X 60 24 [.ref x0] [.int 160, .ref s0] w Q := sm_R_go d60_21 rfl
theorem d60_24 : decode (sm_code 60) 24 = .ok (.newarray .int, 2) := by decide +kernel
theorem r60_24 {X : sm_X} {w : sm_W} {Q : Option Value → sm_W → Prop} {x0 : Nat} {s0 : Int32} {s1 : Nat} (h : ¬ (s0 < 0 ∨ 65536 < s0.toNatClampNeg)) : sm_R X 60 24 [.ref x0] [.int s0, .ref s1] w Q ↔ sm_R X 60 26 [.ref x0] [.ref (100 + w.length), .ref s1] (w ++ [.inl (0, s0.toNatClampNeg, .inl (fun _ => 0))]) Q := sm_R_go d60_24 (if_neg h)
theorem d60_26 : decode (sm_code 60) 26 = .ok (.putfield 16, 3) := by decide +kernel
theorem r60_26 {X : sm_X} {w : sm_W} {Q : Option Value → sm_W → Prop} {x0 : Nat} {s0 : Nat} {s1 : Nat} : sm_R X 60 26 [.ref x0] [.ref s0, .ref s1] w Q ↔ sm_wp (sm_pfl 7 2 (.ref s0) (sm_at w s1)) (fun c => sm_R X 60 29 [.ref x0] [] (w.set (s1 - 100) c) Q) := sm_q_putf d60_26 rfl rfl rfl (by decide)
theorem d60_29 : decode (sm_code 60) 29 = .ok (.aload_n 0, 1) := by decide +kernel
theorem r60_29 {X : sm_X} {w : sm_W} {Q : Option Value → sm_W → Prop} {x0 : Nat} : sm_R X 60 29 [.ref x0] [] w Q ↔ sm_R X 60 30 [.ref x0] [.ref x0] w Q := sm_R_go d60_29 rfl
theorem d60_30 : decode (sm_code 60) 30 = .ok (.sipush 160, 3) := by decide +kernel
theorem r60_30 {X : sm_X} {w : sm_W} {Q : Option Value → sm_W → Prop} {x0 : Nat} {s0 : Nat} : sm_R X 60 30 [.ref x0] [.ref s0] w Q ↔ sm_R X 60 33 [.ref x0] [.int 160, .ref s0] w Q := sm_R_go d60_30 rfl
theorem d60_33 : decode (sm_code 60) 33 = .ok (.newarray .int, 2) := by decide +kernel
theorem r60_33 {X : sm_X} {w : sm_W} {Q : Option Value → sm_W → Prop} {x0 : Nat} {s0 : Int32} {s1 : Nat} (h : ¬ (s0 < 0 ∨ 65536 < s0.toNatClampNeg)) : sm_R X 60 33 [.ref x0] [.int s0, .ref s1] w Q ↔ sm_R X 60 35 [.ref x0] [.ref (100 + w.length), .ref s1] (w ++ [.inl (0, s0.toNatClampNeg, .inl (fun _ => 0))]) Q := sm_R_go d60_33 (if_neg h)
theorem d60_35 : decode (sm_code 60) 35 = .ok (.putfield 20, 3) := by decide +kernel
theorem r60_35 {X : sm_X} {w : sm_W} {Q : Option Value → sm_W → Prop} {x0 : Nat} {s0 : Nat} {s1 : Nat} : sm_R X 60 35 [.ref x0] [.ref s0, .ref s1] w Q ↔ sm_wp (sm_pfl 7 3 (.ref s0) (sm_at w s1)) (fun c => sm_R X 60 38 [.ref x0] [] (w.set (s1 - 100) c) Q) := sm_q_putf d60_35 rfl rfl rfl (by decide)
theorem d60_38 : decode (sm_code 60) 38 = .ok (.aload_n 0, 1) := by decide +kernel
theorem r60_38 {X : sm_X} {w : sm_W} {Q : Option Value → sm_W → Prop} {x0 : Nat} : sm_R X 60 38 [.ref x0] [] w Q ↔ sm_R X 60 39 [.ref x0] [.ref x0] w Q := sm_R_go d60_38 rfl
theorem d60_39 : decode (sm_code 60) 39 = .ok (.iconst 5, 1) := by decide +kernel
theorem r60_39 {X : sm_X} {w : sm_W} {Q : Option Value → sm_W → Prop} {x0 : Nat} {s0 : Nat} : sm_R X 60 39 [.ref x0] [.ref s0] w Q ↔ sm_R X 60 40 [.ref x0] [.int 5, .ref s0] w Q := sm_R_go d60_39 rfl
theorem d60_40 : decode (sm_code 60) 40 = .ok (.newarray .int, 2) := by decide +kernel
theorem r60_40 {X : sm_X} {w : sm_W} {Q : Option Value → sm_W → Prop} {x0 : Nat} {s0 : Int32} {s1 : Nat} (h : ¬ (s0 < 0 ∨ 65536 < s0.toNatClampNeg)) : sm_R X 60 40 [.ref x0] [.int s0, .ref s1] w Q ↔ sm_R X 60 42 [.ref x0] [.ref (100 + w.length), .ref s1] (w ++ [.inl (0, s0.toNatClampNeg, .inl (fun _ => 0))]) Q := sm_R_go d60_40 (if_neg h)
theorem d60_42 : decode (sm_code 60) 42 = .ok (.putfield 23, 3) := by decide +kernel
theorem r60_42 {X : sm_X} {w : sm_W} {Q : Option Value → sm_W → Prop} {x0 : Nat} {s0 : Nat} {s1 : Nat} : sm_R X 60 42 [.ref x0] [.ref s0, .ref s1] w Q ↔ sm_wp (sm_pfl 7 4 (.ref s0) (sm_at w s1)) (fun c => sm_R X 60 45 [.ref x0] [] (w.set (s1 - 100) c) Q) := sm_q_putf d60_42 rfl rfl rfl (by decide)
theorem d60_45 : decode (sm_code 60) 45 = .ok (.aload_n 0, 1) := by decide +kernel
theorem r60_45 {X : sm_X} {w : sm_W} {Q : Option Value → sm_W → Prop} {x0 : Nat} : sm_R X 60 45 [.ref x0] [] w Q ↔ sm_R X 60 46 [.ref x0] [.ref x0] w Q := sm_R_go d60_45 rfl
theorem d60_46 : decode (sm_code 60) 46 = .ok (.iconst 0, 1) := by decide +kernel
theorem r60_46 {X : sm_X} {w : sm_W} {Q : Option Value → sm_W → Prop} {x0 : Nat} {s0 : Nat} : sm_R X 60 46 [.ref x0] [.ref s0] w Q ↔ sm_R X 60 47 [.ref x0] [.int 0, .ref s0] w Q := sm_R_go d60_46 rfl
theorem d60_47 : decode (sm_code 60) 47 = .ok (.putfield 26, 3) := by decide +kernel
theorem r60_47 {X : sm_X} {w : sm_W} {Q : Option Value → sm_W → Prop} {x0 : Nat} {s0 : Int32} {s1 : Nat} : sm_R X 60 47 [.ref x0] [.int s0, .ref s1] w Q ↔ sm_wp (sm_pfl 7 5 (.int s0) (sm_at w s1)) (fun c => sm_R X 60 50 [.ref x0] [] (w.set (s1 - 100) c) Q) := sm_q_putf d60_47 rfl rfl rfl (by decide)
theorem d60_50 : decode (sm_code 60) 50 = .ok (.aload_n 0, 1) := by decide +kernel
theorem r60_50 {X : sm_X} {w : sm_W} {Q : Option Value → sm_W → Prop} {x0 : Nat} : sm_R X 60 50 [.ref x0] [] w Q ↔ sm_R X 60 51 [.ref x0] [.ref x0] w Q := sm_R_go d60_50 rfl
theorem d60_51 : decode (sm_code 60) 51 = .ok (.iconst 4, 1) := by decide +kernel
theorem r60_51 {X : sm_X} {w : sm_W} {Q : Option Value → sm_W → Prop} {x0 : Nat} {s0 : Nat} : sm_R X 60 51 [.ref x0] [.ref s0] w Q ↔ sm_R X 60 52 [.ref x0] [.int 4, .ref s0] w Q := sm_R_go d60_51 rfl
theorem d60_52 : decode (sm_code 60) 52 = .ok (.newarray .int, 2) := by decide +kernel
theorem r60_52 {X : sm_X} {w : sm_W} {Q : Option Value → sm_W → Prop} {x0 : Nat} {s0 : Int32} {s1 : Nat} (h : ¬ (s0 < 0 ∨ 65536 < s0.toNatClampNeg)) : sm_R X 60 52 [.ref x0] [.int s0, .ref s1] w Q ↔ sm_R X 60 54 [.ref x0] [.ref (100 + w.length), .ref s1] (w ++ [.inl (0, s0.toNatClampNeg, .inl (fun _ => 0))]) Q := sm_R_go d60_52 (if_neg h)
theorem d60_54 : decode (sm_code 60) 54 = .ok (.putfield 30, 3) := by decide +kernel
theorem r60_54 {X : sm_X} {w : sm_W} {Q : Option Value → sm_W → Prop} {x0 : Nat} {s0 : Nat} {s1 : Nat} : sm_R X 60 54 [.ref x0] [.ref s0, .ref s1] w Q ↔ sm_wp (sm_pfl 7 6 (.ref s0) (sm_at w s1)) (fun c => sm_R X 60 57 [.ref x0] [] (w.set (s1 - 100) c) Q) := sm_q_putf d60_54 rfl rfl rfl (by decide)
theorem d60_57 : decode (sm_code 60) 57 = .ok (.aload_n 0, 1) := by decide +kernel
theorem r60_57 {X : sm_X} {w : sm_W} {Q : Option Value → sm_W → Prop} {x0 : Nat} : sm_R X 60 57 [.ref x0] [] w Q ↔ sm_R X 60 58 [.ref x0] [.ref x0] w Q := sm_R_go d60_57 rfl
theorem d60_58 : decode (sm_code 60) 58 = .ok (.iconst 4, 1) := by decide +kernel
theorem r60_58 {X : sm_X} {w : sm_W} {Q : Option Value → sm_W → Prop} {x0 : Nat} {s0 : Nat} : sm_R X 60 58 [.ref x0] [.ref s0] w Q ↔ sm_R X 60 59 [.ref x0] [.int 4, .ref s0] w Q := sm_R_go d60_58 rfl
theorem d60_59 : decode (sm_code 60) 59 = .ok (.newarray .int, 2) := by decide +kernel
theorem r60_59 {X : sm_X} {w : sm_W} {Q : Option Value → sm_W → Prop} {x0 : Nat} {s0 : Int32} {s1 : Nat} (h : ¬ (s0 < 0 ∨ 65536 < s0.toNatClampNeg)) : sm_R X 60 59 [.ref x0] [.int s0, .ref s1] w Q ↔ sm_R X 60 61 [.ref x0] [.ref (100 + w.length), .ref s1] (w ++ [.inl (0, s0.toNatClampNeg, .inl (fun _ => 0))]) Q := sm_R_go d60_59 (if_neg h)
theorem d60_61 : decode (sm_code 60) 61 = .ok (.putfield 33, 3) := by decide +kernel
theorem r60_61 {X : sm_X} {w : sm_W} {Q : Option Value → sm_W → Prop} {x0 : Nat} {s0 : Nat} {s1 : Nat} : sm_R X 60 61 [.ref x0] [.ref s0, .ref s1] w Q ↔ sm_wp (sm_pfl 7 7 (.ref s0) (sm_at w s1)) (fun c => sm_R X 60 64 [.ref x0] [] (w.set (s1 - 100) c) Q) := sm_q_putf d60_61 rfl rfl rfl (by decide)
theorem d60_64 : decode (sm_code 60) 64 = .ok (.aload_n 0, 1) := by decide +kernel
theorem r60_64 {X : sm_X} {w : sm_W} {Q : Option Value → sm_W → Prop} {x0 : Nat} : sm_R X 60 64 [.ref x0] [] w Q ↔ sm_R X 60 65 [.ref x0] [.ref x0] w Q := sm_R_go d60_64 rfl
theorem d60_65 : decode (sm_code 60) 65 = .ok (.iconst 4, 1) := by decide +kernel
theorem r60_65 {X : sm_X} {w : sm_W} {Q : Option Value → sm_W → Prop} {x0 : Nat} {s0 : Nat} : sm_R X 60 65 [.ref x0] [.ref s0] w Q ↔ sm_R X 60 66 [.ref x0] [.int 4, .ref s0] w Q := sm_R_go d60_65 rfl
theorem d60_66 : decode (sm_code 60) 66 = .ok (.newarray .int, 2) := by decide +kernel
theorem r60_66 {X : sm_X} {w : sm_W} {Q : Option Value → sm_W → Prop} {x0 : Nat} {s0 : Int32} {s1 : Nat} (h : ¬ (s0 < 0 ∨ 65536 < s0.toNatClampNeg)) : sm_R X 60 66 [.ref x0] [.int s0, .ref s1] w Q ↔ sm_R X 60 68 [.ref x0] [.ref (100 + w.length), .ref s1] (w ++ [.inl (0, s0.toNatClampNeg, .inl (fun _ => 0))]) Q := sm_R_go d60_66 (if_neg h)
theorem d60_68 : decode (sm_code 60) 68 = .ok (.putfield 36, 3) := by decide +kernel
theorem r60_68 {X : sm_X} {w : sm_W} {Q : Option Value → sm_W → Prop} {x0 : Nat} {s0 : Nat} {s1 : Nat} : sm_R X 60 68 [.ref x0] [.ref s0, .ref s1] w Q ↔ sm_wp (sm_pfl 7 8 (.ref s0) (sm_at w s1)) (fun c => sm_R X 60 71 [.ref x0] [] (w.set (s1 - 100) c) Q) := sm_q_putf d60_68 rfl rfl rfl (by decide)
theorem d60_71 : decode (sm_code 60) 71 = .ok (.aload_n 0, 1) := by decide +kernel
theorem r60_71 {X : sm_X} {w : sm_W} {Q : Option Value → sm_W → Prop} {x0 : Nat} : sm_R X 60 71 [.ref x0] [] w Q ↔ sm_R X 60 72 [.ref x0] [.ref x0] w Q := sm_R_go d60_71 rfl
theorem d60_72 : decode (sm_code 60) 72 = .ok (.iconst 4, 1) := by decide +kernel
theorem r60_72 {X : sm_X} {w : sm_W} {Q : Option Value → sm_W → Prop} {x0 : Nat} {s0 : Nat} : sm_R X 60 72 [.ref x0] [.ref s0] w Q ↔ sm_R X 60 73 [.ref x0] [.int 4, .ref s0] w Q := sm_R_go d60_72 rfl
theorem d60_73 : decode (sm_code 60) 73 = .ok (.newarray .int, 2) := by decide +kernel
theorem r60_73 {X : sm_X} {w : sm_W} {Q : Option Value → sm_W → Prop} {x0 : Nat} {s0 : Int32} {s1 : Nat} (h : ¬ (s0 < 0 ∨ 65536 < s0.toNatClampNeg)) : sm_R X 60 73 [.ref x0] [.int s0, .ref s1] w Q ↔ sm_R X 60 75 [.ref x0] [.ref (100 + w.length), .ref s1] (w ++ [.inl (0, s0.toNatClampNeg, .inl (fun _ => 0))]) Q := sm_R_go d60_73 (if_neg h)
theorem d60_75 : decode (sm_code 60) 75 = .ok (.putfield 39, 3) := by decide +kernel
theorem r60_75 {X : sm_X} {w : sm_W} {Q : Option Value → sm_W → Prop} {x0 : Nat} {s0 : Nat} {s1 : Nat} : sm_R X 60 75 [.ref x0] [.ref s0, .ref s1] w Q ↔ sm_wp (sm_pfl 7 9 (.ref s0) (sm_at w s1)) (fun c => sm_R X 60 78 [.ref x0] [] (w.set (s1 - 100) c) Q) := sm_q_putf d60_75 rfl rfl rfl (by decide)
theorem d60_78 : decode (sm_code 60) 78 = .ok (.aload_n 0, 1) := by decide +kernel
theorem r60_78 {X : sm_X} {w : sm_W} {Q : Option Value → sm_W → Prop} {x0 : Nat} : sm_R X 60 78 [.ref x0] [] w Q ↔ sm_R X 60 79 [.ref x0] [.ref x0] w Q := sm_R_go d60_78 rfl
theorem d60_79 : decode (sm_code 60) 79 = .ok (.iconst 4, 1) := by decide +kernel
theorem r60_79 {X : sm_X} {w : sm_W} {Q : Option Value → sm_W → Prop} {x0 : Nat} {s0 : Nat} : sm_R X 60 79 [.ref x0] [.ref s0] w Q ↔ sm_R X 60 80 [.ref x0] [.int 4, .ref s0] w Q := sm_R_go d60_79 rfl
theorem d60_80 : decode (sm_code 60) 80 = .ok (.newarray .int, 2) := by decide +kernel
theorem r60_80 {X : sm_X} {w : sm_W} {Q : Option Value → sm_W → Prop} {x0 : Nat} {s0 : Int32} {s1 : Nat} (h : ¬ (s0 < 0 ∨ 65536 < s0.toNatClampNeg)) : sm_R X 60 80 [.ref x0] [.int s0, .ref s1] w Q ↔ sm_R X 60 82 [.ref x0] [.ref (100 + w.length), .ref s1] (w ++ [.inl (0, s0.toNatClampNeg, .inl (fun _ => 0))]) Q := sm_R_go d60_80 (if_neg h)
theorem d60_82 : decode (sm_code 60) 82 = .ok (.putfield 42, 3) := by decide +kernel
theorem r60_82 {X : sm_X} {w : sm_W} {Q : Option Value → sm_W → Prop} {x0 : Nat} {s0 : Nat} {s1 : Nat} : sm_R X 60 82 [.ref x0] [.ref s0, .ref s1] w Q ↔ sm_wp (sm_pfl 7 10 (.ref s0) (sm_at w s1)) (fun c => sm_R X 60 85 [.ref x0] [] (w.set (s1 - 100) c) Q) := sm_q_putf d60_82 rfl rfl rfl (by decide)
theorem d60_85 : decode (sm_code 60) 85 = .ok (.aload_n 0, 1) := by decide +kernel
theorem r60_85 {X : sm_X} {w : sm_W} {Q : Option Value → sm_W → Prop} {x0 : Nat} : sm_R X 60 85 [.ref x0] [] w Q ↔ sm_R X 60 86 [.ref x0] [.ref x0] w Q := sm_R_go d60_85 rfl
theorem d60_86 : decode (sm_code 60) 86 = .ok (.bipush 16, 2) := by decide +kernel
theorem r60_86 {X : sm_X} {w : sm_W} {Q : Option Value → sm_W → Prop} {x0 : Nat} {s0 : Nat} : sm_R X 60 86 [.ref x0] [.ref s0] w Q ↔ sm_R X 60 88 [.ref x0] [.int 16, .ref s0] w Q := sm_R_go d60_86 rfl
theorem d60_88 : decode (sm_code 60) 88 = .ok (.newarray .long, 2) := by decide +kernel
theorem r60_88 {X : sm_X} {w : sm_W} {Q : Option Value → sm_W → Prop} {x0 : Nat} {s0 : Int32} {s1 : Nat} (h : ¬ (s0 < 0 ∨ 65536 < s0.toNatClampNeg)) : sm_R X 60 88 [.ref x0] [.int s0, .ref s1] w Q ↔ sm_R X 60 90 [.ref x0] [.ref (100 + w.length), .ref s1] (w ++ [.inl (1, s0.toNatClampNeg, .inr (.inl (fun _ => 0)))]) Q := sm_R_go d60_88 (if_neg h)
theorem d60_90 : decode (sm_code 60) 90 = .ok (.putfield 45, 3) := by decide +kernel
theorem r60_90 {X : sm_X} {w : sm_W} {Q : Option Value → sm_W → Prop} {x0 : Nat} {s0 : Nat} {s1 : Nat} : sm_R X 60 90 [.ref x0] [.ref s0, .ref s1] w Q ↔ sm_wp (sm_pfl 7 11 (.ref s0) (sm_at w s1)) (fun c => sm_R X 60 93 [.ref x0] [] (w.set (s1 - 100) c) Q) := sm_q_putf d60_90 rfl rfl rfl (by decide)
theorem d60_93 : decode (sm_code 60) 93 = .ok (.aload_n 0, 1) := by decide +kernel
theorem r60_93 {X : sm_X} {w : sm_W} {Q : Option Value → sm_W → Prop} {x0 : Nat} : sm_R X 60 93 [.ref x0] [] w Q ↔ sm_R X 60 94 [.ref x0] [.ref x0] w Q := sm_R_go d60_93 rfl
theorem d60_94 : decode (sm_code 60) 94 = .ok (.bipush (-3), 2) := by decide +kernel
theorem r60_94 {X : sm_X} {w : sm_W} {Q : Option Value → sm_W → Prop} {x0 : Nat} {s0 : Nat} : sm_R X 60 94 [.ref x0] [.ref s0] w Q ↔ sm_R X 60 96 [.ref x0] [.int (-3), .ref s0] w Q := sm_R_go d60_94 rfl
theorem d60_96 : decode (sm_code 60) 96 = .ok (.putfield 48, 3) := by decide +kernel
theorem r60_96 {X : sm_X} {w : sm_W} {Q : Option Value → sm_W → Prop} {x0 : Nat} {s0 : Int32} {s1 : Nat} : sm_R X 60 96 [.ref x0] [.int s0, .ref s1] w Q ↔ sm_wp (sm_pfl 7 12 (.int s0) (sm_at w s1)) (fun c => sm_R X 60 99 [.ref x0] [] (w.set (s1 - 100) c) Q) := sm_q_putf d60_96 rfl rfl rfl (by decide)
theorem d60_99 : decode (sm_code 60) 99 = .ok (.aload_n 0, 1) := by decide +kernel
theorem r60_99 {X : sm_X} {w : sm_W} {Q : Option Value → sm_W → Prop} {x0 : Nat} : sm_R X 60 99 [.ref x0] [] w Q ↔ sm_R X 60 100 [.ref x0] [.ref x0] w Q := sm_R_go d60_99 rfl
theorem d60_100 : decode (sm_code 60) 100 = .ok (.bipush (-3), 2) := by decide +kernel
theorem r60_100 {X : sm_X} {w : sm_W} {Q : Option Value → sm_W → Prop} {x0 : Nat} {s0 : Nat} : sm_R X 60 100 [.ref x0] [.ref s0] w Q ↔ sm_R X 60 102 [.ref x0] [.int (-3), .ref s0] w Q := sm_R_go d60_100 rfl
theorem d60_102 : decode (sm_code 60) 102 = .ok (.putfield 51, 3) := by decide +kernel
theorem r60_102 {X : sm_X} {w : sm_W} {Q : Option Value → sm_W → Prop} {x0 : Nat} {s0 : Int32} {s1 : Nat} : sm_R X 60 102 [.ref x0] [.int s0, .ref s1] w Q ↔ sm_wp (sm_pfl 7 13 (.int s0) (sm_at w s1)) (fun c => sm_R X 60 105 [.ref x0] [] (w.set (s1 - 100) c) Q) := sm_q_putf d60_102 rfl rfl rfl (by decide)
theorem d60_105 : decode (sm_code 60) 105 = .ok (.aload_n 0, 1) := by decide +kernel
theorem r60_105 {X : sm_X} {w : sm_W} {Q : Option Value → sm_W → Prop} {x0 : Nat} : sm_R X 60 105 [.ref x0] [] w Q ↔ sm_R X 60 106 [.ref x0] [.ref x0] w Q := sm_R_go d60_105 rfl
theorem d60_106 : decode (sm_code 60) 106 = .ok (.bipush (-3), 2) := by decide +kernel
theorem r60_106 {X : sm_X} {w : sm_W} {Q : Option Value → sm_W → Prop} {x0 : Nat} {s0 : Nat} : sm_R X 60 106 [.ref x0] [.ref s0] w Q ↔ sm_R X 60 108 [.ref x0] [.int (-3), .ref s0] w Q := sm_R_go d60_106 rfl
theorem d60_108 : decode (sm_code 60) 108 = .ok (.putfield 54, 3) := by decide +kernel
theorem r60_108 {X : sm_X} {w : sm_W} {Q : Option Value → sm_W → Prop} {x0 : Nat} {s0 : Int32} {s1 : Nat} : sm_R X 60 108 [.ref x0] [.int s0, .ref s1] w Q ↔ sm_wp (sm_pfl 7 14 (.int s0) (sm_at w s1)) (fun c => sm_R X 60 111 [.ref x0] [] (w.set (s1 - 100) c) Q) := sm_q_putf d60_108 rfl rfl rfl (by decide)
theorem d60_111 : decode (sm_code 60) 111 = .ok (.aload_n 0, 1) := by decide +kernel
theorem r60_111 {X : sm_X} {w : sm_W} {Q : Option Value → sm_W → Prop} {x0 : Nat} : sm_R X 60 111 [.ref x0] [] w Q ↔ sm_R X 60 112 [.ref x0] [.ref x0] w Q := sm_R_go d60_111 rfl
theorem d60_112 : decode (sm_code 60) 112 = .ok (.bipush (-3), 2) := by decide +kernel
theorem r60_112 {X : sm_X} {w : sm_W} {Q : Option Value → sm_W → Prop} {x0 : Nat} {s0 : Nat} : sm_R X 60 112 [.ref x0] [.ref s0] w Q ↔ sm_R X 60 114 [.ref x0] [.int (-3), .ref s0] w Q := sm_R_go d60_112 rfl
theorem d60_114 : decode (sm_code 60) 114 = .ok (.putfield 57, 3) := by decide +kernel
theorem r60_114 {X : sm_X} {w : sm_W} {Q : Option Value → sm_W → Prop} {x0 : Nat} {s0 : Int32} {s1 : Nat} : sm_R X 60 114 [.ref x0] [.int s0, .ref s1] w Q ↔ sm_wp (sm_pfl 7 15 (.int s0) (sm_at w s1)) (fun c => sm_R X 60 117 [.ref x0] [] (w.set (s1 - 100) c) Q) := sm_q_putf d60_114 rfl rfl rfl (by decide)
theorem d60_117 : decode (sm_code 60) 117 = .ok (.aload_n 0, 1) := by decide +kernel
theorem r60_117 {X : sm_X} {w : sm_W} {Q : Option Value → sm_W → Prop} {x0 : Nat} : sm_R X 60 117 [.ref x0] [] w Q ↔ sm_R X 60 118 [.ref x0] [.ref x0] w Q := sm_R_go d60_117 rfl
theorem d60_118 : decode (sm_code 60) 118 = .ok (.iconst 0, 1) := by decide +kernel
theorem r60_118 {X : sm_X} {w : sm_W} {Q : Option Value → sm_W → Prop} {x0 : Nat} {s0 : Nat} : sm_R X 60 118 [.ref x0] [.ref s0] w Q ↔ sm_R X 60 119 [.ref x0] [.int 0, .ref s0] w Q := sm_R_go d60_118 rfl
theorem d60_119 : decode (sm_code 60) 119 = .ok (.putfield 60, 3) := by decide +kernel
theorem r60_119 {X : sm_X} {w : sm_W} {Q : Option Value → sm_W → Prop} {x0 : Nat} {s0 : Int32} {s1 : Nat} : sm_R X 60 119 [.ref x0] [.int s0, .ref s1] w Q ↔ sm_wp (sm_pfl 7 16 (.int s0) (sm_at w s1)) (fun c => sm_R X 60 122 [.ref x0] [] (w.set (s1 - 100) c) Q) := sm_q_putf d60_119 rfl rfl rfl (by decide)
theorem d60_122 : decode (sm_code 60) 122 = .ok (.aload_n 0, 1) := by decide +kernel
theorem r60_122 {X : sm_X} {w : sm_W} {Q : Option Value → sm_W → Prop} {x0 : Nat} : sm_R X 60 122 [.ref x0] [] w Q ↔ sm_R X 60 123 [.ref x0] [.ref x0] w Q := sm_R_go d60_122 rfl
theorem d60_123 : decode (sm_code 60) 123 = .ok (.iconst 0, 1) := by decide +kernel
theorem r60_123 {X : sm_X} {w : sm_W} {Q : Option Value → sm_W → Prop} {x0 : Nat} {s0 : Nat} : sm_R X 60 123 [.ref x0] [.ref s0] w Q ↔ sm_R X 60 124 [.ref x0] [.int 0, .ref s0] w Q := sm_R_go d60_123 rfl
theorem d60_124 : decode (sm_code 60) 124 = .ok (.putfield 63, 3) := by decide +kernel
theorem r60_124 {X : sm_X} {w : sm_W} {Q : Option Value → sm_W → Prop} {x0 : Nat} {s0 : Int32} {s1 : Nat} : sm_R X 60 124 [.ref x0] [.int s0, .ref s1] w Q ↔ sm_wp (sm_pfl 7 17 (.int s0) (sm_at w s1)) (fun c => sm_R X 60 127 [.ref x0] [] (w.set (s1 - 100) c) Q) := sm_q_putf d60_124 rfl rfl rfl (by decide)
theorem d60_127 : decode (sm_code 60) 127 = .ok (.aload_n 0, 1) := by decide +kernel
theorem r60_127 {X : sm_X} {w : sm_W} {Q : Option Value → sm_W → Prop} {x0 : Nat} : sm_R X 60 127 [.ref x0] [] w Q ↔ sm_R X 60 128 [.ref x0] [.ref x0] w Q := sm_R_go d60_127 rfl
theorem d60_128 : decode (sm_code 60) 128 = .ok (.iconst 0, 1) := by decide +kernel
theorem r60_128 {X : sm_X} {w : sm_W} {Q : Option Value → sm_W → Prop} {x0 : Nat} {s0 : Nat} : sm_R X 60 128 [.ref x0] [.ref s0] w Q ↔ sm_R X 60 129 [.ref x0] [.int 0, .ref s0] w Q := sm_R_go d60_128 rfl
theorem d60_129 : decode (sm_code 60) 129 = .ok (.putfield 66, 3) := by decide +kernel
theorem r60_129 {X : sm_X} {w : sm_W} {Q : Option Value → sm_W → Prop} {x0 : Nat} {s0 : Int32} {s1 : Nat} : sm_R X 60 129 [.ref x0] [.int s0, .ref s1] w Q ↔ sm_wp (sm_pfl 7 18 (.int s0) (sm_at w s1)) (fun c => sm_R X 60 132 [.ref x0] [] (w.set (s1 - 100) c) Q) := sm_q_putf d60_129 rfl rfl rfl (by decide)
theorem d60_132 : decode (sm_code 60) 132 = .ok (.aload_n 0, 1) := by decide +kernel
theorem r60_132 {X : sm_X} {w : sm_W} {Q : Option Value → sm_W → Prop} {x0 : Nat} : sm_R X 60 132 [.ref x0] [] w Q ↔ sm_R X 60 133 [.ref x0] [.ref x0] w Q := sm_R_go d60_132 rfl
theorem d60_133 : decode (sm_code 60) 133 = .ok (.iconst 0, 1) := by decide +kernel
theorem r60_133 {X : sm_X} {w : sm_W} {Q : Option Value → sm_W → Prop} {x0 : Nat} {s0 : Nat} : sm_R X 60 133 [.ref x0] [.ref s0] w Q ↔ sm_R X 60 134 [.ref x0] [.int 0, .ref s0] w Q := sm_R_go d60_133 rfl
theorem d60_134 : decode (sm_code 60) 134 = .ok (.putfield 69, 3) := by decide +kernel
theorem r60_134 {X : sm_X} {w : sm_W} {Q : Option Value → sm_W → Prop} {x0 : Nat} {s0 : Int32} {s1 : Nat} : sm_R X 60 134 [.ref x0] [.int s0, .ref s1] w Q ↔ sm_wp (sm_pfl 7 19 (.int s0) (sm_at w s1)) (fun c => sm_R X 60 137 [.ref x0] [] (w.set (s1 - 100) c) Q) := sm_q_putf d60_134 rfl rfl rfl (by decide)
theorem d60_137 : decode (sm_code 60) 137 = .ok (.aload_n 0, 1) := by decide +kernel
theorem r60_137 {X : sm_X} {w : sm_W} {Q : Option Value → sm_W → Prop} {x0 : Nat} : sm_R X 60 137 [.ref x0] [] w Q ↔ sm_R X 60 138 [.ref x0] [.ref x0] w Q := sm_R_go d60_137 rfl
theorem d60_138 : decode (sm_code 60) 138 = .ok (.iconst 0, 1) := by decide +kernel
theorem r60_138 {X : sm_X} {w : sm_W} {Q : Option Value → sm_W → Prop} {x0 : Nat} {s0 : Nat} : sm_R X 60 138 [.ref x0] [.ref s0] w Q ↔ sm_R X 60 139 [.ref x0] [.int 0, .ref s0] w Q := sm_R_go d60_138 rfl
theorem d60_139 : decode (sm_code 60) 139 = .ok (.putfield 72, 3) := by decide +kernel
theorem r60_139 {X : sm_X} {w : sm_W} {Q : Option Value → sm_W → Prop} {x0 : Nat} {s0 : Int32} {s1 : Nat} : sm_R X 60 139 [.ref x0] [.int s0, .ref s1] w Q ↔ sm_wp (sm_pfl 7 20 (.int s0) (sm_at w s1)) (fun c => sm_R X 60 142 [.ref x0] [] (w.set (s1 - 100) c) Q) := sm_q_putf d60_139 rfl rfl rfl (by decide)
theorem d60_142 : decode (sm_code 60) 142 = .ok (.aload_n 0, 1) := by decide +kernel
theorem r60_142 {X : sm_X} {w : sm_W} {Q : Option Value → sm_W → Prop} {x0 : Nat} : sm_R X 60 142 [.ref x0] [] w Q ↔ sm_R X 60 143 [.ref x0] [.ref x0] w Q := sm_R_go d60_142 rfl
theorem d60_143 : decode (sm_code 60) 143 = .ok (.bipush 8, 2) := by decide +kernel
theorem r60_143 {X : sm_X} {w : sm_W} {Q : Option Value → sm_W → Prop} {x0 : Nat} {s0 : Nat} : sm_R X 60 143 [.ref x0] [.ref s0] w Q ↔ sm_R X 60 145 [.ref x0] [.int 8, .ref s0] w Q := sm_R_go d60_143 rfl
theorem d60_145 : decode (sm_code 60) 145 = .ok (.newarray .long, 2) := by decide +kernel
theorem r60_145 {X : sm_X} {w : sm_W} {Q : Option Value → sm_W → Prop} {x0 : Nat} {s0 : Int32} {s1 : Nat} (h : ¬ (s0 < 0 ∨ 65536 < s0.toNatClampNeg)) : sm_R X 60 145 [.ref x0] [.int s0, .ref s1] w Q ↔ sm_R X 60 147 [.ref x0] [.ref (100 + w.length), .ref s1] (w ++ [.inl (1, s0.toNatClampNeg, .inr (.inl (fun _ => 0)))]) Q := sm_R_go d60_145 (if_neg h)
theorem d60_147 : decode (sm_code 60) 147 = .ok (.putfield 75, 3) := by decide +kernel
theorem r60_147 {X : sm_X} {w : sm_W} {Q : Option Value → sm_W → Prop} {x0 : Nat} {s0 : Nat} {s1 : Nat} : sm_R X 60 147 [.ref x0] [.ref s0, .ref s1] w Q ↔ sm_wp (sm_pfl 7 21 (.ref s0) (sm_at w s1)) (fun c => sm_R X 60 150 [.ref x0] [] (w.set (s1 - 100) c) Q) := sm_q_putf d60_147 rfl rfl rfl (by decide)
theorem d60_150 : decode (sm_code 60) 150 = .ok (.aload_n 0, 1) := by decide +kernel
theorem r60_150 {X : sm_X} {w : sm_W} {Q : Option Value → sm_W → Prop} {x0 : Nat} : sm_R X 60 150 [.ref x0] [] w Q ↔ sm_R X 60 151 [.ref x0] [.ref x0] w Q := sm_R_go d60_150 rfl
theorem d60_151 : decode (sm_code 60) 151 = .ok (.bipush 100, 2) := by decide +kernel
theorem r60_151 {X : sm_X} {w : sm_W} {Q : Option Value → sm_W → Prop} {x0 : Nat} {s0 : Nat} : sm_R X 60 151 [.ref x0] [.ref s0] w Q ↔ sm_R X 60 153 [.ref x0] [.int 100, .ref s0] w Q := sm_R_go d60_151 rfl
theorem d60_153 : decode (sm_code 60) 153 = .ok (.newarray .long, 2) := by decide +kernel
theorem r60_153 {X : sm_X} {w : sm_W} {Q : Option Value → sm_W → Prop} {x0 : Nat} {s0 : Int32} {s1 : Nat} (h : ¬ (s0 < 0 ∨ 65536 < s0.toNatClampNeg)) : sm_R X 60 153 [.ref x0] [.int s0, .ref s1] w Q ↔ sm_R X 60 155 [.ref x0] [.ref (100 + w.length), .ref s1] (w ++ [.inl (1, s0.toNatClampNeg, .inr (.inl (fun _ => 0)))]) Q := sm_R_go d60_153 (if_neg h)
theorem d60_155 : decode (sm_code 60) 155 = .ok (.putfield 78, 3) := by decide +kernel
theorem r60_155 {X : sm_X} {w : sm_W} {Q : Option Value → sm_W → Prop} {x0 : Nat} {s0 : Nat} {s1 : Nat} : sm_R X 60 155 [.ref x0] [.ref s0, .ref s1] w Q ↔ sm_wp (sm_pfl 7 22 (.ref s0) (sm_at w s1)) (fun c => sm_R X 60 158 [.ref x0] [] (w.set (s1 - 100) c) Q) := sm_q_putf d60_155 rfl rfl rfl (by decide)
theorem d60_158 : decode (sm_code 60) 158 = .ok (.aload_n 0, 1) := by decide +kernel
theorem r60_158 {X : sm_X} {w : sm_W} {Q : Option Value → sm_W → Prop} {x0 : Nat} : sm_R X 60 158 [.ref x0] [] w Q ↔ sm_R X 60 159 [.ref x0] [.ref x0] w Q := sm_R_go d60_158 rfl
theorem d60_159 : decode (sm_code 60) 159 = .ok (.bipush 10, 2) := by decide +kernel
theorem r60_159 {X : sm_X} {w : sm_W} {Q : Option Value → sm_W → Prop} {x0 : Nat} {s0 : Nat} : sm_R X 60 159 [.ref x0] [.ref s0] w Q ↔ sm_R X 60 161 [.ref x0] [.int 10, .ref s0] w Q := sm_R_go d60_159 rfl
theorem d60_161 : decode (sm_code 60) 161 = .ok (.newarray .long, 2) := by decide +kernel
theorem r60_161 {X : sm_X} {w : sm_W} {Q : Option Value → sm_W → Prop} {x0 : Nat} {s0 : Int32} {s1 : Nat} (h : ¬ (s0 < 0 ∨ 65536 < s0.toNatClampNeg)) : sm_R X 60 161 [.ref x0] [.int s0, .ref s1] w Q ↔ sm_R X 60 163 [.ref x0] [.ref (100 + w.length), .ref s1] (w ++ [.inl (1, s0.toNatClampNeg, .inr (.inl (fun _ => 0)))]) Q := sm_R_go d60_161 (if_neg h)
theorem d60_163 : decode (sm_code 60) 163 = .ok (.putfield 81, 3) := by decide +kernel
theorem r60_163 {X : sm_X} {w : sm_W} {Q : Option Value → sm_W → Prop} {x0 : Nat} {s0 : Nat} {s1 : Nat} : sm_R X 60 163 [.ref x0] [.ref s0, .ref s1] w Q ↔ sm_wp (sm_pfl 7 23 (.ref s0) (sm_at w s1)) (fun c => sm_R X 60 166 [.ref x0] [] (w.set (s1 - 100) c) Q) := sm_q_putf d60_163 rfl rfl rfl (by decide)
theorem d60_166 : decode (sm_code 60) 166 = .ok (.aload_n 0, 1) := by decide +kernel
theorem r60_166 {X : sm_X} {w : sm_W} {Q : Option Value → sm_W → Prop} {x0 : Nat} : sm_R X 60 166 [.ref x0] [] w Q ↔ sm_R X 60 167 [.ref x0] [.ref x0] w Q := sm_R_go d60_166 rfl
theorem d60_167 : decode (sm_code 60) 167 = .ok (.iconst 0, 1) := by decide +kernel
theorem r60_167 {X : sm_X} {w : sm_W} {Q : Option Value → sm_W → Prop} {x0 : Nat} {s0 : Nat} : sm_R X 60 167 [.ref x0] [.ref s0] w Q ↔ sm_R X 60 168 [.ref x0] [.int 0, .ref s0] w Q := sm_R_go d60_167 rfl
theorem d60_168 : decode (sm_code 60) 168 = .ok (.putfield 84, 3) := by decide +kernel
theorem r60_168 {X : sm_X} {w : sm_W} {Q : Option Value → sm_W → Prop} {x0 : Nat} {s0 : Int32} {s1 : Nat} : sm_R X 60 168 [.ref x0] [.int s0, .ref s1] w Q ↔ sm_wp (sm_pfl 7 24 (.int s0) (sm_at w s1)) (fun c => sm_R X 60 171 [.ref x0] [] (w.set (s1 - 100) c) Q) := sm_q_putf d60_168 rfl rfl rfl (by decide)
theorem d60_171 : decode (sm_code 60) 171 = .ok (.aload_n 0, 1) := by decide +kernel
theorem r60_171 {X : sm_X} {w : sm_W} {Q : Option Value → sm_W → Prop} {x0 : Nat} : sm_R X 60 171 [.ref x0] [] w Q ↔ sm_R X 60 172 [.ref x0] [.ref x0] w Q := sm_R_go d60_171 rfl
theorem d60_172 : decode (sm_code 60) 172 = .ok (.iconst 0, 1) := by decide +kernel
theorem r60_172 {X : sm_X} {w : sm_W} {Q : Option Value → sm_W → Prop} {x0 : Nat} {s0 : Nat} : sm_R X 60 172 [.ref x0] [.ref s0] w Q ↔ sm_R X 60 173 [.ref x0] [.int 0, .ref s0] w Q := sm_R_go d60_172 rfl
theorem d60_173 : decode (sm_code 60) 173 = .ok (.putfield 87, 3) := by decide +kernel
theorem r60_173 {X : sm_X} {w : sm_W} {Q : Option Value → sm_W → Prop} {x0 : Nat} {s0 : Int32} {s1 : Nat} : sm_R X 60 173 [.ref x0] [.int s0, .ref s1] w Q ↔ sm_wp (sm_pfl 7 25 (.int s0) (sm_at w s1)) (fun c => sm_R X 60 176 [.ref x0] [] (w.set (s1 - 100) c) Q) := sm_q_putf d60_173 rfl rfl rfl (by decide)
theorem d60_176 : decode (sm_code 60) 176 = .ok (.return_, 1) := by decide +kernel
theorem r60_176 {X : sm_X} {w : sm_W} {Q : Option Value → sm_W → Prop} {x0 : Nat} : sm_R X 60 176 [.ref x0] [] w Q ↔ Q none w := sm_R_ret d60_176 rfl
-- GroupLedgerModel.mint(II)I
theorem d61_0 : decode (sm_code 61) 0 = .ok (.aload_n 0, 1) := by decide +kernel
theorem r61_0 {X : sm_X} {w : sm_W} {Q : Option Value → sm_W → Prop} {x0 : Nat} {x1 : Int32} {x2 : Int32} : sm_R X 61 0 [.ref x0, .int x1, .int x2] [] w Q ↔ sm_R X 61 1 [.ref x0, .int x1, .int x2] [.ref x0] w Q := sm_R_go d61_0 rfl
theorem d61_1 : decode (sm_code 61) 1 = .ok (.iload_n 1, 1) := by decide +kernel
theorem r61_1 {X : sm_X} {w : sm_W} {Q : Option Value → sm_W → Prop} {x0 : Nat} {x1 : Int32} {x2 : Int32} {s0 : Nat} : sm_R X 61 1 [.ref x0, .int x1, .int x2] [.ref s0] w Q ↔ sm_R X 61 2 [.ref x0, .int x1, .int x2] [.int x1, .ref s0] w Q := sm_R_go d61_1 rfl
theorem d61_2 : decode (sm_code 61) 2 = .ok (.iconst 0, 1) := by decide +kernel
theorem r61_2 {X : sm_X} {w : sm_W} {Q : Option Value → sm_W → Prop} {x0 : Nat} {x1 : Int32} {x2 : Int32} {s0 : Int32} {s1 : Nat} : sm_R X 61 2 [.ref x0, .int x1, .int x2] [.int s0, .ref s1] w Q ↔ sm_R X 61 3 [.ref x0, .int x1, .int x2] [.int 0, .int s0, .ref s1] w Q := sm_R_go d61_2 rfl
theorem d61_3 : decode (sm_code 61) 3 = .ok (.iconst 5, 1) := by decide +kernel
theorem r61_3 {X : sm_X} {w : sm_W} {Q : Option Value → sm_W → Prop} {x0 : Nat} {x1 : Int32} {x2 : Int32} {s0 : Int32} {s1 : Int32} {s2 : Nat} : sm_R X 61 3 [.ref x0, .int x1, .int x2] [.int s0, .int s1, .ref s2] w Q ↔ sm_R X 61 4 [.ref x0, .int x1, .int x2] [.int 5, .int s0, .int s1, .ref s2] w Q := sm_R_go d61_3 rfl
theorem d61_4 : decode (sm_code 61) 4 = .ok (.invokevirtual 90, 3) := by decide +kernel
theorem r61_4 {X : sm_X} {w : sm_W} {Q : Option Value → sm_W → Prop} {x0 : Nat} {x1 : Int32} {x2 : Int32} {s0 : Int32} {s1 : Int32} {s2 : Int32} {s3 : Nat} : sm_R X 61 4 [.ref x0, .int x1, .int x2] [.int s0, .int s1, .int s2, .ref s3] w Q ↔ (sm_cN (sm_at w s3) = some 7 ∧ sm_R X 62 0 [.ref s3, .int s2, .int s1, .int s0] [] w (fun v w => sm_R X 61 7 [.ref x0, .int x1, .int x2] (v.toList ++ []) w Q)) := sm_q_vir (k := 62) (as := [.ref s3, .int s2, .int s1, .int s0]) (rest := []) d61_4 rfl rfl rfl rfl rfl
theorem d61_7 : decode (sm_code 61) 7 = .ok (.ifCond .eq 23, 3) := by decide +kernel
theorem r61_7 {X : sm_X} {w : sm_W} {Q : Option Value → sm_W → Prop} {x0 : Nat} {x1 : Int32} {x2 : Int32} {s0 : Int32} : sm_R X 61 7 [.ref x0, .int x1, .int x2] [.int s0] w Q ↔ (if s0 = 0 then sm_R X 61 30 [.ref x0, .int x1, .int x2] [] w Q else sm_R X 61 10 [.ref x0, .int x1, .int x2] [] w Q) := sm_q_br d61_7 rfl
theorem d61_10 : decode (sm_code 61) 10 = .ok (.iload_n 2, 1) := by decide +kernel
theorem r61_10 {X : sm_X} {w : sm_W} {Q : Option Value → sm_W → Prop} {x0 : Nat} {x1 : Int32} {x2 : Int32} : sm_R X 61 10 [.ref x0, .int x1, .int x2] [] w Q ↔ sm_R X 61 11 [.ref x0, .int x1, .int x2] [.int x2] w Q := sm_R_go d61_10 rfl
theorem d61_11 : decode (sm_code 61) 11 = .ok (.ifCond .lt 19, 3) := by decide +kernel
theorem r61_11 {X : sm_X} {w : sm_W} {Q : Option Value → sm_W → Prop} {x0 : Nat} {x1 : Int32} {x2 : Int32} {s0 : Int32} : sm_R X 61 11 [.ref x0, .int x1, .int x2] [.int s0] w Q ↔ (if s0 < 0 then sm_R X 61 30 [.ref x0, .int x1, .int x2] [] w Q else sm_R X 61 14 [.ref x0, .int x1, .int x2] [] w Q) := sm_q_br d61_11 rfl
theorem d61_14 : decode (sm_code 61) 14 = .ok (.aload_n 0, 1) := by decide +kernel
theorem r61_14 {X : sm_X} {w : sm_W} {Q : Option Value → sm_W → Prop} {x0 : Nat} {x1 : Int32} {x2 : Int32} : sm_R X 61 14 [.ref x0, .int x1, .int x2] [] w Q ↔ sm_R X 61 15 [.ref x0, .int x1, .int x2] [.ref x0] w Q := sm_R_go d61_14 rfl
theorem d61_15 : decode (sm_code 61) 15 = .ok (.getfield 7, 3) := by decide +kernel
theorem r61_15 {X : sm_X} {w : sm_W} {Q : Option Value → sm_W → Prop} {x0 : Nat} {x1 : Int32} {x2 : Int32} {s0 : Nat} : sm_R X 61 15 [.ref x0, .int x1, .int x2] [.ref s0] w Q ↔ sm_wp (sm_fld 7 0 (sm_at w s0)) (fun v => sm_R X 61 18 [.ref x0, .int x1, .int x2] [v] w Q) := sm_q_getf d61_15 rfl (by decide)
theorem d61_18 : decode (sm_code 61) 18 = .ok (.iload_n 1, 1) := by decide +kernel
theorem r61_18 {X : sm_X} {w : sm_W} {Q : Option Value → sm_W → Prop} {x0 : Nat} {x1 : Int32} {x2 : Int32} {s0 : Nat} : sm_R X 61 18 [.ref x0, .int x1, .int x2] [.ref s0] w Q ↔ sm_R X 61 19 [.ref x0, .int x1, .int x2] [.int x1, .ref s0] w Q := sm_R_go d61_18 rfl
theorem d61_19 : decode (sm_code 61) 19 = .ok (.laload, 1) := by decide +kernel
theorem r61_19 {X : sm_X} {w : sm_W} {Q : Option Value → sm_W → Prop} {x0 : Nat} {x1 : Int32} {x2 : Int32} {s0 : Int32} {s1 : Nat} : sm_R X 61 19 [.ref x0, .int x1, .int x2] [.int s0, .ref s1] w Q ↔ sm_wp (sm_al s0 (sm_at w s1)) (fun v => sm_R X 61 20 [.ref x0, .int x1, .int x2] [.long v] w Q) := sm_q_lald d61_19
theorem d61_20 : decode (sm_code 61) 20 = .ok (.iload_n 2, 1) := by decide +kernel
theorem r61_20 {X : sm_X} {w : sm_W} {Q : Option Value → sm_W → Prop} {x0 : Nat} {x1 : Int32} {x2 : Int32} {s0 : Int64} : sm_R X 61 20 [.ref x0, .int x1, .int x2] [.long s0] w Q ↔ sm_R X 61 21 [.ref x0, .int x1, .int x2] [.int x2, .long s0] w Q := sm_R_go d61_20 rfl
theorem d61_21 : decode (sm_code 61) 21 = .ok (.i2l, 1) := by decide +kernel
theorem r61_21 {X : sm_X} {w : sm_W} {Q : Option Value → sm_W → Prop} {x0 : Nat} {x1 : Int32} {x2 : Int32} {s0 : Int32} {s1 : Int64} : sm_R X 61 21 [.ref x0, .int x1, .int x2] [.int s0, .long s1] w Q ↔ sm_R X 61 22 [.ref x0, .int x1, .int x2] [.long s0.toInt64, .long s1] w Q := sm_R_go d61_21 rfl
theorem d61_22 : decode (sm_code 61) 22 = .ok (.ladd, 1) := by decide +kernel
theorem r61_22 {X : sm_X} {w : sm_W} {Q : Option Value → sm_W → Prop} {x0 : Nat} {x1 : Int32} {x2 : Int32} {s0 : Int64} {s1 : Int64} : sm_R X 61 22 [.ref x0, .int x1, .int x2] [.long s0, .long s1] w Q ↔ sm_R X 61 23 [.ref x0, .int x1, .int x2] [.long (s1 + s0)] w Q := sm_R_go d61_22 rfl
theorem d61_23 : decode (sm_code 61) 23 = .ok (.ldc2_w 94, 3) := by decide +kernel
theorem r61_23 {X : sm_X} {w : sm_W} {Q : Option Value → sm_W → Prop} {x0 : Nat} {x1 : Int32} {x2 : Int32} {s0 : Int64} : sm_R X 61 23 [.ref x0, .int x1, .int x2] [.long s0] w Q ↔ sm_R X 61 26 [.ref x0, .int x1, .int x2] [.long 2147483647, .long s0] w Q := sm_R_go d61_23 rfl
theorem d61_26 : decode (sm_code 61) 26 = .ok (.lcmp, 1) := by decide +kernel
theorem r61_26 {X : sm_X} {w : sm_W} {Q : Option Value → sm_W → Prop} {x0 : Nat} {x1 : Int32} {x2 : Int32} {s0 : Int64} {s1 : Int64} : sm_R X 61 26 [.ref x0, .int x1, .int x2] [.long s0, .long s1] w Q ↔ sm_R X 61 27 [.ref x0, .int x1, .int x2] [.int (lg_cmp s1 s0)] w Q := sm_R_go d61_26 rfl
theorem d61_27 : decode (sm_code 61) 27 = .ok (.ifCond .le 5, 3) := by decide +kernel
theorem r61_27 {X : sm_X} {w : sm_W} {Q : Option Value → sm_W → Prop} {x0 : Nat} {x1 : Int32} {x2 : Int32} {s0 : Int32} : sm_R X 61 27 [.ref x0, .int x1, .int x2] [.int s0] w Q ↔ (if s0 ≤ 0 then sm_R X 61 32 [.ref x0, .int x1, .int x2] [] w Q else sm_R X 61 30 [.ref x0, .int x1, .int x2] [] w Q) := sm_q_br d61_27 rfl
theorem d61_30 : decode (sm_code 61) 30 = .ok (.iconst (-1), 1) := by decide +kernel
theorem r61_30 {X : sm_X} {w : sm_W} {Q : Option Value → sm_W → Prop} {x0 : Nat} {x1 : Int32} {x2 : Int32} : sm_R X 61 30 [.ref x0, .int x1, .int x2] [] w Q ↔ sm_R X 61 31 [.ref x0, .int x1, .int x2] [.int (-1)] w Q := sm_R_go d61_30 rfl
theorem d61_31 : decode (sm_code 61) 31 = .ok (.ireturn, 1) := by decide +kernel
theorem r61_31 {X : sm_X} {w : sm_W} {Q : Option Value → sm_W → Prop} {x0 : Nat} {x1 : Int32} {x2 : Int32} {s0 : Int32} : sm_R X 61 31 [.ref x0, .int x1, .int x2] [.int s0] w Q ↔ Q (some (.int s0)) w := sm_q_iret d61_31 rfl
theorem d61_32 : decode (sm_code 61) 32 = .ok (.aload_n 0, 1) := by decide +kernel
theorem r61_32 {X : sm_X} {w : sm_W} {Q : Option Value → sm_W → Prop} {x0 : Nat} {x1 : Int32} {x2 : Int32} : sm_R X 61 32 [.ref x0, .int x1, .int x2] [] w Q ↔ sm_R X 61 33 [.ref x0, .int x1, .int x2] [.ref x0] w Q := sm_R_go d61_32 rfl
theorem d61_33 : decode (sm_code 61) 33 = .ok (.getfield 7, 3) := by decide +kernel
theorem r61_33 {X : sm_X} {w : sm_W} {Q : Option Value → sm_W → Prop} {x0 : Nat} {x1 : Int32} {x2 : Int32} {s0 : Nat} : sm_R X 61 33 [.ref x0, .int x1, .int x2] [.ref s0] w Q ↔ sm_wp (sm_fld 7 0 (sm_at w s0)) (fun v => sm_R X 61 36 [.ref x0, .int x1, .int x2] [v] w Q) := sm_q_getf d61_33 rfl (by decide)
theorem d61_36 : decode (sm_code 61) 36 = .ok (.iload_n 1, 1) := by decide +kernel
theorem r61_36 {X : sm_X} {w : sm_W} {Q : Option Value → sm_W → Prop} {x0 : Nat} {x1 : Int32} {x2 : Int32} {s0 : Nat} : sm_R X 61 36 [.ref x0, .int x1, .int x2] [.ref s0] w Q ↔ sm_R X 61 37 [.ref x0, .int x1, .int x2] [.int x1, .ref s0] w Q := sm_R_go d61_36 rfl
theorem d61_37 : decode (sm_code 61) 37 = .ok (.dup2, 1) := by decide +kernel
theorem r61_37 {X : sm_X} {w : sm_W} {Q : Option Value → sm_W → Prop} {x0 : Nat} {x1 : Int32} {x2 : Int32} {s0 : Int32} {s1 : Nat} : sm_R X 61 37 [.ref x0, .int x1, .int x2] [.int s0, .ref s1] w Q ↔ sm_R X 61 38 [.ref x0, .int x1, .int x2] [.int s0, .ref s1, .int s0, .ref s1] w Q := sm_R_go d61_37 rfl
theorem d61_38 : decode (sm_code 61) 38 = .ok (.laload, 1) := by decide +kernel
theorem r61_38 {X : sm_X} {w : sm_W} {Q : Option Value → sm_W → Prop} {x0 : Nat} {x1 : Int32} {x2 : Int32} {s0 : Int32} {s1 : Nat} {s2 : Int32} {s3 : Nat} : sm_R X 61 38 [.ref x0, .int x1, .int x2] [.int s0, .ref s1, .int s2, .ref s3] w Q ↔ sm_wp (sm_al s0 (sm_at w s1)) (fun v => sm_R X 61 39 [.ref x0, .int x1, .int x2] [.long v, .int s2, .ref s3] w Q) := sm_q_lald d61_38
theorem d61_39 : decode (sm_code 61) 39 = .ok (.iload_n 2, 1) := by decide +kernel
theorem r61_39 {X : sm_X} {w : sm_W} {Q : Option Value → sm_W → Prop} {x0 : Nat} {x1 : Int32} {x2 : Int32} {s0 : Int64} {s1 : Int32} {s2 : Nat} : sm_R X 61 39 [.ref x0, .int x1, .int x2] [.long s0, .int s1, .ref s2] w Q ↔ sm_R X 61 40 [.ref x0, .int x1, .int x2] [.int x2, .long s0, .int s1, .ref s2] w Q := sm_R_go d61_39 rfl
theorem d61_40 : decode (sm_code 61) 40 = .ok (.i2l, 1) := by decide +kernel
theorem r61_40 {X : sm_X} {w : sm_W} {Q : Option Value → sm_W → Prop} {x0 : Nat} {x1 : Int32} {x2 : Int32} {s0 : Int32} {s1 : Int64} {s2 : Int32} {s3 : Nat} : sm_R X 61 40 [.ref x0, .int x1, .int x2] [.int s0, .long s1, .int s2, .ref s3] w Q ↔ sm_R X 61 41 [.ref x0, .int x1, .int x2] [.long s0.toInt64, .long s1, .int s2, .ref s3] w Q := sm_R_go d61_40 rfl
theorem d61_41 : decode (sm_code 61) 41 = .ok (.ladd, 1) := by decide +kernel
theorem r61_41 {X : sm_X} {w : sm_W} {Q : Option Value → sm_W → Prop} {x0 : Nat} {x1 : Int32} {x2 : Int32} {s0 : Int64} {s1 : Int64} {s2 : Int32} {s3 : Nat} : sm_R X 61 41 [.ref x0, .int x1, .int x2] [.long s0, .long s1, .int s2, .ref s3] w Q ↔ sm_R X 61 42 [.ref x0, .int x1, .int x2] [.long (s1 + s0), .int s2, .ref s3] w Q := sm_R_go d61_41 rfl
theorem d61_42 : decode (sm_code 61) 42 = .ok (.lastore, 1) := by decide +kernel
theorem r61_42 {X : sm_X} {w : sm_W} {Q : Option Value → sm_W → Prop} {x0 : Nat} {x1 : Int32} {x2 : Int32} {s0 : Int64} {s1 : Int32} {s2 : Nat} : sm_R X 61 42 [.ref x0, .int x1, .int x2] [.long s0, .int s1, .ref s2] w Q ↔ sm_wp (sm_slg s1 s0 (sm_at w s2)) (fun c => sm_R X 61 43 [.ref x0, .int x1, .int x2] [] (w.set (s2 - 100) c) Q) := sm_q_last d61_42
theorem d61_43 : decode (sm_code 61) 43 = .ok (.aload_n 0, 1) := by decide +kernel
theorem r61_43 {X : sm_X} {w : sm_W} {Q : Option Value → sm_W → Prop} {x0 : Nat} {x1 : Int32} {x2 : Int32} : sm_R X 61 43 [.ref x0, .int x1, .int x2] [] w Q ↔ sm_R X 61 44 [.ref x0, .int x1, .int x2] [.ref x0] w Q := sm_R_go d61_43 rfl
theorem d61_44 : decode (sm_code 61) 44 = .ok (.getfield 7, 3) := by decide +kernel
theorem r61_44 {X : sm_X} {w : sm_W} {Q : Option Value → sm_W → Prop} {x0 : Nat} {x1 : Int32} {x2 : Int32} {s0 : Nat} : sm_R X 61 44 [.ref x0, .int x1, .int x2] [.ref s0] w Q ↔ sm_wp (sm_fld 7 0 (sm_at w s0)) (fun v => sm_R X 61 47 [.ref x0, .int x1, .int x2] [v] w Q) := sm_q_getf d61_44 rfl (by decide)
theorem d61_47 : decode (sm_code 61) 47 = .ok (.iload_n 1, 1) := by decide +kernel
theorem r61_47 {X : sm_X} {w : sm_W} {Q : Option Value → sm_W → Prop} {x0 : Nat} {x1 : Int32} {x2 : Int32} {s0 : Nat} : sm_R X 61 47 [.ref x0, .int x1, .int x2] [.ref s0] w Q ↔ sm_R X 61 48 [.ref x0, .int x1, .int x2] [.int x1, .ref s0] w Q := sm_R_go d61_47 rfl
theorem d61_48 : decode (sm_code 61) 48 = .ok (.laload, 1) := by decide +kernel
theorem r61_48 {X : sm_X} {w : sm_W} {Q : Option Value → sm_W → Prop} {x0 : Nat} {x1 : Int32} {x2 : Int32} {s0 : Int32} {s1 : Nat} : sm_R X 61 48 [.ref x0, .int x1, .int x2] [.int s0, .ref s1] w Q ↔ sm_wp (sm_al s0 (sm_at w s1)) (fun v => sm_R X 61 49 [.ref x0, .int x1, .int x2] [.long v] w Q) := sm_q_lald d61_48
theorem d61_49 : decode (sm_code 61) 49 = .ok (.l2i, 1) := by decide +kernel
theorem r61_49 {X : sm_X} {w : sm_W} {Q : Option Value → sm_W → Prop} {x0 : Nat} {x1 : Int32} {x2 : Int32} {s0 : Int64} : sm_R X 61 49 [.ref x0, .int x1, .int x2] [.long s0] w Q ↔ sm_R X 61 50 [.ref x0, .int x1, .int x2] [.int s0.toInt32] w Q := sm_R_go d61_49 rfl
theorem d61_50 : decode (sm_code 61) 50 = .ok (.ireturn, 1) := by decide +kernel
theorem r61_50 {X : sm_X} {w : sm_W} {Q : Option Value → sm_W → Prop} {x0 : Nat} {x1 : Int32} {x2 : Int32} {s0 : Int32} : sm_R X 61 50 [.ref x0, .int x1, .int x2] [.int s0] w Q ↔ Q (some (.int s0)) w := sm_q_iret d61_50 rfl
-- GroupLedgerModel.in(III)Z
theorem d62_0 : decode (sm_code 62) 0 = .ok (.iload_n 1, 1) := by decide +kernel
theorem r62_0 {X : sm_X} {w : sm_W} {Q : Option Value → sm_W → Prop} {x0 : Nat} {x1 : Int32} {x2 : Int32} {x3 : Int32} : sm_R X 62 0 [.ref x0, .int x1, .int x2, .int x3] [] w Q ↔ sm_R X 62 1 [.ref x0, .int x1, .int x2, .int x3] [.int x1] w Q := sm_R_go d62_0 rfl
theorem d62_1 : decode (sm_code 62) 1 = .ok (.iload_n 2, 1) := by decide +kernel
theorem r62_1 {X : sm_X} {w : sm_W} {Q : Option Value → sm_W → Prop} {x0 : Nat} {x1 : Int32} {x2 : Int32} {x3 : Int32} {s0 : Int32} : sm_R X 62 1 [.ref x0, .int x1, .int x2, .int x3] [.int s0] w Q ↔ sm_R X 62 2 [.ref x0, .int x1, .int x2, .int x3] [.int x2, .int s0] w Q := sm_R_go d62_1 rfl
theorem d62_2 : decode (sm_code 62) 2 = .ok (.if_icmp .lt 12, 3) := by decide +kernel
theorem r62_2 {X : sm_X} {w : sm_W} {Q : Option Value → sm_W → Prop} {x0 : Nat} {x1 : Int32} {x2 : Int32} {x3 : Int32} {s0 : Int32} {s1 : Int32} : sm_R X 62 2 [.ref x0, .int x1, .int x2, .int x3] [.int s0, .int s1] w Q ↔ (if s1 < s0 then sm_R X 62 14 [.ref x0, .int x1, .int x2, .int x3] [] w Q else sm_R X 62 5 [.ref x0, .int x1, .int x2, .int x3] [] w Q) := sm_q_br d62_2 rfl
theorem d62_5 : decode (sm_code 62) 5 = .ok (.iload_n 1, 1) := by decide +kernel
theorem r62_5 {X : sm_X} {w : sm_W} {Q : Option Value → sm_W → Prop} {x0 : Nat} {x1 : Int32} {x2 : Int32} {x3 : Int32} : sm_R X 62 5 [.ref x0, .int x1, .int x2, .int x3] [] w Q ↔ sm_R X 62 6 [.ref x0, .int x1, .int x2, .int x3] [.int x1] w Q := sm_R_go d62_5 rfl
theorem d62_6 : decode (sm_code 62) 6 = .ok (.iload_n 3, 1) := by decide +kernel
theorem r62_6 {X : sm_X} {w : sm_W} {Q : Option Value → sm_W → Prop} {x0 : Nat} {x1 : Int32} {x2 : Int32} {x3 : Int32} {s0 : Int32} : sm_R X 62 6 [.ref x0, .int x1, .int x2, .int x3] [.int s0] w Q ↔ sm_R X 62 7 [.ref x0, .int x1, .int x2, .int x3] [.int x3, .int s0] w Q := sm_R_go d62_6 rfl
theorem d62_7 : decode (sm_code 62) 7 = .ok (.if_icmp .gt 7, 3) := by decide +kernel
theorem r62_7 {X : sm_X} {w : sm_W} {Q : Option Value → sm_W → Prop} {x0 : Nat} {x1 : Int32} {x2 : Int32} {x3 : Int32} {s0 : Int32} {s1 : Int32} : sm_R X 62 7 [.ref x0, .int x1, .int x2, .int x3] [.int s0, .int s1] w Q ↔ (if s0 < s1 then sm_R X 62 14 [.ref x0, .int x1, .int x2, .int x3] [] w Q else sm_R X 62 10 [.ref x0, .int x1, .int x2, .int x3] [] w Q) := sm_q_br d62_7 rfl
theorem d62_10 : decode (sm_code 62) 10 = .ok (.iconst 1, 1) := by decide +kernel
theorem r62_10 {X : sm_X} {w : sm_W} {Q : Option Value → sm_W → Prop} {x0 : Nat} {x1 : Int32} {x2 : Int32} {x3 : Int32} : sm_R X 62 10 [.ref x0, .int x1, .int x2, .int x3] [] w Q ↔ sm_R X 62 11 [.ref x0, .int x1, .int x2, .int x3] [.int 1] w Q := sm_R_go d62_10 rfl
theorem d62_11 : decode (sm_code 62) 11 = .ok (.goto 4, 3) := by decide +kernel
theorem r62_11 {X : sm_X} {w : sm_W} {Q : Option Value → sm_W → Prop} {x0 : Nat} {x1 : Int32} {x2 : Int32} {x3 : Int32} {s0 : Int32} : sm_R X 62 11 [.ref x0, .int x1, .int x2, .int x3] [.int s0] w Q ↔ sm_R X 62 15 [.ref x0, .int x1, .int x2, .int x3] [.int s0] w Q := sm_R_go d62_11 rfl
theorem d62_14 : decode (sm_code 62) 14 = .ok (.iconst 0, 1) := by decide +kernel
theorem r62_14 {X : sm_X} {w : sm_W} {Q : Option Value → sm_W → Prop} {x0 : Nat} {x1 : Int32} {x2 : Int32} {x3 : Int32} : sm_R X 62 14 [.ref x0, .int x1, .int x2, .int x3] [] w Q ↔ sm_R X 62 15 [.ref x0, .int x1, .int x2, .int x3] [.int 0] w Q := sm_R_go d62_14 rfl
theorem d62_15 : decode (sm_code 62) 15 = .ok (.ireturn, 1) := by decide +kernel
theorem r62_15 {X : sm_X} {w : sm_W} {Q : Option Value → sm_W → Prop} {x0 : Nat} {x1 : Int32} {x2 : Int32} {x3 : Int32} {s0 : Int32} (h : s0 = 0 ∨ s0 = 1) : sm_R X 62 15 [.ref x0, .int x1, .int x2, .int x3] [.int s0] w Q ↔ Q (some (.int s0)) w := sm_q_zret d62_15 rfl h
-- GroupLedgerModel.emit(II)I
theorem d63_0 : decode (sm_code 63) 0 = .ok (.aload_n 0, 1) := by decide +kernel
theorem r63_0 {X : sm_X} {w : sm_W} {Q : Option Value → sm_W → Prop} {x0 : Nat} {x1 : Int32} {x2 : Int32} : sm_R X 63 0 [.ref x0, .int x1, .int x2] [] w Q ↔ sm_R X 63 1 [.ref x0, .int x1, .int x2] [.ref x0] w Q := sm_R_go d63_0 rfl
theorem d63_1 : decode (sm_code 63) 1 = .ok (.iload_n 1, 1) := by decide +kernel
theorem r63_1 {X : sm_X} {w : sm_W} {Q : Option Value → sm_W → Prop} {x0 : Nat} {x1 : Int32} {x2 : Int32} {s0 : Nat} : sm_R X 63 1 [.ref x0, .int x1, .int x2] [.ref s0] w Q ↔ sm_R X 63 2 [.ref x0, .int x1, .int x2] [.int x1, .ref s0] w Q := sm_R_go d63_1 rfl
theorem d63_2 : decode (sm_code 63) 2 = .ok (.iload_n 2, 1) := by decide +kernel
theorem r63_2 {X : sm_X} {w : sm_W} {Q : Option Value → sm_W → Prop} {x0 : Nat} {x1 : Int32} {x2 : Int32} {s0 : Int32} {s1 : Nat} : sm_R X 63 2 [.ref x0, .int x1, .int x2] [.int s0, .ref s1] w Q ↔ sm_R X 63 3 [.ref x0, .int x1, .int x2] [.int x2, .int s0, .ref s1] w Q := sm_R_go d63_2 rfl
theorem d63_3 : decode (sm_code 63) 3 = .ok (.invokevirtual 96, 3) := by decide +kernel
theorem r63_3 {X : sm_X} {w : sm_W} {Q : Option Value → sm_W → Prop} {x0 : Nat} {x1 : Int32} {x2 : Int32} {s0 : Int32} {s1 : Int32} {s2 : Nat} : sm_R X 63 3 [.ref x0, .int x1, .int x2] [.int s0, .int s1, .ref s2] w Q ↔ (sm_cN (sm_at w s2) = some 7 ∧ sm_R X 64 0 [.ref s2, .int s1, .int s0] [] w (fun v w => sm_R X 63 6 [.ref x0, .int x1, .int x2] (v.toList ++ []) w Q)) := sm_q_vir (k := 64) (as := [.ref s2, .int s1, .int s0]) (rest := []) d63_3 rfl rfl rfl rfl rfl
theorem d63_6 : decode (sm_code 63) 6 = .ok (.ifCond .ne 5, 3) := by decide +kernel
theorem r63_6 {X : sm_X} {w : sm_W} {Q : Option Value → sm_W → Prop} {x0 : Nat} {x1 : Int32} {x2 : Int32} {s0 : Int32} : sm_R X 63 6 [.ref x0, .int x1, .int x2] [.int s0] w Q ↔ (if s0 = 0 then sm_R X 63 9 [.ref x0, .int x1, .int x2] [] w Q else sm_R X 63 11 [.ref x0, .int x1, .int x2] [] w Q) := sm_q_br d63_6 rfl
theorem d63_9 : decode (sm_code 63) 9 = .ok (.iconst (-1), 1) := by decide +kernel
theorem r63_9 {X : sm_X} {w : sm_W} {Q : Option Value → sm_W → Prop} {x0 : Nat} {x1 : Int32} {x2 : Int32} : sm_R X 63 9 [.ref x0, .int x1, .int x2] [] w Q ↔ sm_R X 63 10 [.ref x0, .int x1, .int x2] [.int (-1)] w Q := sm_R_go d63_9 rfl
theorem d63_10 : decode (sm_code 63) 10 = .ok (.ireturn, 1) := by decide +kernel
theorem r63_10 {X : sm_X} {w : sm_W} {Q : Option Value → sm_W → Prop} {x0 : Nat} {x1 : Int32} {x2 : Int32} {s0 : Int32} : sm_R X 63 10 [.ref x0, .int x1, .int x2] [.int s0] w Q ↔ Q (some (.int s0)) w := sm_q_iret d63_10 rfl
theorem d63_11 : decode (sm_code 63) 11 = .ok (.aload_n 0, 1) := by decide +kernel
theorem r63_11 {X : sm_X} {w : sm_W} {Q : Option Value → sm_W → Prop} {x0 : Nat} {x1 : Int32} {x2 : Int32} : sm_R X 63 11 [.ref x0, .int x1, .int x2] [] w Q ↔ sm_R X 63 12 [.ref x0, .int x1, .int x2] [.ref x0] w Q := sm_R_go d63_11 rfl
theorem d63_12 : decode (sm_code 63) 12 = .ok (.getfield 23, 3) := by decide +kernel
theorem r63_12 {X : sm_X} {w : sm_W} {Q : Option Value → sm_W → Prop} {x0 : Nat} {x1 : Int32} {x2 : Int32} {s0 : Nat} : sm_R X 63 12 [.ref x0, .int x1, .int x2] [.ref s0] w Q ↔ sm_wp (sm_fld 7 4 (sm_at w s0)) (fun v => sm_R X 63 15 [.ref x0, .int x1, .int x2] [v] w Q) := sm_q_getf d63_12 rfl (by decide)
theorem d63_15 : decode (sm_code 63) 15 = .ok (.iconst 4, 1) := by decide +kernel
theorem r63_15 {X : sm_X} {w : sm_W} {Q : Option Value → sm_W → Prop} {x0 : Nat} {x1 : Int32} {x2 : Int32} {s0 : Nat} : sm_R X 63 15 [.ref x0, .int x1, .int x2] [.ref s0] w Q ↔ sm_R X 63 16 [.ref x0, .int x1, .int x2] [.int 4, .ref s0] w Q := sm_R_go d63_15 rfl
theorem d63_16 : decode (sm_code 63) 16 = .ok (.iaload, 1) := by decide +kernel
theorem r63_16 {X : sm_X} {w : sm_W} {Q : Option Value → sm_W → Prop} {x0 : Nat} {x1 : Int32} {x2 : Int32} {s0 : Int32} {s1 : Nat} : sm_R X 63 16 [.ref x0, .int x1, .int x2] [.int s0, .ref s1] w Q ↔ sm_wp (sm_ai s0 (sm_get X w s1)) (fun v => sm_R X 63 17 [.ref x0, .int x1, .int x2] [.int v] w Q) := sm_q_iald d63_16
theorem d63_17 : decode (sm_code 63) 17 = .ok (.bipush 32, 2) := by decide +kernel
theorem r63_17 {X : sm_X} {w : sm_W} {Q : Option Value → sm_W → Prop} {x0 : Nat} {x1 : Int32} {x2 : Int32} {s0 : Int32} : sm_R X 63 17 [.ref x0, .int x1, .int x2] [.int s0] w Q ↔ sm_R X 63 19 [.ref x0, .int x1, .int x2] [.int 32, .int s0] w Q := sm_R_go d63_17 rfl
theorem d63_19 : decode (sm_code 63) 19 = .ok (.if_icmp .ne 6, 3) := by decide +kernel
theorem r63_19 {X : sm_X} {w : sm_W} {Q : Option Value → sm_W → Prop} {x0 : Nat} {x1 : Int32} {x2 : Int32} {s0 : Int32} {s1 : Int32} : sm_R X 63 19 [.ref x0, .int x1, .int x2] [.int s0, .int s1] w Q ↔ (if s1 = s0 then sm_R X 63 22 [.ref x0, .int x1, .int x2] [] w Q else sm_R X 63 25 [.ref x0, .int x1, .int x2] [] w Q) := sm_q_br d63_19 rfl
theorem d63_22 : decode (sm_code 63) 22 = .ok (.bipush (-2), 2) := by decide +kernel
theorem r63_22 {X : sm_X} {w : sm_W} {Q : Option Value → sm_W → Prop} {x0 : Nat} {x1 : Int32} {x2 : Int32} : sm_R X 63 22 [.ref x0, .int x1, .int x2] [] w Q ↔ sm_R X 63 24 [.ref x0, .int x1, .int x2] [.int (-2)] w Q := sm_R_go d63_22 rfl
theorem d63_24 : decode (sm_code 63) 24 = .ok (.ireturn, 1) := by decide +kernel
theorem r63_24 {X : sm_X} {w : sm_W} {Q : Option Value → sm_W → Prop} {x0 : Nat} {x1 : Int32} {x2 : Int32} {s0 : Int32} : sm_R X 63 24 [.ref x0, .int x1, .int x2] [.int s0] w Q ↔ Q (some (.int s0)) w := sm_q_iret d63_24 rfl
theorem d63_25 : decode (sm_code 63) 25 = .ok (.aload_n 0, 1) := by decide +kernel
theorem r63_25 {X : sm_X} {w : sm_W} {Q : Option Value → sm_W → Prop} {x0 : Nat} {x1 : Int32} {x2 : Int32} : sm_R X 63 25 [.ref x0, .int x1, .int x2] [] w Q ↔ sm_R X 63 26 [.ref x0, .int x1, .int x2] [.ref x0] w Q := sm_R_go d63_25 rfl
theorem d63_26 : decode (sm_code 63) 26 = .ok (.getfield 16, 3) := by decide +kernel
theorem r63_26 {X : sm_X} {w : sm_W} {Q : Option Value → sm_W → Prop} {x0 : Nat} {x1 : Int32} {x2 : Int32} {s0 : Nat} : sm_R X 63 26 [.ref x0, .int x1, .int x2] [.ref s0] w Q ↔ sm_wp (sm_fld 7 2 (sm_at w s0)) (fun v => sm_R X 63 29 [.ref x0, .int x1, .int x2] [v] w Q) := sm_q_getf d63_26 rfl (by decide)
theorem d63_29 : decode (sm_code 63) 29 = .ok (.sipush 128, 3) := by decide +kernel
theorem r63_29 {X : sm_X} {w : sm_W} {Q : Option Value → sm_W → Prop} {x0 : Nat} {x1 : Int32} {x2 : Int32} {s0 : Nat} : sm_R X 63 29 [.ref x0, .int x1, .int x2] [.ref s0] w Q ↔ sm_R X 63 32 [.ref x0, .int x1, .int x2] [.int 128, .ref s0] w Q := sm_R_go d63_29 rfl
theorem d63_32 : decode (sm_code 63) 32 = .ok (.aload_n 0, 1) := by decide +kernel
theorem r63_32 {X : sm_X} {w : sm_W} {Q : Option Value → sm_W → Prop} {x0 : Nat} {x1 : Int32} {x2 : Int32} {s0 : Int32} {s1 : Nat} : sm_R X 63 32 [.ref x0, .int x1, .int x2] [.int s0, .ref s1] w Q ↔ sm_R X 63 33 [.ref x0, .int x1, .int x2] [.ref x0, .int s0, .ref s1] w Q := sm_R_go d63_32 rfl
theorem d63_33 : decode (sm_code 63) 33 = .ok (.getfield 23, 3) := by decide +kernel
theorem r63_33 {X : sm_X} {w : sm_W} {Q : Option Value → sm_W → Prop} {x0 : Nat} {x1 : Int32} {x2 : Int32} {s0 : Nat} {s1 : Int32} {s2 : Nat} : sm_R X 63 33 [.ref x0, .int x1, .int x2] [.ref s0, .int s1, .ref s2] w Q ↔ sm_wp (sm_fld 7 4 (sm_at w s0)) (fun v => sm_R X 63 36 [.ref x0, .int x1, .int x2] [v, .int s1, .ref s2] w Q) := sm_q_getf d63_33 rfl (by decide)
theorem d63_36 : decode (sm_code 63) 36 = .ok (.iconst 4, 1) := by decide +kernel
theorem r63_36 {X : sm_X} {w : sm_W} {Q : Option Value → sm_W → Prop} {x0 : Nat} {x1 : Int32} {x2 : Int32} {s0 : Nat} {s1 : Int32} {s2 : Nat} : sm_R X 63 36 [.ref x0, .int x1, .int x2] [.ref s0, .int s1, .ref s2] w Q ↔ sm_R X 63 37 [.ref x0, .int x1, .int x2] [.int 4, .ref s0, .int s1, .ref s2] w Q := sm_R_go d63_36 rfl
theorem d63_37 : decode (sm_code 63) 37 = .ok (.iaload, 1) := by decide +kernel
theorem r63_37 {X : sm_X} {w : sm_W} {Q : Option Value → sm_W → Prop} {x0 : Nat} {x1 : Int32} {x2 : Int32} {s0 : Int32} {s1 : Nat} {s2 : Int32} {s3 : Nat} : sm_R X 63 37 [.ref x0, .int x1, .int x2] [.int s0, .ref s1, .int s2, .ref s3] w Q ↔ sm_wp (sm_ai s0 (sm_get X w s1)) (fun v => sm_R X 63 38 [.ref x0, .int x1, .int x2] [.int v, .int s2, .ref s3] w Q) := sm_q_iald d63_37
theorem d63_38 : decode (sm_code 63) 38 = .ok (.iadd, 1) := by decide +kernel
theorem r63_38 {X : sm_X} {w : sm_W} {Q : Option Value → sm_W → Prop} {x0 : Nat} {x1 : Int32} {x2 : Int32} {s0 : Int32} {s1 : Int32} {s2 : Nat} : sm_R X 63 38 [.ref x0, .int x1, .int x2] [.int s0, .int s1, .ref s2] w Q ↔ sm_R X 63 39 [.ref x0, .int x1, .int x2] [.int (s1 + s0), .ref s2] w Q := sm_R_go d63_38 rfl
theorem d63_39 : decode (sm_code 63) 39 = .ok (.iload_n 1, 1) := by decide +kernel
theorem r63_39 {X : sm_X} {w : sm_W} {Q : Option Value → sm_W → Prop} {x0 : Nat} {x1 : Int32} {x2 : Int32} {s0 : Int32} {s1 : Nat} : sm_R X 63 39 [.ref x0, .int x1, .int x2] [.int s0, .ref s1] w Q ↔ sm_R X 63 40 [.ref x0, .int x1, .int x2] [.int x1, .int s0, .ref s1] w Q := sm_R_go d63_39 rfl
theorem d63_40 : decode (sm_code 63) 40 = .ok (.iastore, 1) := by decide +kernel
theorem r63_40 {X : sm_X} {w : sm_W} {Q : Option Value → sm_W → Prop} {x0 : Nat} {x1 : Int32} {x2 : Int32} {s0 : Int32} {s1 : Int32} {s2 : Nat} : sm_R X 63 40 [.ref x0, .int x1, .int x2] [.int s0, .int s1, .ref s2] w Q ↔ sm_wp (sm_si s1 s0 (sm_at w s2)) (fun c => sm_R X 63 41 [.ref x0, .int x1, .int x2] [] (w.set (s2 - 100) c) Q) := sm_q_iast d63_40
theorem d63_41 : decode (sm_code 63) 41 = .ok (.aload_n 0, 1) := by decide +kernel
theorem r63_41 {X : sm_X} {w : sm_W} {Q : Option Value → sm_W → Prop} {x0 : Nat} {x1 : Int32} {x2 : Int32} : sm_R X 63 41 [.ref x0, .int x1, .int x2] [] w Q ↔ sm_R X 63 42 [.ref x0, .int x1, .int x2] [.ref x0] w Q := sm_R_go d63_41 rfl
theorem d63_42 : decode (sm_code 63) 42 = .ok (.getfield 20, 3) := by decide +kernel
theorem r63_42 {X : sm_X} {w : sm_W} {Q : Option Value → sm_W → Prop} {x0 : Nat} {x1 : Int32} {x2 : Int32} {s0 : Nat} : sm_R X 63 42 [.ref x0, .int x1, .int x2] [.ref s0] w Q ↔ sm_wp (sm_fld 7 3 (sm_at w s0)) (fun v => sm_R X 63 45 [.ref x0, .int x1, .int x2] [v] w Q) := sm_q_getf d63_42 rfl (by decide)
theorem d63_45 : decode (sm_code 63) 45 = .ok (.sipush 128, 3) := by decide +kernel
theorem r63_45 {X : sm_X} {w : sm_W} {Q : Option Value → sm_W → Prop} {x0 : Nat} {x1 : Int32} {x2 : Int32} {s0 : Nat} : sm_R X 63 45 [.ref x0, .int x1, .int x2] [.ref s0] w Q ↔ sm_R X 63 48 [.ref x0, .int x1, .int x2] [.int 128, .ref s0] w Q := sm_R_go d63_45 rfl
theorem d63_48 : decode (sm_code 63) 48 = .ok (.aload_n 0, 1) := by decide +kernel
theorem r63_48 {X : sm_X} {w : sm_W} {Q : Option Value → sm_W → Prop} {x0 : Nat} {x1 : Int32} {x2 : Int32} {s0 : Int32} {s1 : Nat} : sm_R X 63 48 [.ref x0, .int x1, .int x2] [.int s0, .ref s1] w Q ↔ sm_R X 63 49 [.ref x0, .int x1, .int x2] [.ref x0, .int s0, .ref s1] w Q := sm_R_go d63_48 rfl
theorem d63_49 : decode (sm_code 63) 49 = .ok (.getfield 23, 3) := by decide +kernel
theorem r63_49 {X : sm_X} {w : sm_W} {Q : Option Value → sm_W → Prop} {x0 : Nat} {x1 : Int32} {x2 : Int32} {s0 : Nat} {s1 : Int32} {s2 : Nat} : sm_R X 63 49 [.ref x0, .int x1, .int x2] [.ref s0, .int s1, .ref s2] w Q ↔ sm_wp (sm_fld 7 4 (sm_at w s0)) (fun v => sm_R X 63 52 [.ref x0, .int x1, .int x2] [v, .int s1, .ref s2] w Q) := sm_q_getf d63_49 rfl (by decide)
theorem d63_52 : decode (sm_code 63) 52 = .ok (.iconst 4, 1) := by decide +kernel
theorem r63_52 {X : sm_X} {w : sm_W} {Q : Option Value → sm_W → Prop} {x0 : Nat} {x1 : Int32} {x2 : Int32} {s0 : Nat} {s1 : Int32} {s2 : Nat} : sm_R X 63 52 [.ref x0, .int x1, .int x2] [.ref s0, .int s1, .ref s2] w Q ↔ sm_R X 63 53 [.ref x0, .int x1, .int x2] [.int 4, .ref s0, .int s1, .ref s2] w Q := sm_R_go d63_52 rfl
theorem d63_53 : decode (sm_code 63) 53 = .ok (.iaload, 1) := by decide +kernel
theorem r63_53 {X : sm_X} {w : sm_W} {Q : Option Value → sm_W → Prop} {x0 : Nat} {x1 : Int32} {x2 : Int32} {s0 : Int32} {s1 : Nat} {s2 : Int32} {s3 : Nat} : sm_R X 63 53 [.ref x0, .int x1, .int x2] [.int s0, .ref s1, .int s2, .ref s3] w Q ↔ sm_wp (sm_ai s0 (sm_get X w s1)) (fun v => sm_R X 63 54 [.ref x0, .int x1, .int x2] [.int v, .int s2, .ref s3] w Q) := sm_q_iald d63_53
theorem d63_54 : decode (sm_code 63) 54 = .ok (.iadd, 1) := by decide +kernel
theorem r63_54 {X : sm_X} {w : sm_W} {Q : Option Value → sm_W → Prop} {x0 : Nat} {x1 : Int32} {x2 : Int32} {s0 : Int32} {s1 : Int32} {s2 : Nat} : sm_R X 63 54 [.ref x0, .int x1, .int x2] [.int s0, .int s1, .ref s2] w Q ↔ sm_R X 63 55 [.ref x0, .int x1, .int x2] [.int (s1 + s0), .ref s2] w Q := sm_R_go d63_54 rfl
theorem d63_55 : decode (sm_code 63) 55 = .ok (.iload_n 2, 1) := by decide +kernel
theorem r63_55 {X : sm_X} {w : sm_W} {Q : Option Value → sm_W → Prop} {x0 : Nat} {x1 : Int32} {x2 : Int32} {s0 : Int32} {s1 : Nat} : sm_R X 63 55 [.ref x0, .int x1, .int x2] [.int s0, .ref s1] w Q ↔ sm_R X 63 56 [.ref x0, .int x1, .int x2] [.int x2, .int s0, .ref s1] w Q := sm_R_go d63_55 rfl
theorem d63_56 : decode (sm_code 63) 56 = .ok (.iastore, 1) := by decide +kernel
theorem r63_56 {X : sm_X} {w : sm_W} {Q : Option Value → sm_W → Prop} {x0 : Nat} {x1 : Int32} {x2 : Int32} {s0 : Int32} {s1 : Int32} {s2 : Nat} : sm_R X 63 56 [.ref x0, .int x1, .int x2] [.int s0, .int s1, .ref s2] w Q ↔ sm_wp (sm_si s1 s0 (sm_at w s2)) (fun c => sm_R X 63 57 [.ref x0, .int x1, .int x2] [] (w.set (s2 - 100) c) Q) := sm_q_iast d63_56
theorem d63_57 : decode (sm_code 63) 57 = .ok (.aload_n 0, 1) := by decide +kernel
theorem r63_57 {X : sm_X} {w : sm_W} {Q : Option Value → sm_W → Prop} {x0 : Nat} {x1 : Int32} {x2 : Int32} : sm_R X 63 57 [.ref x0, .int x1, .int x2] [] w Q ↔ sm_R X 63 58 [.ref x0, .int x1, .int x2] [.ref x0] w Q := sm_R_go d63_57 rfl
theorem d63_58 : decode (sm_code 63) 58 = .ok (.getfield 23, 3) := by decide +kernel
theorem r63_58 {X : sm_X} {w : sm_W} {Q : Option Value → sm_W → Prop} {x0 : Nat} {x1 : Int32} {x2 : Int32} {s0 : Nat} : sm_R X 63 58 [.ref x0, .int x1, .int x2] [.ref s0] w Q ↔ sm_wp (sm_fld 7 4 (sm_at w s0)) (fun v => sm_R X 63 61 [.ref x0, .int x1, .int x2] [v] w Q) := sm_q_getf d63_58 rfl (by decide)
theorem d63_61 : decode (sm_code 63) 61 = .ok (.iconst 4, 1) := by decide +kernel
theorem r63_61 {X : sm_X} {w : sm_W} {Q : Option Value → sm_W → Prop} {x0 : Nat} {x1 : Int32} {x2 : Int32} {s0 : Nat} : sm_R X 63 61 [.ref x0, .int x1, .int x2] [.ref s0] w Q ↔ sm_R X 63 62 [.ref x0, .int x1, .int x2] [.int 4, .ref s0] w Q := sm_R_go d63_61 rfl
theorem d63_62 : decode (sm_code 63) 62 = .ok (.dup2, 1) := by decide +kernel
theorem r63_62 {X : sm_X} {w : sm_W} {Q : Option Value → sm_W → Prop} {x0 : Nat} {x1 : Int32} {x2 : Int32} {s0 : Int32} {s1 : Nat} : sm_R X 63 62 [.ref x0, .int x1, .int x2] [.int s0, .ref s1] w Q ↔ sm_R X 63 63 [.ref x0, .int x1, .int x2] [.int s0, .ref s1, .int s0, .ref s1] w Q := sm_R_go d63_62 rfl
theorem d63_63 : decode (sm_code 63) 63 = .ok (.iaload, 1) := by decide +kernel
theorem r63_63 {X : sm_X} {w : sm_W} {Q : Option Value → sm_W → Prop} {x0 : Nat} {x1 : Int32} {x2 : Int32} {s0 : Int32} {s1 : Nat} {s2 : Int32} {s3 : Nat} : sm_R X 63 63 [.ref x0, .int x1, .int x2] [.int s0, .ref s1, .int s2, .ref s3] w Q ↔ sm_wp (sm_ai s0 (sm_get X w s1)) (fun v => sm_R X 63 64 [.ref x0, .int x1, .int x2] [.int v, .int s2, .ref s3] w Q) := sm_q_iald d63_63
theorem d63_64 : decode (sm_code 63) 64 = .ok (.iconst 1, 1) := by decide +kernel
theorem r63_64 {X : sm_X} {w : sm_W} {Q : Option Value → sm_W → Prop} {x0 : Nat} {x1 : Int32} {x2 : Int32} {s0 : Int32} {s1 : Int32} {s2 : Nat} : sm_R X 63 64 [.ref x0, .int x1, .int x2] [.int s0, .int s1, .ref s2] w Q ↔ sm_R X 63 65 [.ref x0, .int x1, .int x2] [.int 1, .int s0, .int s1, .ref s2] w Q := sm_R_go d63_64 rfl
theorem d63_65 : decode (sm_code 63) 65 = .ok (.iadd, 1) := by decide +kernel
theorem r63_65 {X : sm_X} {w : sm_W} {Q : Option Value → sm_W → Prop} {x0 : Nat} {x1 : Int32} {x2 : Int32} {s0 : Int32} {s1 : Int32} {s2 : Int32} {s3 : Nat} : sm_R X 63 65 [.ref x0, .int x1, .int x2] [.int s0, .int s1, .int s2, .ref s3] w Q ↔ sm_R X 63 66 [.ref x0, .int x1, .int x2] [.int (s1 + s0), .int s2, .ref s3] w Q := sm_R_go d63_65 rfl
theorem d63_66 : decode (sm_code 63) 66 = .ok (.iastore, 1) := by decide +kernel
theorem r63_66 {X : sm_X} {w : sm_W} {Q : Option Value → sm_W → Prop} {x0 : Nat} {x1 : Int32} {x2 : Int32} {s0 : Int32} {s1 : Int32} {s2 : Nat} : sm_R X 63 66 [.ref x0, .int x1, .int x2] [.int s0, .int s1, .ref s2] w Q ↔ sm_wp (sm_si s1 s0 (sm_at w s2)) (fun c => sm_R X 63 67 [.ref x0, .int x1, .int x2] [] (w.set (s2 - 100) c) Q) := sm_q_iast d63_66
theorem d63_67 : decode (sm_code 63) 67 = .ok (.aload_n 0, 1) := by decide +kernel
theorem r63_67 {X : sm_X} {w : sm_W} {Q : Option Value → sm_W → Prop} {x0 : Nat} {x1 : Int32} {x2 : Int32} : sm_R X 63 67 [.ref x0, .int x1, .int x2] [] w Q ↔ sm_R X 63 68 [.ref x0, .int x1, .int x2] [.ref x0] w Q := sm_R_go d63_67 rfl
theorem d63_68 : decode (sm_code 63) 68 = .ok (.getfield 23, 3) := by decide +kernel
theorem r63_68 {X : sm_X} {w : sm_W} {Q : Option Value → sm_W → Prop} {x0 : Nat} {x1 : Int32} {x2 : Int32} {s0 : Nat} : sm_R X 63 68 [.ref x0, .int x1, .int x2] [.ref s0] w Q ↔ sm_wp (sm_fld 7 4 (sm_at w s0)) (fun v => sm_R X 63 71 [.ref x0, .int x1, .int x2] [v] w Q) := sm_q_getf d63_68 rfl (by decide)
theorem d63_71 : decode (sm_code 63) 71 = .ok (.iconst 4, 1) := by decide +kernel
theorem r63_71 {X : sm_X} {w : sm_W} {Q : Option Value → sm_W → Prop} {x0 : Nat} {x1 : Int32} {x2 : Int32} {s0 : Nat} : sm_R X 63 71 [.ref x0, .int x1, .int x2] [.ref s0] w Q ↔ sm_R X 63 72 [.ref x0, .int x1, .int x2] [.int 4, .ref s0] w Q := sm_R_go d63_71 rfl
theorem d63_72 : decode (sm_code 63) 72 = .ok (.iaload, 1) := by decide +kernel
theorem r63_72 {X : sm_X} {w : sm_W} {Q : Option Value → sm_W → Prop} {x0 : Nat} {x1 : Int32} {x2 : Int32} {s0 : Int32} {s1 : Nat} : sm_R X 63 72 [.ref x0, .int x1, .int x2] [.int s0, .ref s1] w Q ↔ sm_wp (sm_ai s0 (sm_get X w s1)) (fun v => sm_R X 63 73 [.ref x0, .int x1, .int x2] [.int v] w Q) := sm_q_iald d63_72
theorem d63_73 : decode (sm_code 63) 73 = .ok (.iconst 1, 1) := by decide +kernel
theorem r63_73 {X : sm_X} {w : sm_W} {Q : Option Value → sm_W → Prop} {x0 : Nat} {x1 : Int32} {x2 : Int32} {s0 : Int32} : sm_R X 63 73 [.ref x0, .int x1, .int x2] [.int s0] w Q ↔ sm_R X 63 74 [.ref x0, .int x1, .int x2] [.int 1, .int s0] w Q := sm_R_go d63_73 rfl
theorem d63_74 : decode (sm_code 63) 74 = .ok (.isub, 1) := by decide +kernel
theorem r63_74 {X : sm_X} {w : sm_W} {Q : Option Value → sm_W → Prop} {x0 : Nat} {x1 : Int32} {x2 : Int32} {s0 : Int32} {s1 : Int32} : sm_R X 63 74 [.ref x0, .int x1, .int x2] [.int s0, .int s1] w Q ↔ sm_R X 63 75 [.ref x0, .int x1, .int x2] [.int (s1 - s0)] w Q := sm_R_go d63_74 rfl
theorem d63_75 : decode (sm_code 63) 75 = .ok (.ireturn, 1) := by decide +kernel
theorem r63_75 {X : sm_X} {w : sm_W} {Q : Option Value → sm_W → Prop} {x0 : Nat} {x1 : Int32} {x2 : Int32} {s0 : Int32} : sm_R X 63 75 [.ref x0, .int x1, .int x2] [.int s0] w Q ↔ Q (some (.int s0)) w := sm_q_iret d63_75 rfl
-- GroupLedgerModel.fits(II)Z
theorem d64_0 : decode (sm_code 64) 0 = .ok (.aload_n 0, 1) := by decide +kernel
theorem r64_0 {X : sm_X} {w : sm_W} {Q : Option Value → sm_W → Prop} {x0 : Nat} {x1 : Int32} {x2 : Int32} : sm_R X 64 0 [.ref x0, .int x1, .int x2] [] w Q ↔ sm_R X 64 1 [.ref x0, .int x1, .int x2] [.ref x0] w Q := sm_R_go d64_0 rfl
theorem d64_1 : decode (sm_code 64) 1 = .ok (.iload_n 1, 1) := by decide +kernel
theorem r64_1 {X : sm_X} {w : sm_W} {Q : Option Value → sm_W → Prop} {x0 : Nat} {x1 : Int32} {x2 : Int32} {s0 : Nat} : sm_R X 64 1 [.ref x0, .int x1, .int x2] [.ref s0] w Q ↔ sm_R X 64 2 [.ref x0, .int x1, .int x2] [.int x1, .ref s0] w Q := sm_R_go d64_1 rfl
theorem d64_2 : decode (sm_code 64) 2 = .ok (.iconst 0, 1) := by decide +kernel
theorem r64_2 {X : sm_X} {w : sm_W} {Q : Option Value → sm_W → Prop} {x0 : Nat} {x1 : Int32} {x2 : Int32} {s0 : Int32} {s1 : Nat} : sm_R X 64 2 [.ref x0, .int x1, .int x2] [.int s0, .ref s1] w Q ↔ sm_R X 64 3 [.ref x0, .int x1, .int x2] [.int 0, .int s0, .ref s1] w Q := sm_R_go d64_2 rfl
theorem d64_3 : decode (sm_code 64) 3 = .ok (.bipush 30, 2) := by decide +kernel
theorem r64_3 {X : sm_X} {w : sm_W} {Q : Option Value → sm_W → Prop} {x0 : Nat} {x1 : Int32} {x2 : Int32} {s0 : Int32} {s1 : Int32} {s2 : Nat} : sm_R X 64 3 [.ref x0, .int x1, .int x2] [.int s0, .int s1, .ref s2] w Q ↔ sm_R X 64 5 [.ref x0, .int x1, .int x2] [.int 30, .int s0, .int s1, .ref s2] w Q := sm_R_go d64_3 rfl
theorem d64_5 : decode (sm_code 64) 5 = .ok (.invokevirtual 90, 3) := by decide +kernel
theorem r64_5 {X : sm_X} {w : sm_W} {Q : Option Value → sm_W → Prop} {x0 : Nat} {x1 : Int32} {x2 : Int32} {s0 : Int32} {s1 : Int32} {s2 : Int32} {s3 : Nat} : sm_R X 64 5 [.ref x0, .int x1, .int x2] [.int s0, .int s1, .int s2, .ref s3] w Q ↔ (sm_cN (sm_at w s3) = some 7 ∧ sm_R X 62 0 [.ref s3, .int s2, .int s1, .int s0] [] w (fun v w => sm_R X 64 8 [.ref x0, .int x1, .int x2] (v.toList ++ []) w Q)) := sm_q_vir (k := 62) (as := [.ref s3, .int s2, .int s1, .int s0]) (rest := []) d64_5 rfl rfl rfl rfl rfl
theorem d64_8 : decode (sm_code 64) 8 = .ok (.ifCond .ne 5, 3) := by decide +kernel
theorem r64_8 {X : sm_X} {w : sm_W} {Q : Option Value → sm_W → Prop} {x0 : Nat} {x1 : Int32} {x2 : Int32} {s0 : Int32} : sm_R X 64 8 [.ref x0, .int x1, .int x2] [.int s0] w Q ↔ (if s0 = 0 then sm_R X 64 11 [.ref x0, .int x1, .int x2] [] w Q else sm_R X 64 13 [.ref x0, .int x1, .int x2] [] w Q) := sm_q_br d64_8 rfl
theorem d64_11 : decode (sm_code 64) 11 = .ok (.iconst 0, 1) := by decide +kernel
theorem r64_11 {X : sm_X} {w : sm_W} {Q : Option Value → sm_W → Prop} {x0 : Nat} {x1 : Int32} {x2 : Int32} : sm_R X 64 11 [.ref x0, .int x1, .int x2] [] w Q ↔ sm_R X 64 12 [.ref x0, .int x1, .int x2] [.int 0] w Q := sm_R_go d64_11 rfl
theorem d64_12 : decode (sm_code 64) 12 = .ok (.ireturn, 1) := by decide +kernel
theorem r64_12 {X : sm_X} {w : sm_W} {Q : Option Value → sm_W → Prop} {x0 : Nat} {x1 : Int32} {x2 : Int32} {s0 : Int32} (h : s0 = 0 ∨ s0 = 1) : sm_R X 64 12 [.ref x0, .int x1, .int x2] [.int s0] w Q ↔ Q (some (.int s0)) w := sm_q_zret d64_12 rfl h
theorem d64_13 : decode (sm_code 64) 13 = .ok (.iload_n 1, 1) := by decide +kernel
theorem r64_13 {X : sm_X} {w : sm_W} {Q : Option Value → sm_W → Prop} {x0 : Nat} {x1 : Int32} {x2 : Int32} : sm_R X 64 13 [.ref x0, .int x1, .int x2] [] w Q ↔ sm_R X 64 14 [.ref x0, .int x1, .int x2] [.int x1] w Q := sm_R_go d64_13 rfl
theorem d64_14 : decode (sm_code 64) 14 = .ok (.ifCond .ne 13, 3) := by decide +kernel
theorem r64_14 {X : sm_X} {w : sm_W} {Q : Option Value → sm_W → Prop} {x0 : Nat} {x1 : Int32} {x2 : Int32} {s0 : Int32} : sm_R X 64 14 [.ref x0, .int x1, .int x2] [.int s0] w Q ↔ (if s0 = 0 then sm_R X 64 17 [.ref x0, .int x1, .int x2] [] w Q else sm_R X 64 27 [.ref x0, .int x1, .int x2] [] w Q) := sm_q_br d64_14 rfl
theorem d64_17 : decode (sm_code 64) 17 = .ok (.iload_n 2, 1) := by decide +kernel
theorem r64_17 {X : sm_X} {w : sm_W} {Q : Option Value → sm_W → Prop} {x0 : Nat} {x1 : Int32} {x2 : Int32} : sm_R X 64 17 [.ref x0, .int x1, .int x2] [] w Q ↔ sm_R X 64 18 [.ref x0, .int x1, .int x2] [.int x2] w Q := sm_R_go d64_17 rfl
theorem d64_18 : decode (sm_code 64) 18 = .ok (.ifCond .lt 7, 3) := by decide +kernel
theorem r64_18 {X : sm_X} {w : sm_W} {Q : Option Value → sm_W → Prop} {x0 : Nat} {x1 : Int32} {x2 : Int32} {s0 : Int32} : sm_R X 64 18 [.ref x0, .int x1, .int x2] [.int s0] w Q ↔ (if s0 < 0 then sm_R X 64 25 [.ref x0, .int x1, .int x2] [] w Q else sm_R X 64 21 [.ref x0, .int x1, .int x2] [] w Q) := sm_q_br d64_18 rfl
theorem d64_21 : decode (sm_code 64) 21 = .ok (.iconst 1, 1) := by decide +kernel
theorem r64_21 {X : sm_X} {w : sm_W} {Q : Option Value → sm_W → Prop} {x0 : Nat} {x1 : Int32} {x2 : Int32} : sm_R X 64 21 [.ref x0, .int x1, .int x2] [] w Q ↔ sm_R X 64 22 [.ref x0, .int x1, .int x2] [.int 1] w Q := sm_R_go d64_21 rfl
theorem d64_22 : decode (sm_code 64) 22 = .ok (.goto 4, 3) := by decide +kernel
theorem r64_22 {X : sm_X} {w : sm_W} {Q : Option Value → sm_W → Prop} {x0 : Nat} {x1 : Int32} {x2 : Int32} {s0 : Int32} : sm_R X 64 22 [.ref x0, .int x1, .int x2] [.int s0] w Q ↔ sm_R X 64 26 [.ref x0, .int x1, .int x2] [.int s0] w Q := sm_R_go d64_22 rfl
theorem d64_25 : decode (sm_code 64) 25 = .ok (.iconst 0, 1) := by decide +kernel
theorem r64_25 {X : sm_X} {w : sm_W} {Q : Option Value → sm_W → Prop} {x0 : Nat} {x1 : Int32} {x2 : Int32} : sm_R X 64 25 [.ref x0, .int x1, .int x2] [] w Q ↔ sm_R X 64 26 [.ref x0, .int x1, .int x2] [.int 0] w Q := sm_R_go d64_25 rfl
theorem d64_26 : decode (sm_code 64) 26 = .ok (.ireturn, 1) := by decide +kernel
theorem r64_26 {X : sm_X} {w : sm_W} {Q : Option Value → sm_W → Prop} {x0 : Nat} {x1 : Int32} {x2 : Int32} {s0 : Int32} (h : s0 = 0 ∨ s0 = 1) : sm_R X 64 26 [.ref x0, .int x1, .int x2] [.int s0] w Q ↔ Q (some (.int s0)) w := sm_q_zret d64_26 rfl h
theorem d64_27 : decode (sm_code 64) 27 = .ok (.iload_n 1, 1) := by decide +kernel
theorem r64_27 {X : sm_X} {w : sm_W} {Q : Option Value → sm_W → Prop} {x0 : Nat} {x1 : Int32} {x2 : Int32} : sm_R X 64 27 [.ref x0, .int x1, .int x2] [] w Q ↔ sm_R X 64 28 [.ref x0, .int x1, .int x2] [.int x1] w Q := sm_R_go d64_27 rfl
theorem d64_28 : decode (sm_code 64) 28 = .ok (.iconst 1, 1) := by decide +kernel
theorem r64_28 {X : sm_X} {w : sm_W} {Q : Option Value → sm_W → Prop} {x0 : Nat} {x1 : Int32} {x2 : Int32} {s0 : Int32} : sm_R X 64 28 [.ref x0, .int x1, .int x2] [.int s0] w Q ↔ sm_R X 64 29 [.ref x0, .int x1, .int x2] [.int 1, .int s0] w Q := sm_R_go d64_28 rfl
theorem d64_29 : decode (sm_code 64) 29 = .ok (.if_icmp .ne 11, 3) := by decide +kernel
theorem r64_29 {X : sm_X} {w : sm_W} {Q : Option Value → sm_W → Prop} {x0 : Nat} {x1 : Int32} {x2 : Int32} {s0 : Int32} {s1 : Int32} : sm_R X 64 29 [.ref x0, .int x1, .int x2] [.int s0, .int s1] w Q ↔ (if s1 = s0 then sm_R X 64 32 [.ref x0, .int x1, .int x2] [] w Q else sm_R X 64 40 [.ref x0, .int x1, .int x2] [] w Q) := sm_q_br d64_29 rfl
theorem d64_32 : decode (sm_code 64) 32 = .ok (.aload_n 0, 1) := by decide +kernel
theorem r64_32 {X : sm_X} {w : sm_W} {Q : Option Value → sm_W → Prop} {x0 : Nat} {x1 : Int32} {x2 : Int32} : sm_R X 64 32 [.ref x0, .int x1, .int x2] [] w Q ↔ sm_R X 64 33 [.ref x0, .int x1, .int x2] [.ref x0] w Q := sm_R_go d64_32 rfl
theorem d64_33 : decode (sm_code 64) 33 = .ok (.iload_n 2, 1) := by decide +kernel
theorem r64_33 {X : sm_X} {w : sm_W} {Q : Option Value → sm_W → Prop} {x0 : Nat} {x1 : Int32} {x2 : Int32} {s0 : Nat} : sm_R X 64 33 [.ref x0, .int x1, .int x2] [.ref s0] w Q ↔ sm_R X 64 34 [.ref x0, .int x1, .int x2] [.int x2, .ref s0] w Q := sm_R_go d64_33 rfl
theorem d64_34 : decode (sm_code 64) 34 = .ok (.iconst 0, 1) := by decide +kernel
theorem r64_34 {X : sm_X} {w : sm_W} {Q : Option Value → sm_W → Prop} {x0 : Nat} {x1 : Int32} {x2 : Int32} {s0 : Int32} {s1 : Nat} : sm_R X 64 34 [.ref x0, .int x1, .int x2] [.int s0, .ref s1] w Q ↔ sm_R X 64 35 [.ref x0, .int x1, .int x2] [.int 0, .int s0, .ref s1] w Q := sm_R_go d64_34 rfl
theorem d64_35 : decode (sm_code 64) 35 = .ok (.iconst 5, 1) := by decide +kernel
theorem r64_35 {X : sm_X} {w : sm_W} {Q : Option Value → sm_W → Prop} {x0 : Nat} {x1 : Int32} {x2 : Int32} {s0 : Int32} {s1 : Int32} {s2 : Nat} : sm_R X 64 35 [.ref x0, .int x1, .int x2] [.int s0, .int s1, .ref s2] w Q ↔ sm_R X 64 36 [.ref x0, .int x1, .int x2] [.int 5, .int s0, .int s1, .ref s2] w Q := sm_R_go d64_35 rfl
theorem d64_36 : decode (sm_code 64) 36 = .ok (.invokevirtual 90, 3) := by decide +kernel
theorem r64_36 {X : sm_X} {w : sm_W} {Q : Option Value → sm_W → Prop} {x0 : Nat} {x1 : Int32} {x2 : Int32} {s0 : Int32} {s1 : Int32} {s2 : Int32} {s3 : Nat} : sm_R X 64 36 [.ref x0, .int x1, .int x2] [.int s0, .int s1, .int s2, .ref s3] w Q ↔ (sm_cN (sm_at w s3) = some 7 ∧ sm_R X 62 0 [.ref s3, .int s2, .int s1, .int s0] [] w (fun v w => sm_R X 64 39 [.ref x0, .int x1, .int x2] (v.toList ++ []) w Q)) := sm_q_vir (k := 62) (as := [.ref s3, .int s2, .int s1, .int s0]) (rest := []) d64_36 rfl rfl rfl rfl rfl
theorem d64_39 : decode (sm_code 64) 39 = .ok (.ireturn, 1) := by decide +kernel
theorem r64_39 {X : sm_X} {w : sm_W} {Q : Option Value → sm_W → Prop} {x0 : Nat} {x1 : Int32} {x2 : Int32} {s0 : Int32} (h : s0 = 0 ∨ s0 = 1) : sm_R X 64 39 [.ref x0, .int x1, .int x2] [.int s0] w Q ↔ Q (some (.int s0)) w := sm_q_zret d64_39 rfl h
theorem d64_40 : decode (sm_code 64) 40 = .ok (.iload_n 1, 1) := by decide +kernel
theorem r64_40 {X : sm_X} {w : sm_W} {Q : Option Value → sm_W → Prop} {x0 : Nat} {x1 : Int32} {x2 : Int32} : sm_R X 64 40 [.ref x0, .int x1, .int x2] [] w Q ↔ sm_R X 64 41 [.ref x0, .int x1, .int x2] [.int x1] w Q := sm_R_go d64_40 rfl
theorem d64_41 : decode (sm_code 64) 41 = .ok (.iconst 2, 1) := by decide +kernel
theorem r64_41 {X : sm_X} {w : sm_W} {Q : Option Value → sm_W → Prop} {x0 : Nat} {x1 : Int32} {x2 : Int32} {s0 : Int32} : sm_R X 64 41 [.ref x0, .int x1, .int x2] [.int s0] w Q ↔ sm_R X 64 42 [.ref x0, .int x1, .int x2] [.int 2, .int s0] w Q := sm_R_go d64_41 rfl
theorem d64_42 : decode (sm_code 64) 42 = .ok (.if_icmp .eq 15, 3) := by decide +kernel
theorem r64_42 {X : sm_X} {w : sm_W} {Q : Option Value → sm_W → Prop} {x0 : Nat} {x1 : Int32} {x2 : Int32} {s0 : Int32} {s1 : Int32} : sm_R X 64 42 [.ref x0, .int x1, .int x2] [.int s0, .int s1] w Q ↔ (if s1 = s0 then sm_R X 64 57 [.ref x0, .int x1, .int x2] [] w Q else sm_R X 64 45 [.ref x0, .int x1, .int x2] [] w Q) := sm_q_br d64_42 rfl
theorem d64_45 : decode (sm_code 64) 45 = .ok (.iload_n 1, 1) := by decide +kernel
theorem r64_45 {X : sm_X} {w : sm_W} {Q : Option Value → sm_W → Prop} {x0 : Nat} {x1 : Int32} {x2 : Int32} : sm_R X 64 45 [.ref x0, .int x1, .int x2] [] w Q ↔ sm_R X 64 46 [.ref x0, .int x1, .int x2] [.int x1] w Q := sm_R_go d64_45 rfl
theorem d64_46 : decode (sm_code 64) 46 = .ok (.bipush 23, 2) := by decide +kernel
theorem r64_46 {X : sm_X} {w : sm_W} {Q : Option Value → sm_W → Prop} {x0 : Nat} {x1 : Int32} {x2 : Int32} {s0 : Int32} : sm_R X 64 46 [.ref x0, .int x1, .int x2] [.int s0] w Q ↔ sm_R X 64 48 [.ref x0, .int x1, .int x2] [.int 23, .int s0] w Q := sm_R_go d64_46 rfl
theorem d64_48 : decode (sm_code 64) 48 = .ok (.if_icmp .eq 9, 3) := by decide +kernel
theorem r64_48 {X : sm_X} {w : sm_W} {Q : Option Value → sm_W → Prop} {x0 : Nat} {x1 : Int32} {x2 : Int32} {s0 : Int32} {s1 : Int32} : sm_R X 64 48 [.ref x0, .int x1, .int x2] [.int s0, .int s1] w Q ↔ (if s1 = s0 then sm_R X 64 57 [.ref x0, .int x1, .int x2] [] w Q else sm_R X 64 51 [.ref x0, .int x1, .int x2] [] w Q) := sm_q_br d64_48 rfl
theorem d64_51 : decode (sm_code 64) 51 = .ok (.iload_n 1, 1) := by decide +kernel
theorem r64_51 {X : sm_X} {w : sm_W} {Q : Option Value → sm_W → Prop} {x0 : Nat} {x1 : Int32} {x2 : Int32} : sm_R X 64 51 [.ref x0, .int x1, .int x2] [] w Q ↔ sm_R X 64 52 [.ref x0, .int x1, .int x2] [.int x1] w Q := sm_R_go d64_51 rfl
theorem d64_52 : decode (sm_code 64) 52 = .ok (.bipush 24, 2) := by decide +kernel
theorem r64_52 {X : sm_X} {w : sm_W} {Q : Option Value → sm_W → Prop} {x0 : Nat} {x1 : Int32} {x2 : Int32} {s0 : Int32} : sm_R X 64 52 [.ref x0, .int x1, .int x2] [.int s0] w Q ↔ sm_R X 64 54 [.ref x0, .int x1, .int x2] [.int 24, .int s0] w Q := sm_R_go d64_52 rfl
theorem d64_54 : decode (sm_code 64) 54 = .ok (.if_icmp .ne 11, 3) := by decide +kernel
theorem r64_54 {X : sm_X} {w : sm_W} {Q : Option Value → sm_W → Prop} {x0 : Nat} {x1 : Int32} {x2 : Int32} {s0 : Int32} {s1 : Int32} : sm_R X 64 54 [.ref x0, .int x1, .int x2] [.int s0, .int s1] w Q ↔ (if s1 = s0 then sm_R X 64 57 [.ref x0, .int x1, .int x2] [] w Q else sm_R X 64 65 [.ref x0, .int x1, .int x2] [] w Q) := sm_q_br d64_54 rfl
theorem d64_57 : decode (sm_code 64) 57 = .ok (.aload_n 0, 1) := by decide +kernel
theorem r64_57 {X : sm_X} {w : sm_W} {Q : Option Value → sm_W → Prop} {x0 : Nat} {x1 : Int32} {x2 : Int32} : sm_R X 64 57 [.ref x0, .int x1, .int x2] [] w Q ↔ sm_R X 64 58 [.ref x0, .int x1, .int x2] [.ref x0] w Q := sm_R_go d64_57 rfl
theorem d64_58 : decode (sm_code 64) 58 = .ok (.iload_n 2, 1) := by decide +kernel
theorem r64_58 {X : sm_X} {w : sm_W} {Q : Option Value → sm_W → Prop} {x0 : Nat} {x1 : Int32} {x2 : Int32} {s0 : Nat} : sm_R X 64 58 [.ref x0, .int x1, .int x2] [.ref s0] w Q ↔ sm_R X 64 59 [.ref x0, .int x1, .int x2] [.int x2, .ref s0] w Q := sm_R_go d64_58 rfl
theorem d64_59 : decode (sm_code 64) 59 = .ok (.iconst 0, 1) := by decide +kernel
theorem r64_59 {X : sm_X} {w : sm_W} {Q : Option Value → sm_W → Prop} {x0 : Nat} {x1 : Int32} {x2 : Int32} {s0 : Int32} {s1 : Nat} : sm_R X 64 59 [.ref x0, .int x1, .int x2] [.int s0, .ref s1] w Q ↔ sm_R X 64 60 [.ref x0, .int x1, .int x2] [.int 0, .int s0, .ref s1] w Q := sm_R_go d64_59 rfl
theorem d64_60 : decode (sm_code 64) 60 = .ok (.iconst 1, 1) := by decide +kernel
theorem r64_60 {X : sm_X} {w : sm_W} {Q : Option Value → sm_W → Prop} {x0 : Nat} {x1 : Int32} {x2 : Int32} {s0 : Int32} {s1 : Int32} {s2 : Nat} : sm_R X 64 60 [.ref x0, .int x1, .int x2] [.int s0, .int s1, .ref s2] w Q ↔ sm_R X 64 61 [.ref x0, .int x1, .int x2] [.int 1, .int s0, .int s1, .ref s2] w Q := sm_R_go d64_60 rfl
theorem d64_61 : decode (sm_code 64) 61 = .ok (.invokevirtual 90, 3) := by decide +kernel
theorem r64_61 {X : sm_X} {w : sm_W} {Q : Option Value → sm_W → Prop} {x0 : Nat} {x1 : Int32} {x2 : Int32} {s0 : Int32} {s1 : Int32} {s2 : Int32} {s3 : Nat} : sm_R X 64 61 [.ref x0, .int x1, .int x2] [.int s0, .int s1, .int s2, .ref s3] w Q ↔ (sm_cN (sm_at w s3) = some 7 ∧ sm_R X 62 0 [.ref s3, .int s2, .int s1, .int s0] [] w (fun v w => sm_R X 64 64 [.ref x0, .int x1, .int x2] (v.toList ++ []) w Q)) := sm_q_vir (k := 62) (as := [.ref s3, .int s2, .int s1, .int s0]) (rest := []) d64_61 rfl rfl rfl rfl rfl
theorem d64_64 : decode (sm_code 64) 64 = .ok (.ireturn, 1) := by decide +kernel
theorem r64_64 {X : sm_X} {w : sm_W} {Q : Option Value → sm_W → Prop} {x0 : Nat} {x1 : Int32} {x2 : Int32} {s0 : Int32} (h : s0 = 0 ∨ s0 = 1) : sm_R X 64 64 [.ref x0, .int x1, .int x2] [.int s0] w Q ↔ Q (some (.int s0)) w := sm_q_zret d64_64 rfl h
theorem d64_65 : decode (sm_code 64) 65 = .ok (.iload_n 1, 1) := by decide +kernel
theorem r64_65 {X : sm_X} {w : sm_W} {Q : Option Value → sm_W → Prop} {x0 : Nat} {x1 : Int32} {x2 : Int32} : sm_R X 64 65 [.ref x0, .int x1, .int x2] [] w Q ↔ sm_R X 64 66 [.ref x0, .int x1, .int x2] [.int x1] w Q := sm_R_go d64_65 rfl
theorem d64_66 : decode (sm_code 64) 66 = .ok (.bipush 18, 2) := by decide +kernel
theorem r64_66 {X : sm_X} {w : sm_W} {Q : Option Value → sm_W → Prop} {x0 : Nat} {x1 : Int32} {x2 : Int32} {s0 : Int32} : sm_R X 64 66 [.ref x0, .int x1, .int x2] [.int s0] w Q ↔ sm_R X 64 68 [.ref x0, .int x1, .int x2] [.int 18, .int s0] w Q := sm_R_go d64_66 rfl
theorem d64_68 : decode (sm_code 64) 68 = .ok (.if_icmp .eq 9, 3) := by decide +kernel
theorem r64_68 {X : sm_X} {w : sm_W} {Q : Option Value → sm_W → Prop} {x0 : Nat} {x1 : Int32} {x2 : Int32} {s0 : Int32} {s1 : Int32} : sm_R X 64 68 [.ref x0, .int x1, .int x2] [.int s0, .int s1] w Q ↔ (if s1 = s0 then sm_R X 64 77 [.ref x0, .int x1, .int x2] [] w Q else sm_R X 64 71 [.ref x0, .int x1, .int x2] [] w Q) := sm_q_br d64_68 rfl
theorem d64_71 : decode (sm_code 64) 71 = .ok (.iload_n 1, 1) := by decide +kernel
theorem r64_71 {X : sm_X} {w : sm_W} {Q : Option Value → sm_W → Prop} {x0 : Nat} {x1 : Int32} {x2 : Int32} : sm_R X 64 71 [.ref x0, .int x1, .int x2] [] w Q ↔ sm_R X 64 72 [.ref x0, .int x1, .int x2] [.int x1] w Q := sm_R_go d64_71 rfl
theorem d64_72 : decode (sm_code 64) 72 = .ok (.bipush 19, 2) := by decide +kernel
theorem r64_72 {X : sm_X} {w : sm_W} {Q : Option Value → sm_W → Prop} {x0 : Nat} {x1 : Int32} {x2 : Int32} {s0 : Int32} : sm_R X 64 72 [.ref x0, .int x1, .int x2] [.int s0] w Q ↔ sm_R X 64 74 [.ref x0, .int x1, .int x2] [.int 19, .int s0] w Q := sm_R_go d64_72 rfl
theorem d64_74 : decode (sm_code 64) 74 = .ok (.if_icmp .ne 12, 3) := by decide +kernel
theorem r64_74 {X : sm_X} {w : sm_W} {Q : Option Value → sm_W → Prop} {x0 : Nat} {x1 : Int32} {x2 : Int32} {s0 : Int32} {s1 : Int32} : sm_R X 64 74 [.ref x0, .int x1, .int x2] [.int s0, .int s1] w Q ↔ (if s1 = s0 then sm_R X 64 77 [.ref x0, .int x1, .int x2] [] w Q else sm_R X 64 86 [.ref x0, .int x1, .int x2] [] w Q) := sm_q_br d64_74 rfl
theorem d64_77 : decode (sm_code 64) 77 = .ok (.aload_n 0, 1) := by decide +kernel
theorem r64_77 {X : sm_X} {w : sm_W} {Q : Option Value → sm_W → Prop} {x0 : Nat} {x1 : Int32} {x2 : Int32} : sm_R X 64 77 [.ref x0, .int x1, .int x2] [] w Q ↔ sm_R X 64 78 [.ref x0, .int x1, .int x2] [.ref x0] w Q := sm_R_go d64_77 rfl
theorem d64_78 : decode (sm_code 64) 78 = .ok (.iload_n 2, 1) := by decide +kernel
theorem r64_78 {X : sm_X} {w : sm_W} {Q : Option Value → sm_W → Prop} {x0 : Nat} {x1 : Int32} {x2 : Int32} {s0 : Nat} : sm_R X 64 78 [.ref x0, .int x1, .int x2] [.ref s0] w Q ↔ sm_R X 64 79 [.ref x0, .int x1, .int x2] [.int x2, .ref s0] w Q := sm_R_go d64_78 rfl
theorem d64_79 : decode (sm_code 64) 79 = .ok (.iconst 0, 1) := by decide +kernel
theorem r64_79 {X : sm_X} {w : sm_W} {Q : Option Value → sm_W → Prop} {x0 : Nat} {x1 : Int32} {x2 : Int32} {s0 : Int32} {s1 : Nat} : sm_R X 64 79 [.ref x0, .int x1, .int x2] [.int s0, .ref s1] w Q ↔ sm_R X 64 80 [.ref x0, .int x1, .int x2] [.int 0, .int s0, .ref s1] w Q := sm_R_go d64_79 rfl
theorem d64_80 : decode (sm_code 64) 80 = .ok (.bipush 31, 2) := by decide +kernel
theorem r64_80 {X : sm_X} {w : sm_W} {Q : Option Value → sm_W → Prop} {x0 : Nat} {x1 : Int32} {x2 : Int32} {s0 : Int32} {s1 : Int32} {s2 : Nat} : sm_R X 64 80 [.ref x0, .int x1, .int x2] [.int s0, .int s1, .ref s2] w Q ↔ sm_R X 64 82 [.ref x0, .int x1, .int x2] [.int 31, .int s0, .int s1, .ref s2] w Q := sm_R_go d64_80 rfl
theorem d64_82 : decode (sm_code 64) 82 = .ok (.invokevirtual 90, 3) := by decide +kernel
theorem r64_82 {X : sm_X} {w : sm_W} {Q : Option Value → sm_W → Prop} {x0 : Nat} {x1 : Int32} {x2 : Int32} {s0 : Int32} {s1 : Int32} {s2 : Int32} {s3 : Nat} : sm_R X 64 82 [.ref x0, .int x1, .int x2] [.int s0, .int s1, .int s2, .ref s3] w Q ↔ (sm_cN (sm_at w s3) = some 7 ∧ sm_R X 62 0 [.ref s3, .int s2, .int s1, .int s0] [] w (fun v w => sm_R X 64 85 [.ref x0, .int x1, .int x2] (v.toList ++ []) w Q)) := sm_q_vir (k := 62) (as := [.ref s3, .int s2, .int s1, .int s0]) (rest := []) d64_82 rfl rfl rfl rfl rfl
theorem d64_85 : decode (sm_code 64) 85 = .ok (.ireturn, 1) := by decide +kernel
theorem r64_85 {X : sm_X} {w : sm_W} {Q : Option Value → sm_W → Prop} {x0 : Nat} {x1 : Int32} {x2 : Int32} {s0 : Int32} (h : s0 = 0 ∨ s0 = 1) : sm_R X 64 85 [.ref x0, .int x1, .int x2] [.int s0] w Q ↔ Q (some (.int s0)) w := sm_q_zret d64_85 rfl h
theorem d64_86 : decode (sm_code 64) 86 = .ok (.iload_n 1, 1) := by decide +kernel
theorem r64_86 {X : sm_X} {w : sm_W} {Q : Option Value → sm_W → Prop} {x0 : Nat} {x1 : Int32} {x2 : Int32} : sm_R X 64 86 [.ref x0, .int x1, .int x2] [] w Q ↔ sm_R X 64 87 [.ref x0, .int x1, .int x2] [.int x1] w Q := sm_R_go d64_86 rfl
theorem d64_87 : decode (sm_code 64) 87 = .ok (.bipush 21, 2) := by decide +kernel
theorem r64_87 {X : sm_X} {w : sm_W} {Q : Option Value → sm_W → Prop} {x0 : Nat} {x1 : Int32} {x2 : Int32} {s0 : Int32} : sm_R X 64 87 [.ref x0, .int x1, .int x2] [.int s0] w Q ↔ sm_R X 64 89 [.ref x0, .int x1, .int x2] [.int 21, .int s0] w Q := sm_R_go d64_87 rfl
theorem d64_89 : decode (sm_code 64) 89 = .ok (.if_icmp .eq 21, 3) := by decide +kernel
theorem r64_89 {X : sm_X} {w : sm_W} {Q : Option Value → sm_W → Prop} {x0 : Nat} {x1 : Int32} {x2 : Int32} {s0 : Int32} {s1 : Int32} : sm_R X 64 89 [.ref x0, .int x1, .int x2] [.int s0, .int s1] w Q ↔ (if s1 = s0 then sm_R X 64 110 [.ref x0, .int x1, .int x2] [] w Q else sm_R X 64 92 [.ref x0, .int x1, .int x2] [] w Q) := sm_q_br d64_89 rfl
theorem d64_92 : decode (sm_code 64) 92 = .ok (.iload_n 1, 1) := by decide +kernel
theorem r64_92 {X : sm_X} {w : sm_W} {Q : Option Value → sm_W → Prop} {x0 : Nat} {x1 : Int32} {x2 : Int32} : sm_R X 64 92 [.ref x0, .int x1, .int x2] [] w Q ↔ sm_R X 64 93 [.ref x0, .int x1, .int x2] [.int x1] w Q := sm_R_go d64_92 rfl
theorem d64_93 : decode (sm_code 64) 93 = .ok (.bipush 22, 2) := by decide +kernel
theorem r64_93 {X : sm_X} {w : sm_W} {Q : Option Value → sm_W → Prop} {x0 : Nat} {x1 : Int32} {x2 : Int32} {s0 : Int32} : sm_R X 64 93 [.ref x0, .int x1, .int x2] [.int s0] w Q ↔ sm_R X 64 95 [.ref x0, .int x1, .int x2] [.int 22, .int s0] w Q := sm_R_go d64_93 rfl
theorem d64_95 : decode (sm_code 64) 95 = .ok (.if_icmp .eq 15, 3) := by decide +kernel
theorem r64_95 {X : sm_X} {w : sm_W} {Q : Option Value → sm_W → Prop} {x0 : Nat} {x1 : Int32} {x2 : Int32} {s0 : Int32} {s1 : Int32} : sm_R X 64 95 [.ref x0, .int x1, .int x2] [.int s0, .int s1] w Q ↔ (if s1 = s0 then sm_R X 64 110 [.ref x0, .int x1, .int x2] [] w Q else sm_R X 64 98 [.ref x0, .int x1, .int x2] [] w Q) := sm_q_br d64_95 rfl
theorem d64_98 : decode (sm_code 64) 98 = .ok (.aload_n 0, 1) := by decide +kernel
theorem r64_98 {X : sm_X} {w : sm_W} {Q : Option Value → sm_W → Prop} {x0 : Nat} {x1 : Int32} {x2 : Int32} : sm_R X 64 98 [.ref x0, .int x1, .int x2] [] w Q ↔ sm_R X 64 99 [.ref x0, .int x1, .int x2] [.ref x0] w Q := sm_R_go d64_98 rfl
theorem d64_99 : decode (sm_code 64) 99 = .ok (.iload_n 1, 1) := by decide +kernel
theorem r64_99 {X : sm_X} {w : sm_W} {Q : Option Value → sm_W → Prop} {x0 : Nat} {x1 : Int32} {x2 : Int32} {s0 : Nat} : sm_R X 64 99 [.ref x0, .int x1, .int x2] [.ref s0] w Q ↔ sm_R X 64 100 [.ref x0, .int x1, .int x2] [.int x1, .ref s0] w Q := sm_R_go d64_99 rfl
theorem d64_100 : decode (sm_code 64) 100 = .ok (.bipush 26, 2) := by decide +kernel
theorem r64_100 {X : sm_X} {w : sm_W} {Q : Option Value → sm_W → Prop} {x0 : Nat} {x1 : Int32} {x2 : Int32} {s0 : Int32} {s1 : Nat} : sm_R X 64 100 [.ref x0, .int x1, .int x2] [.int s0, .ref s1] w Q ↔ sm_R X 64 102 [.ref x0, .int x1, .int x2] [.int 26, .int s0, .ref s1] w Q := sm_R_go d64_100 rfl
theorem d64_102 : decode (sm_code 64) 102 = .ok (.bipush 28, 2) := by decide +kernel
theorem r64_102 {X : sm_X} {w : sm_W} {Q : Option Value → sm_W → Prop} {x0 : Nat} {x1 : Int32} {x2 : Int32} {s0 : Int32} {s1 : Int32} {s2 : Nat} : sm_R X 64 102 [.ref x0, .int x1, .int x2] [.int s0, .int s1, .ref s2] w Q ↔ sm_R X 64 104 [.ref x0, .int x1, .int x2] [.int 28, .int s0, .int s1, .ref s2] w Q := sm_R_go d64_102 rfl
theorem d64_104 : decode (sm_code 64) 104 = .ok (.invokevirtual 90, 3) := by decide +kernel
theorem r64_104 {X : sm_X} {w : sm_W} {Q : Option Value → sm_W → Prop} {x0 : Nat} {x1 : Int32} {x2 : Int32} {s0 : Int32} {s1 : Int32} {s2 : Int32} {s3 : Nat} : sm_R X 64 104 [.ref x0, .int x1, .int x2] [.int s0, .int s1, .int s2, .ref s3] w Q ↔ (sm_cN (sm_at w s3) = some 7 ∧ sm_R X 62 0 [.ref s3, .int s2, .int s1, .int s0] [] w (fun v w => sm_R X 64 107 [.ref x0, .int x1, .int x2] (v.toList ++ []) w Q)) := sm_q_vir (k := 62) (as := [.ref s3, .int s2, .int s1, .int s0]) (rest := []) d64_104 rfl rfl rfl rfl rfl
theorem d64_107 : decode (sm_code 64) 107 = .ok (.ifCond .eq 13, 3) := by decide +kernel
theorem r64_107 {X : sm_X} {w : sm_W} {Q : Option Value → sm_W → Prop} {x0 : Nat} {x1 : Int32} {x2 : Int32} {s0 : Int32} : sm_R X 64 107 [.ref x0, .int x1, .int x2] [.int s0] w Q ↔ (if s0 = 0 then sm_R X 64 120 [.ref x0, .int x1, .int x2] [] w Q else sm_R X 64 110 [.ref x0, .int x1, .int x2] [] w Q) := sm_q_br d64_107 rfl
theorem d64_110 : decode (sm_code 64) 110 = .ok (.aload_n 0, 1) := by decide +kernel
theorem r64_110 {X : sm_X} {w : sm_W} {Q : Option Value → sm_W → Prop} {x0 : Nat} {x1 : Int32} {x2 : Int32} : sm_R X 64 110 [.ref x0, .int x1, .int x2] [] w Q ↔ sm_R X 64 111 [.ref x0, .int x1, .int x2] [.ref x0] w Q := sm_R_go d64_110 rfl
theorem d64_111 : decode (sm_code 64) 111 = .ok (.iload_n 2, 1) := by decide +kernel
theorem r64_111 {X : sm_X} {w : sm_W} {Q : Option Value → sm_W → Prop} {x0 : Nat} {x1 : Int32} {x2 : Int32} {s0 : Nat} : sm_R X 64 111 [.ref x0, .int x1, .int x2] [.ref s0] w Q ↔ sm_R X 64 112 [.ref x0, .int x1, .int x2] [.int x2, .ref s0] w Q := sm_R_go d64_111 rfl
theorem d64_112 : decode (sm_code 64) 112 = .ok (.iconst 0, 1) := by decide +kernel
theorem r64_112 {X : sm_X} {w : sm_W} {Q : Option Value → sm_W → Prop} {x0 : Nat} {x1 : Int32} {x2 : Int32} {s0 : Int32} {s1 : Nat} : sm_R X 64 112 [.ref x0, .int x1, .int x2] [.int s0, .ref s1] w Q ↔ sm_R X 64 113 [.ref x0, .int x1, .int x2] [.int 0, .int s0, .ref s1] w Q := sm_R_go d64_112 rfl
theorem d64_113 : decode (sm_code 64) 113 = .ok (.iconst 3, 1) := by decide +kernel
theorem r64_113 {X : sm_X} {w : sm_W} {Q : Option Value → sm_W → Prop} {x0 : Nat} {x1 : Int32} {x2 : Int32} {s0 : Int32} {s1 : Int32} {s2 : Nat} : sm_R X 64 113 [.ref x0, .int x1, .int x2] [.int s0, .int s1, .ref s2] w Q ↔ sm_R X 64 114 [.ref x0, .int x1, .int x2] [.int 3, .int s0, .int s1, .ref s2] w Q := sm_R_go d64_113 rfl
theorem d64_114 : decode (sm_code 64) 114 = .ok (.invokevirtual 90, 3) := by decide +kernel
theorem r64_114 {X : sm_X} {w : sm_W} {Q : Option Value → sm_W → Prop} {x0 : Nat} {x1 : Int32} {x2 : Int32} {s0 : Int32} {s1 : Int32} {s2 : Int32} {s3 : Nat} : sm_R X 64 114 [.ref x0, .int x1, .int x2] [.int s0, .int s1, .int s2, .ref s3] w Q ↔ (sm_cN (sm_at w s3) = some 7 ∧ sm_R X 62 0 [.ref s3, .int s2, .int s1, .int s0] [] w (fun v w => sm_R X 64 117 [.ref x0, .int x1, .int x2] (v.toList ++ []) w Q)) := sm_q_vir (k := 62) (as := [.ref s3, .int s2, .int s1, .int s0]) (rest := []) d64_114 rfl rfl rfl rfl rfl
theorem d64_117 : decode (sm_code 64) 117 = .ok (.ifCond .eq 7, 3) := by decide +kernel
theorem r64_117 {X : sm_X} {w : sm_W} {Q : Option Value → sm_W → Prop} {x0 : Nat} {x1 : Int32} {x2 : Int32} {s0 : Int32} : sm_R X 64 117 [.ref x0, .int x1, .int x2] [.int s0] w Q ↔ (if s0 = 0 then sm_R X 64 124 [.ref x0, .int x1, .int x2] [] w Q else sm_R X 64 120 [.ref x0, .int x1, .int x2] [] w Q) := sm_q_br d64_117 rfl
theorem d64_120 : decode (sm_code 64) 120 = .ok (.iconst 1, 1) := by decide +kernel
theorem r64_120 {X : sm_X} {w : sm_W} {Q : Option Value → sm_W → Prop} {x0 : Nat} {x1 : Int32} {x2 : Int32} : sm_R X 64 120 [.ref x0, .int x1, .int x2] [] w Q ↔ sm_R X 64 121 [.ref x0, .int x1, .int x2] [.int 1] w Q := sm_R_go d64_120 rfl
theorem d64_121 : decode (sm_code 64) 121 = .ok (.goto 4, 3) := by decide +kernel
theorem r64_121 {X : sm_X} {w : sm_W} {Q : Option Value → sm_W → Prop} {x0 : Nat} {x1 : Int32} {x2 : Int32} {s0 : Int32} : sm_R X 64 121 [.ref x0, .int x1, .int x2] [.int s0] w Q ↔ sm_R X 64 125 [.ref x0, .int x1, .int x2] [.int s0] w Q := sm_R_go d64_121 rfl
theorem d64_124 : decode (sm_code 64) 124 = .ok (.iconst 0, 1) := by decide +kernel
theorem r64_124 {X : sm_X} {w : sm_W} {Q : Option Value → sm_W → Prop} {x0 : Nat} {x1 : Int32} {x2 : Int32} : sm_R X 64 124 [.ref x0, .int x1, .int x2] [] w Q ↔ sm_R X 64 125 [.ref x0, .int x1, .int x2] [.int 0] w Q := sm_R_go d64_124 rfl
theorem d64_125 : decode (sm_code 64) 125 = .ok (.ireturn, 1) := by decide +kernel
theorem r64_125 {X : sm_X} {w : sm_W} {Q : Option Value → sm_W → Prop} {x0 : Nat} {x1 : Int32} {x2 : Int32} {s0 : Int32} (h : s0 = 0 ∨ s0 = 1) : sm_R X 64 125 [.ref x0, .int x1, .int x2] [.int s0] w Q ↔ Q (some (.int s0)) w := sm_q_zret d64_125 rfl h
-- GroupLedgerModel.deploy(I)I
theorem d65_0 : decode (sm_code 65) 0 = .ok (.aload_n 0, 1) := by decide +kernel
theorem r65_0 {X : sm_X} {w : sm_W} {Q : Option Value → sm_W → Prop} {x0 : Nat} {x1 : Int32} : sm_R X 65 0 [.ref x0, .int x1, sm_J] [] w Q ↔ sm_R X 65 1 [.ref x0, .int x1, sm_J] [.ref x0] w Q := sm_R_go d65_0 rfl
theorem d65_1 : decode (sm_code 65) 1 = .ok (.iload_n 1, 1) := by decide +kernel
theorem r65_1 {X : sm_X} {w : sm_W} {Q : Option Value → sm_W → Prop} {x0 : Nat} {x1 : Int32} {s0 : Nat} : sm_R X 65 1 [.ref x0, .int x1, sm_J] [.ref s0] w Q ↔ sm_R X 65 2 [.ref x0, .int x1, sm_J] [.int x1, .ref s0] w Q := sm_R_go d65_1 rfl
theorem d65_2 : decode (sm_code 65) 2 = .ok (.iconst 0, 1) := by decide +kernel
theorem r65_2 {X : sm_X} {w : sm_W} {Q : Option Value → sm_W → Prop} {x0 : Nat} {x1 : Int32} {s0 : Int32} {s1 : Nat} : sm_R X 65 2 [.ref x0, .int x1, sm_J] [.int s0, .ref s1] w Q ↔ sm_R X 65 3 [.ref x0, .int x1, sm_J] [.int 0, .int s0, .ref s1] w Q := sm_R_go d65_2 rfl
theorem d65_3 : decode (sm_code 65) 3 = .ok (.iconst 3, 1) := by decide +kernel
theorem r65_3 {X : sm_X} {w : sm_W} {Q : Option Value → sm_W → Prop} {x0 : Nat} {x1 : Int32} {s0 : Int32} {s1 : Int32} {s2 : Nat} : sm_R X 65 3 [.ref x0, .int x1, sm_J] [.int s0, .int s1, .ref s2] w Q ↔ sm_R X 65 4 [.ref x0, .int x1, sm_J] [.int 3, .int s0, .int s1, .ref s2] w Q := sm_R_go d65_3 rfl
theorem d65_4 : decode (sm_code 65) 4 = .ok (.invokevirtual 90, 3) := by decide +kernel
theorem r65_4 {X : sm_X} {w : sm_W} {Q : Option Value → sm_W → Prop} {x0 : Nat} {x1 : Int32} {s0 : Int32} {s1 : Int32} {s2 : Int32} {s3 : Nat} : sm_R X 65 4 [.ref x0, .int x1, sm_J] [.int s0, .int s1, .int s2, .ref s3] w Q ↔ (sm_cN (sm_at w s3) = some 7 ∧ sm_R X 62 0 [.ref s3, .int s2, .int s1, .int s0] [] w (fun v w => sm_R X 65 7 [.ref x0, .int x1, sm_J] (v.toList ++ []) w Q)) := sm_q_vir (k := 62) (as := [.ref s3, .int s2, .int s1, .int s0]) (rest := []) d65_4 rfl rfl rfl rfl rfl
theorem d65_7 : decode (sm_code 65) 7 = .ok (.ifCond .eq 12, 3) := by decide +kernel
theorem r65_7 {X : sm_X} {w : sm_W} {Q : Option Value → sm_W → Prop} {x0 : Nat} {x1 : Int32} {s0 : Int32} : sm_R X 65 7 [.ref x0, .int x1, sm_J] [.int s0] w Q ↔ (if s0 = 0 then sm_R X 65 19 [.ref x0, .int x1, sm_J] [] w Q else sm_R X 65 10 [.ref x0, .int x1, sm_J] [] w Q) := sm_q_br d65_7 rfl
theorem d65_10 : decode (sm_code 65) 10 = .ok (.aload_n 0, 1) := by decide +kernel
theorem r65_10 {X : sm_X} {w : sm_W} {Q : Option Value → sm_W → Prop} {x0 : Nat} {x1 : Int32} : sm_R X 65 10 [.ref x0, .int x1, sm_J] [] w Q ↔ sm_R X 65 11 [.ref x0, .int x1, sm_J] [.ref x0] w Q := sm_R_go d65_10 rfl
theorem d65_11 : decode (sm_code 65) 11 = .ok (.getfield 23, 3) := by decide +kernel
theorem r65_11 {X : sm_X} {w : sm_W} {Q : Option Value → sm_W → Prop} {x0 : Nat} {x1 : Int32} {s0 : Nat} : sm_R X 65 11 [.ref x0, .int x1, sm_J] [.ref s0] w Q ↔ sm_wp (sm_fld 7 4 (sm_at w s0)) (fun v => sm_R X 65 14 [.ref x0, .int x1, sm_J] [v] w Q) := sm_q_getf d65_11 rfl (by decide)
theorem d65_14 : decode (sm_code 65) 14 = .ok (.iconst 4, 1) := by decide +kernel
theorem r65_14 {X : sm_X} {w : sm_W} {Q : Option Value → sm_W → Prop} {x0 : Nat} {x1 : Int32} {s0 : Nat} : sm_R X 65 14 [.ref x0, .int x1, sm_J] [.ref s0] w Q ↔ sm_R X 65 15 [.ref x0, .int x1, sm_J] [.int 4, .ref s0] w Q := sm_R_go d65_14 rfl
theorem d65_15 : decode (sm_code 65) 15 = .ok (.iaload, 1) := by decide +kernel
theorem r65_15 {X : sm_X} {w : sm_W} {Q : Option Value → sm_W → Prop} {x0 : Nat} {x1 : Int32} {s0 : Int32} {s1 : Nat} : sm_R X 65 15 [.ref x0, .int x1, sm_J] [.int s0, .ref s1] w Q ↔ sm_wp (sm_ai s0 (sm_get X w s1)) (fun v => sm_R X 65 16 [.ref x0, .int x1, sm_J] [.int v] w Q) := sm_q_iald d65_15
theorem d65_16 : decode (sm_code 65) 16 = .ok (.ifCond .ne 5, 3) := by decide +kernel
theorem r65_16 {X : sm_X} {w : sm_W} {Q : Option Value → sm_W → Prop} {x0 : Nat} {x1 : Int32} {s0 : Int32} : sm_R X 65 16 [.ref x0, .int x1, sm_J] [.int s0] w Q ↔ (if s0 = 0 then sm_R X 65 19 [.ref x0, .int x1, sm_J] [] w Q else sm_R X 65 21 [.ref x0, .int x1, sm_J] [] w Q) := sm_q_br d65_16 rfl
theorem d65_19 : decode (sm_code 65) 19 = .ok (.iconst (-1), 1) := by decide +kernel
theorem r65_19 {X : sm_X} {w : sm_W} {Q : Option Value → sm_W → Prop} {x0 : Nat} {x1 : Int32} : sm_R X 65 19 [.ref x0, .int x1, sm_J] [] w Q ↔ sm_R X 65 20 [.ref x0, .int x1, sm_J] [.int (-1)] w Q := sm_R_go d65_19 rfl
theorem d65_20 : decode (sm_code 65) 20 = .ok (.ireturn, 1) := by decide +kernel
theorem r65_20 {X : sm_X} {w : sm_W} {Q : Option Value → sm_W → Prop} {x0 : Nat} {x1 : Int32} {s0 : Int32} : sm_R X 65 20 [.ref x0, .int x1, sm_J] [.int s0] w Q ↔ Q (some (.int s0)) w := sm_q_iret d65_20 rfl
theorem d65_21 : decode (sm_code 65) 21 = .ok (.iconst 0, 1) := by decide +kernel
theorem r65_21 {X : sm_X} {w : sm_W} {Q : Option Value → sm_W → Prop} {x0 : Nat} {x1 : Int32} : sm_R X 65 21 [.ref x0, .int x1, sm_J] [] w Q ↔ sm_R X 65 22 [.ref x0, .int x1, sm_J] [.int 0] w Q := sm_R_go d65_21 rfl
theorem d65_22 : decode (sm_code 65) 22 = .ok (.istore_n 2, 1) := by decide +kernel
theorem r65_22 {X : sm_X} {w : sm_W} {Q : Option Value → sm_W → Prop} {x0 : Nat} {x1 : Int32} {s0 : Int32} : sm_R X 65 22 [.ref x0, .int x1, sm_J] [.int s0] w Q ↔ sm_R X 65 23 [.ref x0, .int x1, .int s0] [] w Q := sm_R_go d65_22 rfl
theorem d65_23 : decode (sm_code 65) 23 = .ok (.iload_n 2, 1) := by decide +kernel
theorem r65_23 {X : sm_X} {w : sm_W} {Q : Option Value → sm_W → Prop} {x0 : Nat} {x1 : Int32} {x2 : Int32} : sm_R X 65 23 [.ref x0, .int x1, .int x2] [] w Q ↔ sm_R X 65 24 [.ref x0, .int x1, .int x2] [.int x2] w Q := sm_R_go d65_23 rfl
theorem d65_24 : decode (sm_code 65) 24 = .ok (.bipush 32, 2) := by decide +kernel
theorem r65_24 {X : sm_X} {w : sm_W} {Q : Option Value → sm_W → Prop} {x0 : Nat} {x1 : Int32} {x2 : Int32} {s0 : Int32} : sm_R X 65 24 [.ref x0, .int x1, .int x2] [.int s0] w Q ↔ sm_R X 65 26 [.ref x0, .int x1, .int x2] [.int 32, .int s0] w Q := sm_R_go d65_24 rfl
theorem d65_26 : decode (sm_code 65) 26 = .ok (.if_icmp .ge 51, 3) := by decide +kernel
theorem r65_26 {X : sm_X} {w : sm_W} {Q : Option Value → sm_W → Prop} {x0 : Nat} {x1 : Int32} {x2 : Int32} {s0 : Int32} {s1 : Int32} : sm_R X 65 26 [.ref x0, .int x1, .int x2] [.int s0, .int s1] w Q ↔ (if s0 ≤ s1 then sm_R X 65 77 [.ref x0, .int x1, .int x2] [] w Q else sm_R X 65 29 [.ref x0, .int x1, .int x2] [] w Q) := sm_q_br d65_26 rfl
theorem d65_29 : decode (sm_code 65) 29 = .ok (.aload_n 0, 1) := by decide +kernel
theorem r65_29 {X : sm_X} {w : sm_W} {Q : Option Value → sm_W → Prop} {x0 : Nat} {x1 : Int32} {x2 : Int32} : sm_R X 65 29 [.ref x0, .int x1, .int x2] [] w Q ↔ sm_R X 65 30 [.ref x0, .int x1, .int x2] [.ref x0] w Q := sm_R_go d65_29 rfl
theorem d65_30 : decode (sm_code 65) 30 = .ok (.getfield 16, 3) := by decide +kernel
theorem r65_30 {X : sm_X} {w : sm_W} {Q : Option Value → sm_W → Prop} {x0 : Nat} {x1 : Int32} {x2 : Int32} {s0 : Nat} : sm_R X 65 30 [.ref x0, .int x1, .int x2] [.ref s0] w Q ↔ sm_wp (sm_fld 7 2 (sm_at w s0)) (fun v => sm_R X 65 33 [.ref x0, .int x1, .int x2] [v] w Q) := sm_q_getf d65_30 rfl (by decide)
theorem d65_33 : decode (sm_code 65) 33 = .ok (.iload_n 1, 1) := by decide +kernel
theorem r65_33 {X : sm_X} {w : sm_W} {Q : Option Value → sm_W → Prop} {x0 : Nat} {x1 : Int32} {x2 : Int32} {s0 : Nat} : sm_R X 65 33 [.ref x0, .int x1, .int x2] [.ref s0] w Q ↔ sm_R X 65 34 [.ref x0, .int x1, .int x2] [.int x1, .ref s0] w Q := sm_R_go d65_33 rfl
theorem d65_34 : decode (sm_code 65) 34 = .ok (.bipush 32, 2) := by decide +kernel
theorem r65_34 {X : sm_X} {w : sm_W} {Q : Option Value → sm_W → Prop} {x0 : Nat} {x1 : Int32} {x2 : Int32} {s0 : Int32} {s1 : Nat} : sm_R X 65 34 [.ref x0, .int x1, .int x2] [.int s0, .ref s1] w Q ↔ sm_R X 65 36 [.ref x0, .int x1, .int x2] [.int 32, .int s0, .ref s1] w Q := sm_R_go d65_34 rfl
theorem d65_36 : decode (sm_code 65) 36 = .ok (.imul, 1) := by decide +kernel
theorem r65_36 {X : sm_X} {w : sm_W} {Q : Option Value → sm_W → Prop} {x0 : Nat} {x1 : Int32} {x2 : Int32} {s0 : Int32} {s1 : Int32} {s2 : Nat} : sm_R X 65 36 [.ref x0, .int x1, .int x2] [.int s0, .int s1, .ref s2] w Q ↔ sm_R X 65 37 [.ref x0, .int x1, .int x2] [.int (s1 * s0), .ref s2] w Q := sm_R_go d65_36 rfl
theorem d65_37 : decode (sm_code 65) 37 = .ok (.iload_n 2, 1) := by decide +kernel
theorem r65_37 {X : sm_X} {w : sm_W} {Q : Option Value → sm_W → Prop} {x0 : Nat} {x1 : Int32} {x2 : Int32} {s0 : Int32} {s1 : Nat} : sm_R X 65 37 [.ref x0, .int x1, .int x2] [.int s0, .ref s1] w Q ↔ sm_R X 65 38 [.ref x0, .int x1, .int x2] [.int x2, .int s0, .ref s1] w Q := sm_R_go d65_37 rfl
theorem d65_38 : decode (sm_code 65) 38 = .ok (.iadd, 1) := by decide +kernel
theorem r65_38 {X : sm_X} {w : sm_W} {Q : Option Value → sm_W → Prop} {x0 : Nat} {x1 : Int32} {x2 : Int32} {s0 : Int32} {s1 : Int32} {s2 : Nat} : sm_R X 65 38 [.ref x0, .int x1, .int x2] [.int s0, .int s1, .ref s2] w Q ↔ sm_R X 65 39 [.ref x0, .int x1, .int x2] [.int (s1 + s0), .ref s2] w Q := sm_R_go d65_38 rfl
theorem d65_39 : decode (sm_code 65) 39 = .ok (.aload_n 0, 1) := by decide +kernel
theorem r65_39 {X : sm_X} {w : sm_W} {Q : Option Value → sm_W → Prop} {x0 : Nat} {x1 : Int32} {x2 : Int32} {s0 : Int32} {s1 : Nat} : sm_R X 65 39 [.ref x0, .int x1, .int x2] [.int s0, .ref s1] w Q ↔ sm_R X 65 40 [.ref x0, .int x1, .int x2] [.ref x0, .int s0, .ref s1] w Q := sm_R_go d65_39 rfl
theorem d65_40 : decode (sm_code 65) 40 = .ok (.getfield 16, 3) := by decide +kernel
theorem r65_40 {X : sm_X} {w : sm_W} {Q : Option Value → sm_W → Prop} {x0 : Nat} {x1 : Int32} {x2 : Int32} {s0 : Nat} {s1 : Int32} {s2 : Nat} : sm_R X 65 40 [.ref x0, .int x1, .int x2] [.ref s0, .int s1, .ref s2] w Q ↔ sm_wp (sm_fld 7 2 (sm_at w s0)) (fun v => sm_R X 65 43 [.ref x0, .int x1, .int x2] [v, .int s1, .ref s2] w Q) := sm_q_getf d65_40 rfl (by decide)
theorem d65_43 : decode (sm_code 65) 43 = .ok (.sipush 128, 3) := by decide +kernel
theorem r65_43 {X : sm_X} {w : sm_W} {Q : Option Value → sm_W → Prop} {x0 : Nat} {x1 : Int32} {x2 : Int32} {s0 : Nat} {s1 : Int32} {s2 : Nat} : sm_R X 65 43 [.ref x0, .int x1, .int x2] [.ref s0, .int s1, .ref s2] w Q ↔ sm_R X 65 46 [.ref x0, .int x1, .int x2] [.int 128, .ref s0, .int s1, .ref s2] w Q := sm_R_go d65_43 rfl
theorem d65_46 : decode (sm_code 65) 46 = .ok (.iload_n 2, 1) := by decide +kernel
theorem r65_46 {X : sm_X} {w : sm_W} {Q : Option Value → sm_W → Prop} {x0 : Nat} {x1 : Int32} {x2 : Int32} {s0 : Int32} {s1 : Nat} {s2 : Int32} {s3 : Nat} : sm_R X 65 46 [.ref x0, .int x1, .int x2] [.int s0, .ref s1, .int s2, .ref s3] w Q ↔ sm_R X 65 47 [.ref x0, .int x1, .int x2] [.int x2, .int s0, .ref s1, .int s2, .ref s3] w Q := sm_R_go d65_46 rfl
theorem d65_47 : decode (sm_code 65) 47 = .ok (.iadd, 1) := by decide +kernel
theorem r65_47 {X : sm_X} {w : sm_W} {Q : Option Value → sm_W → Prop} {x0 : Nat} {x1 : Int32} {x2 : Int32} {s0 : Int32} {s1 : Int32} {s2 : Nat} {s3 : Int32} {s4 : Nat} : sm_R X 65 47 [.ref x0, .int x1, .int x2] [.int s0, .int s1, .ref s2, .int s3, .ref s4] w Q ↔ sm_R X 65 48 [.ref x0, .int x1, .int x2] [.int (s1 + s0), .ref s2, .int s3, .ref s4] w Q := sm_R_go d65_47 rfl
theorem d65_48 : decode (sm_code 65) 48 = .ok (.iaload, 1) := by decide +kernel
theorem r65_48 {X : sm_X} {w : sm_W} {Q : Option Value → sm_W → Prop} {x0 : Nat} {x1 : Int32} {x2 : Int32} {s0 : Int32} {s1 : Nat} {s2 : Int32} {s3 : Nat} : sm_R X 65 48 [.ref x0, .int x1, .int x2] [.int s0, .ref s1, .int s2, .ref s3] w Q ↔ sm_wp (sm_ai s0 (sm_get X w s1)) (fun v => sm_R X 65 49 [.ref x0, .int x1, .int x2] [.int v, .int s2, .ref s3] w Q) := sm_q_iald d65_48
theorem d65_49 : decode (sm_code 65) 49 = .ok (.iastore, 1) := by decide +kernel
theorem r65_49 {X : sm_X} {w : sm_W} {Q : Option Value → sm_W → Prop} {x0 : Nat} {x1 : Int32} {x2 : Int32} {s0 : Int32} {s1 : Int32} {s2 : Nat} : sm_R X 65 49 [.ref x0, .int x1, .int x2] [.int s0, .int s1, .ref s2] w Q ↔ sm_wp (sm_si s1 s0 (sm_at w s2)) (fun c => sm_R X 65 50 [.ref x0, .int x1, .int x2] [] (w.set (s2 - 100) c) Q) := sm_q_iast d65_49
theorem d65_50 : decode (sm_code 65) 50 = .ok (.aload_n 0, 1) := by decide +kernel
theorem r65_50 {X : sm_X} {w : sm_W} {Q : Option Value → sm_W → Prop} {x0 : Nat} {x1 : Int32} {x2 : Int32} : sm_R X 65 50 [.ref x0, .int x1, .int x2] [] w Q ↔ sm_R X 65 51 [.ref x0, .int x1, .int x2] [.ref x0] w Q := sm_R_go d65_50 rfl
theorem d65_51 : decode (sm_code 65) 51 = .ok (.getfield 20, 3) := by decide +kernel
theorem r65_51 {X : sm_X} {w : sm_W} {Q : Option Value → sm_W → Prop} {x0 : Nat} {x1 : Int32} {x2 : Int32} {s0 : Nat} : sm_R X 65 51 [.ref x0, .int x1, .int x2] [.ref s0] w Q ↔ sm_wp (sm_fld 7 3 (sm_at w s0)) (fun v => sm_R X 65 54 [.ref x0, .int x1, .int x2] [v] w Q) := sm_q_getf d65_51 rfl (by decide)
theorem d65_54 : decode (sm_code 65) 54 = .ok (.iload_n 1, 1) := by decide +kernel
theorem r65_54 {X : sm_X} {w : sm_W} {Q : Option Value → sm_W → Prop} {x0 : Nat} {x1 : Int32} {x2 : Int32} {s0 : Nat} : sm_R X 65 54 [.ref x0, .int x1, .int x2] [.ref s0] w Q ↔ sm_R X 65 55 [.ref x0, .int x1, .int x2] [.int x1, .ref s0] w Q := sm_R_go d65_54 rfl
theorem d65_55 : decode (sm_code 65) 55 = .ok (.bipush 32, 2) := by decide +kernel
theorem r65_55 {X : sm_X} {w : sm_W} {Q : Option Value → sm_W → Prop} {x0 : Nat} {x1 : Int32} {x2 : Int32} {s0 : Int32} {s1 : Nat} : sm_R X 65 55 [.ref x0, .int x1, .int x2] [.int s0, .ref s1] w Q ↔ sm_R X 65 57 [.ref x0, .int x1, .int x2] [.int 32, .int s0, .ref s1] w Q := sm_R_go d65_55 rfl
theorem d65_57 : decode (sm_code 65) 57 = .ok (.imul, 1) := by decide +kernel
theorem r65_57 {X : sm_X} {w : sm_W} {Q : Option Value → sm_W → Prop} {x0 : Nat} {x1 : Int32} {x2 : Int32} {s0 : Int32} {s1 : Int32} {s2 : Nat} : sm_R X 65 57 [.ref x0, .int x1, .int x2] [.int s0, .int s1, .ref s2] w Q ↔ sm_R X 65 58 [.ref x0, .int x1, .int x2] [.int (s1 * s0), .ref s2] w Q := sm_R_go d65_57 rfl
theorem d65_58 : decode (sm_code 65) 58 = .ok (.iload_n 2, 1) := by decide +kernel
theorem r65_58 {X : sm_X} {w : sm_W} {Q : Option Value → sm_W → Prop} {x0 : Nat} {x1 : Int32} {x2 : Int32} {s0 : Int32} {s1 : Nat} : sm_R X 65 58 [.ref x0, .int x1, .int x2] [.int s0, .ref s1] w Q ↔ sm_R X 65 59 [.ref x0, .int x1, .int x2] [.int x2, .int s0, .ref s1] w Q := sm_R_go d65_58 rfl
theorem d65_59 : decode (sm_code 65) 59 = .ok (.iadd, 1) := by decide +kernel
theorem r65_59 {X : sm_X} {w : sm_W} {Q : Option Value → sm_W → Prop} {x0 : Nat} {x1 : Int32} {x2 : Int32} {s0 : Int32} {s1 : Int32} {s2 : Nat} : sm_R X 65 59 [.ref x0, .int x1, .int x2] [.int s0, .int s1, .ref s2] w Q ↔ sm_R X 65 60 [.ref x0, .int x1, .int x2] [.int (s1 + s0), .ref s2] w Q := sm_R_go d65_59 rfl
theorem d65_60 : decode (sm_code 65) 60 = .ok (.aload_n 0, 1) := by decide +kernel
theorem r65_60 {X : sm_X} {w : sm_W} {Q : Option Value → sm_W → Prop} {x0 : Nat} {x1 : Int32} {x2 : Int32} {s0 : Int32} {s1 : Nat} : sm_R X 65 60 [.ref x0, .int x1, .int x2] [.int s0, .ref s1] w Q ↔ sm_R X 65 61 [.ref x0, .int x1, .int x2] [.ref x0, .int s0, .ref s1] w Q := sm_R_go d65_60 rfl
theorem d65_61 : decode (sm_code 65) 61 = .ok (.getfield 20, 3) := by decide +kernel
theorem r65_61 {X : sm_X} {w : sm_W} {Q : Option Value → sm_W → Prop} {x0 : Nat} {x1 : Int32} {x2 : Int32} {s0 : Nat} {s1 : Int32} {s2 : Nat} : sm_R X 65 61 [.ref x0, .int x1, .int x2] [.ref s0, .int s1, .ref s2] w Q ↔ sm_wp (sm_fld 7 3 (sm_at w s0)) (fun v => sm_R X 65 64 [.ref x0, .int x1, .int x2] [v, .int s1, .ref s2] w Q) := sm_q_getf d65_61 rfl (by decide)
theorem d65_64 : decode (sm_code 65) 64 = .ok (.sipush 128, 3) := by decide +kernel
theorem r65_64 {X : sm_X} {w : sm_W} {Q : Option Value → sm_W → Prop} {x0 : Nat} {x1 : Int32} {x2 : Int32} {s0 : Nat} {s1 : Int32} {s2 : Nat} : sm_R X 65 64 [.ref x0, .int x1, .int x2] [.ref s0, .int s1, .ref s2] w Q ↔ sm_R X 65 67 [.ref x0, .int x1, .int x2] [.int 128, .ref s0, .int s1, .ref s2] w Q := sm_R_go d65_64 rfl
theorem d65_67 : decode (sm_code 65) 67 = .ok (.iload_n 2, 1) := by decide +kernel
theorem r65_67 {X : sm_X} {w : sm_W} {Q : Option Value → sm_W → Prop} {x0 : Nat} {x1 : Int32} {x2 : Int32} {s0 : Int32} {s1 : Nat} {s2 : Int32} {s3 : Nat} : sm_R X 65 67 [.ref x0, .int x1, .int x2] [.int s0, .ref s1, .int s2, .ref s3] w Q ↔ sm_R X 65 68 [.ref x0, .int x1, .int x2] [.int x2, .int s0, .ref s1, .int s2, .ref s3] w Q := sm_R_go d65_67 rfl
theorem d65_68 : decode (sm_code 65) 68 = .ok (.iadd, 1) := by decide +kernel
theorem r65_68 {X : sm_X} {w : sm_W} {Q : Option Value → sm_W → Prop} {x0 : Nat} {x1 : Int32} {x2 : Int32} {s0 : Int32} {s1 : Int32} {s2 : Nat} {s3 : Int32} {s4 : Nat} : sm_R X 65 68 [.ref x0, .int x1, .int x2] [.int s0, .int s1, .ref s2, .int s3, .ref s4] w Q ↔ sm_R X 65 69 [.ref x0, .int x1, .int x2] [.int (s1 + s0), .ref s2, .int s3, .ref s4] w Q := sm_R_go d65_68 rfl
theorem d65_69 : decode (sm_code 65) 69 = .ok (.iaload, 1) := by decide +kernel
theorem r65_69 {X : sm_X} {w : sm_W} {Q : Option Value → sm_W → Prop} {x0 : Nat} {x1 : Int32} {x2 : Int32} {s0 : Int32} {s1 : Nat} {s2 : Int32} {s3 : Nat} : sm_R X 65 69 [.ref x0, .int x1, .int x2] [.int s0, .ref s1, .int s2, .ref s3] w Q ↔ sm_wp (sm_ai s0 (sm_get X w s1)) (fun v => sm_R X 65 70 [.ref x0, .int x1, .int x2] [.int v, .int s2, .ref s3] w Q) := sm_q_iald d65_69
theorem d65_70 : decode (sm_code 65) 70 = .ok (.iastore, 1) := by decide +kernel
theorem r65_70 {X : sm_X} {w : sm_W} {Q : Option Value → sm_W → Prop} {x0 : Nat} {x1 : Int32} {x2 : Int32} {s0 : Int32} {s1 : Int32} {s2 : Nat} : sm_R X 65 70 [.ref x0, .int x1, .int x2] [.int s0, .int s1, .ref s2] w Q ↔ sm_wp (sm_si s1 s0 (sm_at w s2)) (fun c => sm_R X 65 71 [.ref x0, .int x1, .int x2] [] (w.set (s2 - 100) c) Q) := sm_q_iast d65_70
theorem d65_71 : decode (sm_code 65) 71 = .ok (.iinc 2 1, 3) := by decide +kernel
theorem r65_71 {X : sm_X} {w : sm_W} {Q : Option Value → sm_W → Prop} {x0 : Nat} {x1 : Int32} {x2 : Int32} : sm_R X 65 71 [.ref x0, .int x1, .int x2] [] w Q ↔ sm_R X 65 74 [.ref x0, .int x1, .int (x2 + 1)] [] w Q := sm_R_go d65_71 rfl
theorem d65_74 : decode (sm_code 65) 74 = .ok (.goto (-51), 3) := by decide +kernel
theorem r65_74 {X : sm_X} {w : sm_W} {Q : Option Value → sm_W → Prop} {x0 : Nat} {x1 : Int32} {x2 : Int32} : sm_R X 65 74 [.ref x0, .int x1, .int x2] [] w Q ↔ sm_R X 65 23 [.ref x0, .int x1, .int x2] [] w Q := sm_R_go d65_74 rfl
theorem d65_77 : decode (sm_code 65) 77 = .ok (.iconst 0, 1) := by decide +kernel
theorem r65_77 {X : sm_X} {w : sm_W} {Q : Option Value → sm_W → Prop} {x0 : Nat} {x1 : Int32} {x2 : Int32} : sm_R X 65 77 [.ref x0, .int x1, .int x2] [] w Q ↔ sm_R X 65 78 [.ref x0, .int x1, .int x2] [.int 0] w Q := sm_R_go d65_77 rfl
theorem d65_78 : decode (sm_code 65) 78 = .ok (.istore_n 2, 1) := by decide +kernel
theorem r65_78 {X : sm_X} {w : sm_W} {Q : Option Value → sm_W → Prop} {x0 : Nat} {x1 : Int32} {x2 : Int32} {s0 : Int32} : sm_R X 65 78 [.ref x0, .int x1, .int x2] [.int s0] w Q ↔ sm_R X 65 79 [.ref x0, .int x1, .int s0] [] w Q := sm_R_go d65_78 rfl
theorem d65_79 : decode (sm_code 65) 79 = .ok (.iload_n 2, 1) := by decide +kernel
theorem r65_79 {X : sm_X} {w : sm_W} {Q : Option Value → sm_W → Prop} {x0 : Nat} {x1 : Int32} {x2 : Int32} : sm_R X 65 79 [.ref x0, .int x1, .int x2] [] w Q ↔ sm_R X 65 80 [.ref x0, .int x1, .int x2] [.int x2] w Q := sm_R_go d65_79 rfl
theorem d65_80 : decode (sm_code 65) 80 = .ok (.iconst 4, 1) := by decide +kernel
theorem r65_80 {X : sm_X} {w : sm_W} {Q : Option Value → sm_W → Prop} {x0 : Nat} {x1 : Int32} {x2 : Int32} {s0 : Int32} : sm_R X 65 80 [.ref x0, .int x1, .int x2] [.int s0] w Q ↔ sm_R X 65 81 [.ref x0, .int x1, .int x2] [.int 4, .int s0] w Q := sm_R_go d65_80 rfl
theorem d65_81 : decode (sm_code 65) 81 = .ok (.if_icmp .ge 23, 3) := by decide +kernel
theorem r65_81 {X : sm_X} {w : sm_W} {Q : Option Value → sm_W → Prop} {x0 : Nat} {x1 : Int32} {x2 : Int32} {s0 : Int32} {s1 : Int32} : sm_R X 65 81 [.ref x0, .int x1, .int x2] [.int s0, .int s1] w Q ↔ (if s0 ≤ s1 then sm_R X 65 104 [.ref x0, .int x1, .int x2] [] w Q else sm_R X 65 84 [.ref x0, .int x1, .int x2] [] w Q) := sm_q_br d65_81 rfl
theorem d65_84 : decode (sm_code 65) 84 = .ok (.aload_n 0, 1) := by decide +kernel
theorem r65_84 {X : sm_X} {w : sm_W} {Q : Option Value → sm_W → Prop} {x0 : Nat} {x1 : Int32} {x2 : Int32} : sm_R X 65 84 [.ref x0, .int x1, .int x2] [] w Q ↔ sm_R X 65 85 [.ref x0, .int x1, .int x2] [.ref x0] w Q := sm_R_go d65_84 rfl
theorem d65_85 : decode (sm_code 65) 85 = .ok (.getfield 7, 3) := by decide +kernel
theorem r65_85 {X : sm_X} {w : sm_W} {Q : Option Value → sm_W → Prop} {x0 : Nat} {x1 : Int32} {x2 : Int32} {s0 : Nat} : sm_R X 65 85 [.ref x0, .int x1, .int x2] [.ref s0] w Q ↔ sm_wp (sm_fld 7 0 (sm_at w s0)) (fun v => sm_R X 65 88 [.ref x0, .int x1, .int x2] [v] w Q) := sm_q_getf d65_85 rfl (by decide)
theorem d65_88 : decode (sm_code 65) 88 = .ok (.bipush 6, 2) := by decide +kernel
theorem r65_88 {X : sm_X} {w : sm_W} {Q : Option Value → sm_W → Prop} {x0 : Nat} {x1 : Int32} {x2 : Int32} {s0 : Nat} : sm_R X 65 88 [.ref x0, .int x1, .int x2] [.ref s0] w Q ↔ sm_R X 65 90 [.ref x0, .int x1, .int x2] [.int 6, .ref s0] w Q := sm_R_go d65_88 rfl
theorem d65_90 : decode (sm_code 65) 90 = .ok (.iload_n 1, 1) := by decide +kernel
theorem r65_90 {X : sm_X} {w : sm_W} {Q : Option Value → sm_W → Prop} {x0 : Nat} {x1 : Int32} {x2 : Int32} {s0 : Int32} {s1 : Nat} : sm_R X 65 90 [.ref x0, .int x1, .int x2] [.int s0, .ref s1] w Q ↔ sm_R X 65 91 [.ref x0, .int x1, .int x2] [.int x1, .int s0, .ref s1] w Q := sm_R_go d65_90 rfl
theorem d65_91 : decode (sm_code 65) 91 = .ok (.iconst 4, 1) := by decide +kernel
theorem r65_91 {X : sm_X} {w : sm_W} {Q : Option Value → sm_W → Prop} {x0 : Nat} {x1 : Int32} {x2 : Int32} {s0 : Int32} {s1 : Int32} {s2 : Nat} : sm_R X 65 91 [.ref x0, .int x1, .int x2] [.int s0, .int s1, .ref s2] w Q ↔ sm_R X 65 92 [.ref x0, .int x1, .int x2] [.int 4, .int s0, .int s1, .ref s2] w Q := sm_R_go d65_91 rfl
theorem d65_92 : decode (sm_code 65) 92 = .ok (.imul, 1) := by decide +kernel
theorem r65_92 {X : sm_X} {w : sm_W} {Q : Option Value → sm_W → Prop} {x0 : Nat} {x1 : Int32} {x2 : Int32} {s0 : Int32} {s1 : Int32} {s2 : Int32} {s3 : Nat} : sm_R X 65 92 [.ref x0, .int x1, .int x2] [.int s0, .int s1, .int s2, .ref s3] w Q ↔ sm_R X 65 93 [.ref x0, .int x1, .int x2] [.int (s1 * s0), .int s2, .ref s3] w Q := sm_R_go d65_92 rfl
theorem d65_93 : decode (sm_code 65) 93 = .ok (.iadd, 1) := by decide +kernel
theorem r65_93 {X : sm_X} {w : sm_W} {Q : Option Value → sm_W → Prop} {x0 : Nat} {x1 : Int32} {x2 : Int32} {s0 : Int32} {s1 : Int32} {s2 : Nat} : sm_R X 65 93 [.ref x0, .int x1, .int x2] [.int s0, .int s1, .ref s2] w Q ↔ sm_R X 65 94 [.ref x0, .int x1, .int x2] [.int (s1 + s0), .ref s2] w Q := sm_R_go d65_93 rfl
theorem d65_94 : decode (sm_code 65) 94 = .ok (.iload_n 2, 1) := by decide +kernel
theorem r65_94 {X : sm_X} {w : sm_W} {Q : Option Value → sm_W → Prop} {x0 : Nat} {x1 : Int32} {x2 : Int32} {s0 : Int32} {s1 : Nat} : sm_R X 65 94 [.ref x0, .int x1, .int x2] [.int s0, .ref s1] w Q ↔ sm_R X 65 95 [.ref x0, .int x1, .int x2] [.int x2, .int s0, .ref s1] w Q := sm_R_go d65_94 rfl
theorem d65_95 : decode (sm_code 65) 95 = .ok (.iadd, 1) := by decide +kernel
theorem r65_95 {X : sm_X} {w : sm_W} {Q : Option Value → sm_W → Prop} {x0 : Nat} {x1 : Int32} {x2 : Int32} {s0 : Int32} {s1 : Int32} {s2 : Nat} : sm_R X 65 95 [.ref x0, .int x1, .int x2] [.int s0, .int s1, .ref s2] w Q ↔ sm_R X 65 96 [.ref x0, .int x1, .int x2] [.int (s1 + s0), .ref s2] w Q := sm_R_go d65_95 rfl
theorem d65_96 : decode (sm_code 65) 96 = .ok (.lconst 0, 1) := by decide +kernel
theorem r65_96 {X : sm_X} {w : sm_W} {Q : Option Value → sm_W → Prop} {x0 : Nat} {x1 : Int32} {x2 : Int32} {s0 : Int32} {s1 : Nat} : sm_R X 65 96 [.ref x0, .int x1, .int x2] [.int s0, .ref s1] w Q ↔ sm_R X 65 97 [.ref x0, .int x1, .int x2] [.long 0, .int s0, .ref s1] w Q := sm_R_go d65_96 rfl
theorem d65_97 : decode (sm_code 65) 97 = .ok (.lastore, 1) := by decide +kernel
theorem r65_97 {X : sm_X} {w : sm_W} {Q : Option Value → sm_W → Prop} {x0 : Nat} {x1 : Int32} {x2 : Int32} {s0 : Int64} {s1 : Int32} {s2 : Nat} : sm_R X 65 97 [.ref x0, .int x1, .int x2] [.long s0, .int s1, .ref s2] w Q ↔ sm_wp (sm_slg s1 s0 (sm_at w s2)) (fun c => sm_R X 65 98 [.ref x0, .int x1, .int x2] [] (w.set (s2 - 100) c) Q) := sm_q_last d65_97
theorem d65_98 : decode (sm_code 65) 98 = .ok (.iinc 2 1, 3) := by decide +kernel
theorem r65_98 {X : sm_X} {w : sm_W} {Q : Option Value → sm_W → Prop} {x0 : Nat} {x1 : Int32} {x2 : Int32} : sm_R X 65 98 [.ref x0, .int x1, .int x2] [] w Q ↔ sm_R X 65 101 [.ref x0, .int x1, .int (x2 + 1)] [] w Q := sm_R_go d65_98 rfl
theorem d65_101 : decode (sm_code 65) 101 = .ok (.goto (-22), 3) := by decide +kernel
theorem r65_101 {X : sm_X} {w : sm_W} {Q : Option Value → sm_W → Prop} {x0 : Nat} {x1 : Int32} {x2 : Int32} : sm_R X 65 101 [.ref x0, .int x1, .int x2] [] w Q ↔ sm_R X 65 79 [.ref x0, .int x1, .int x2] [] w Q := sm_R_go d65_101 rfl
theorem d65_104 : decode (sm_code 65) 104 = .ok (.aload_n 0, 1) := by decide +kernel
theorem r65_104 {X : sm_X} {w : sm_W} {Q : Option Value → sm_W → Prop} {x0 : Nat} {x1 : Int32} {x2 : Int32} : sm_R X 65 104 [.ref x0, .int x1, .int x2] [] w Q ↔ sm_R X 65 105 [.ref x0, .int x1, .int x2] [.ref x0] w Q := sm_R_go d65_104 rfl
theorem d65_105 : decode (sm_code 65) 105 = .ok (.getfield 23, 3) := by decide +kernel
theorem r65_105 {X : sm_X} {w : sm_W} {Q : Option Value → sm_W → Prop} {x0 : Nat} {x1 : Int32} {x2 : Int32} {s0 : Nat} : sm_R X 65 105 [.ref x0, .int x1, .int x2] [.ref s0] w Q ↔ sm_wp (sm_fld 7 4 (sm_at w s0)) (fun v => sm_R X 65 108 [.ref x0, .int x1, .int x2] [v] w Q) := sm_q_getf d65_105 rfl (by decide)
theorem d65_108 : decode (sm_code 65) 108 = .ok (.iload_n 1, 1) := by decide +kernel
theorem r65_108 {X : sm_X} {w : sm_W} {Q : Option Value → sm_W → Prop} {x0 : Nat} {x1 : Int32} {x2 : Int32} {s0 : Nat} : sm_R X 65 108 [.ref x0, .int x1, .int x2] [.ref s0] w Q ↔ sm_R X 65 109 [.ref x0, .int x1, .int x2] [.int x1, .ref s0] w Q := sm_R_go d65_108 rfl
theorem d65_109 : decode (sm_code 65) 109 = .ok (.aload_n 0, 1) := by decide +kernel
theorem r65_109 {X : sm_X} {w : sm_W} {Q : Option Value → sm_W → Prop} {x0 : Nat} {x1 : Int32} {x2 : Int32} {s0 : Int32} {s1 : Nat} : sm_R X 65 109 [.ref x0, .int x1, .int x2] [.int s0, .ref s1] w Q ↔ sm_R X 65 110 [.ref x0, .int x1, .int x2] [.ref x0, .int s0, .ref s1] w Q := sm_R_go d65_109 rfl
theorem d65_110 : decode (sm_code 65) 110 = .ok (.getfield 23, 3) := by decide +kernel
theorem r65_110 {X : sm_X} {w : sm_W} {Q : Option Value → sm_W → Prop} {x0 : Nat} {x1 : Int32} {x2 : Int32} {s0 : Nat} {s1 : Int32} {s2 : Nat} : sm_R X 65 110 [.ref x0, .int x1, .int x2] [.ref s0, .int s1, .ref s2] w Q ↔ sm_wp (sm_fld 7 4 (sm_at w s0)) (fun v => sm_R X 65 113 [.ref x0, .int x1, .int x2] [v, .int s1, .ref s2] w Q) := sm_q_getf d65_110 rfl (by decide)
theorem d65_113 : decode (sm_code 65) 113 = .ok (.iconst 4, 1) := by decide +kernel
theorem r65_113 {X : sm_X} {w : sm_W} {Q : Option Value → sm_W → Prop} {x0 : Nat} {x1 : Int32} {x2 : Int32} {s0 : Nat} {s1 : Int32} {s2 : Nat} : sm_R X 65 113 [.ref x0, .int x1, .int x2] [.ref s0, .int s1, .ref s2] w Q ↔ sm_R X 65 114 [.ref x0, .int x1, .int x2] [.int 4, .ref s0, .int s1, .ref s2] w Q := sm_R_go d65_113 rfl
theorem d65_114 : decode (sm_code 65) 114 = .ok (.iaload, 1) := by decide +kernel
theorem r65_114 {X : sm_X} {w : sm_W} {Q : Option Value → sm_W → Prop} {x0 : Nat} {x1 : Int32} {x2 : Int32} {s0 : Int32} {s1 : Nat} {s2 : Int32} {s3 : Nat} : sm_R X 65 114 [.ref x0, .int x1, .int x2] [.int s0, .ref s1, .int s2, .ref s3] w Q ↔ sm_wp (sm_ai s0 (sm_get X w s1)) (fun v => sm_R X 65 115 [.ref x0, .int x1, .int x2] [.int v, .int s2, .ref s3] w Q) := sm_q_iald d65_114
theorem d65_115 : decode (sm_code 65) 115 = .ok (.iastore, 1) := by decide +kernel
theorem r65_115 {X : sm_X} {w : sm_W} {Q : Option Value → sm_W → Prop} {x0 : Nat} {x1 : Int32} {x2 : Int32} {s0 : Int32} {s1 : Int32} {s2 : Nat} : sm_R X 65 115 [.ref x0, .int x1, .int x2] [.int s0, .int s1, .ref s2] w Q ↔ sm_wp (sm_si s1 s0 (sm_at w s2)) (fun c => sm_R X 65 116 [.ref x0, .int x1, .int x2] [] (w.set (s2 - 100) c) Q) := sm_q_iast d65_115
theorem d65_116 : decode (sm_code 65) 116 = .ok (.aload_n 0, 1) := by decide +kernel
theorem r65_116 {X : sm_X} {w : sm_W} {Q : Option Value → sm_W → Prop} {x0 : Nat} {x1 : Int32} {x2 : Int32} : sm_R X 65 116 [.ref x0, .int x1, .int x2] [] w Q ↔ sm_R X 65 117 [.ref x0, .int x1, .int x2] [.ref x0] w Q := sm_R_go d65_116 rfl
theorem d65_117 : decode (sm_code 65) 117 = .ok (.getfield 23, 3) := by decide +kernel
theorem r65_117 {X : sm_X} {w : sm_W} {Q : Option Value → sm_W → Prop} {x0 : Nat} {x1 : Int32} {x2 : Int32} {s0 : Nat} : sm_R X 65 117 [.ref x0, .int x1, .int x2] [.ref s0] w Q ↔ sm_wp (sm_fld 7 4 (sm_at w s0)) (fun v => sm_R X 65 120 [.ref x0, .int x1, .int x2] [v] w Q) := sm_q_getf d65_117 rfl (by decide)
theorem d65_120 : decode (sm_code 65) 120 = .ok (.iconst 4, 1) := by decide +kernel
theorem r65_120 {X : sm_X} {w : sm_W} {Q : Option Value → sm_W → Prop} {x0 : Nat} {x1 : Int32} {x2 : Int32} {s0 : Nat} : sm_R X 65 120 [.ref x0, .int x1, .int x2] [.ref s0] w Q ↔ sm_R X 65 121 [.ref x0, .int x1, .int x2] [.int 4, .ref s0] w Q := sm_R_go d65_120 rfl
theorem d65_121 : decode (sm_code 65) 121 = .ok (.iconst 0, 1) := by decide +kernel
theorem r65_121 {X : sm_X} {w : sm_W} {Q : Option Value → sm_W → Prop} {x0 : Nat} {x1 : Int32} {x2 : Int32} {s0 : Int32} {s1 : Nat} : sm_R X 65 121 [.ref x0, .int x1, .int x2] [.int s0, .ref s1] w Q ↔ sm_R X 65 122 [.ref x0, .int x1, .int x2] [.int 0, .int s0, .ref s1] w Q := sm_R_go d65_121 rfl
theorem d65_122 : decode (sm_code 65) 122 = .ok (.iastore, 1) := by decide +kernel
theorem r65_122 {X : sm_X} {w : sm_W} {Q : Option Value → sm_W → Prop} {x0 : Nat} {x1 : Int32} {x2 : Int32} {s0 : Int32} {s1 : Int32} {s2 : Nat} : sm_R X 65 122 [.ref x0, .int x1, .int x2] [.int s0, .int s1, .ref s2] w Q ↔ sm_wp (sm_si s1 s0 (sm_at w s2)) (fun c => sm_R X 65 123 [.ref x0, .int x1, .int x2] [] (w.set (s2 - 100) c) Q) := sm_q_iast d65_122
theorem d65_123 : decode (sm_code 65) 123 = .ok (.aload_n 0, 1) := by decide +kernel
theorem r65_123 {X : sm_X} {w : sm_W} {Q : Option Value → sm_W → Prop} {x0 : Nat} {x1 : Int32} {x2 : Int32} : sm_R X 65 123 [.ref x0, .int x1, .int x2] [] w Q ↔ sm_R X 65 124 [.ref x0, .int x1, .int x2] [.ref x0] w Q := sm_R_go d65_123 rfl
theorem d65_124 : decode (sm_code 65) 124 = .ok (.getfield 23, 3) := by decide +kernel
theorem r65_124 {X : sm_X} {w : sm_W} {Q : Option Value → sm_W → Prop} {x0 : Nat} {x1 : Int32} {x2 : Int32} {s0 : Nat} : sm_R X 65 124 [.ref x0, .int x1, .int x2] [.ref s0] w Q ↔ sm_wp (sm_fld 7 4 (sm_at w s0)) (fun v => sm_R X 65 127 [.ref x0, .int x1, .int x2] [v] w Q) := sm_q_getf d65_124 rfl (by decide)
theorem d65_127 : decode (sm_code 65) 127 = .ok (.iload_n 1, 1) := by decide +kernel
theorem r65_127 {X : sm_X} {w : sm_W} {Q : Option Value → sm_W → Prop} {x0 : Nat} {x1 : Int32} {x2 : Int32} {s0 : Nat} : sm_R X 65 127 [.ref x0, .int x1, .int x2] [.ref s0] w Q ↔ sm_R X 65 128 [.ref x0, .int x1, .int x2] [.int x1, .ref s0] w Q := sm_R_go d65_127 rfl
theorem d65_128 : decode (sm_code 65) 128 = .ok (.iaload, 1) := by decide +kernel
theorem r65_128 {X : sm_X} {w : sm_W} {Q : Option Value → sm_W → Prop} {x0 : Nat} {x1 : Int32} {x2 : Int32} {s0 : Int32} {s1 : Nat} : sm_R X 65 128 [.ref x0, .int x1, .int x2] [.int s0, .ref s1] w Q ↔ sm_wp (sm_ai s0 (sm_get X w s1)) (fun v => sm_R X 65 129 [.ref x0, .int x1, .int x2] [.int v] w Q) := sm_q_iald d65_128
theorem d65_129 : decode (sm_code 65) 129 = .ok (.ireturn, 1) := by decide +kernel
theorem r65_129 {X : sm_X} {w : sm_W} {Q : Option Value → sm_W → Prop} {x0 : Nat} {x1 : Int32} {x2 : Int32} {s0 : Int32} : sm_R X 65 129 [.ref x0, .int x1, .int x2] [.int s0] w Q ↔ Q (some (.int s0)) w := sm_q_iret d65_129 rfl
-- GroupLedgerModel.pay(III)I
theorem d66_0 : decode (sm_code 66) 0 = .ok (.aload_n 0, 1) := by decide +kernel
theorem r66_0 {X : sm_X} {w : sm_W} {Q : Option Value → sm_W → Prop} {x0 : Nat} {x1 : Int32} {x2 : Int32} {x3 : Int32} : sm_R X 66 0 [.ref x0, .int x1, .int x2, .int x3] [] w Q ↔ sm_R X 66 1 [.ref x0, .int x1, .int x2, .int x3] [.ref x0] w Q := sm_R_go d66_0 rfl
theorem d66_1 : decode (sm_code 66) 1 = .ok (.iload_n 1, 1) := by decide +kernel
theorem r66_1 {X : sm_X} {w : sm_W} {Q : Option Value → sm_W → Prop} {x0 : Nat} {x1 : Int32} {x2 : Int32} {x3 : Int32} {s0 : Nat} : sm_R X 66 1 [.ref x0, .int x1, .int x2, .int x3] [.ref s0] w Q ↔ sm_R X 66 2 [.ref x0, .int x1, .int x2, .int x3] [.int x1, .ref s0] w Q := sm_R_go d66_1 rfl
theorem d66_2 : decode (sm_code 66) 2 = .ok (.iconst 0, 1) := by decide +kernel
theorem r66_2 {X : sm_X} {w : sm_W} {Q : Option Value → sm_W → Prop} {x0 : Nat} {x1 : Int32} {x2 : Int32} {x3 : Int32} {s0 : Int32} {s1 : Nat} : sm_R X 66 2 [.ref x0, .int x1, .int x2, .int x3] [.int s0, .ref s1] w Q ↔ sm_R X 66 3 [.ref x0, .int x1, .int x2, .int x3] [.int 0, .int s0, .ref s1] w Q := sm_R_go d66_2 rfl
theorem d66_3 : decode (sm_code 66) 3 = .ok (.iconst 5, 1) := by decide +kernel
theorem r66_3 {X : sm_X} {w : sm_W} {Q : Option Value → sm_W → Prop} {x0 : Nat} {x1 : Int32} {x2 : Int32} {x3 : Int32} {s0 : Int32} {s1 : Int32} {s2 : Nat} : sm_R X 66 3 [.ref x0, .int x1, .int x2, .int x3] [.int s0, .int s1, .ref s2] w Q ↔ sm_R X 66 4 [.ref x0, .int x1, .int x2, .int x3] [.int 5, .int s0, .int s1, .ref s2] w Q := sm_R_go d66_3 rfl
theorem d66_4 : decode (sm_code 66) 4 = .ok (.invokevirtual 90, 3) := by decide +kernel
theorem r66_4 {X : sm_X} {w : sm_W} {Q : Option Value → sm_W → Prop} {x0 : Nat} {x1 : Int32} {x2 : Int32} {x3 : Int32} {s0 : Int32} {s1 : Int32} {s2 : Int32} {s3 : Nat} : sm_R X 66 4 [.ref x0, .int x1, .int x2, .int x3] [.int s0, .int s1, .int s2, .ref s3] w Q ↔ (sm_cN (sm_at w s3) = some 7 ∧ sm_R X 62 0 [.ref s3, .int s2, .int s1, .int s0] [] w (fun v w => sm_R X 66 7 [.ref x0, .int x1, .int x2, .int x3] (v.toList ++ []) w Q)) := sm_q_vir (k := 62) (as := [.ref s3, .int s2, .int s1, .int s0]) (rest := []) d66_4 rfl rfl rfl rfl rfl
theorem d66_7 : decode (sm_code 66) 7 = .ok (.ifCond .eq 17, 3) := by decide +kernel
theorem r66_7 {X : sm_X} {w : sm_W} {Q : Option Value → sm_W → Prop} {x0 : Nat} {x1 : Int32} {x2 : Int32} {x3 : Int32} {s0 : Int32} : sm_R X 66 7 [.ref x0, .int x1, .int x2, .int x3] [.int s0] w Q ↔ (if s0 = 0 then sm_R X 66 24 [.ref x0, .int x1, .int x2, .int x3] [] w Q else sm_R X 66 10 [.ref x0, .int x1, .int x2, .int x3] [] w Q) := sm_q_br d66_7 rfl
theorem d66_10 : decode (sm_code 66) 10 = .ok (.aload_n 0, 1) := by decide +kernel
theorem r66_10 {X : sm_X} {w : sm_W} {Q : Option Value → sm_W → Prop} {x0 : Nat} {x1 : Int32} {x2 : Int32} {x3 : Int32} : sm_R X 66 10 [.ref x0, .int x1, .int x2, .int x3] [] w Q ↔ sm_R X 66 11 [.ref x0, .int x1, .int x2, .int x3] [.ref x0] w Q := sm_R_go d66_10 rfl
theorem d66_11 : decode (sm_code 66) 11 = .ok (.iload_n 2, 1) := by decide +kernel
theorem r66_11 {X : sm_X} {w : sm_W} {Q : Option Value → sm_W → Prop} {x0 : Nat} {x1 : Int32} {x2 : Int32} {x3 : Int32} {s0 : Nat} : sm_R X 66 11 [.ref x0, .int x1, .int x2, .int x3] [.ref s0] w Q ↔ sm_R X 66 12 [.ref x0, .int x1, .int x2, .int x3] [.int x2, .ref s0] w Q := sm_R_go d66_11 rfl
theorem d66_12 : decode (sm_code 66) 12 = .ok (.iconst 0, 1) := by decide +kernel
theorem r66_12 {X : sm_X} {w : sm_W} {Q : Option Value → sm_W → Prop} {x0 : Nat} {x1 : Int32} {x2 : Int32} {x3 : Int32} {s0 : Int32} {s1 : Nat} : sm_R X 66 12 [.ref x0, .int x1, .int x2, .int x3] [.int s0, .ref s1] w Q ↔ sm_R X 66 13 [.ref x0, .int x1, .int x2, .int x3] [.int 0, .int s0, .ref s1] w Q := sm_R_go d66_12 rfl
theorem d66_13 : decode (sm_code 66) 13 = .ok (.iconst 5, 1) := by decide +kernel
theorem r66_13 {X : sm_X} {w : sm_W} {Q : Option Value → sm_W → Prop} {x0 : Nat} {x1 : Int32} {x2 : Int32} {x3 : Int32} {s0 : Int32} {s1 : Int32} {s2 : Nat} : sm_R X 66 13 [.ref x0, .int x1, .int x2, .int x3] [.int s0, .int s1, .ref s2] w Q ↔ sm_R X 66 14 [.ref x0, .int x1, .int x2, .int x3] [.int 5, .int s0, .int s1, .ref s2] w Q := sm_R_go d66_13 rfl
theorem d66_14 : decode (sm_code 66) 14 = .ok (.invokevirtual 90, 3) := by decide +kernel
theorem r66_14 {X : sm_X} {w : sm_W} {Q : Option Value → sm_W → Prop} {x0 : Nat} {x1 : Int32} {x2 : Int32} {x3 : Int32} {s0 : Int32} {s1 : Int32} {s2 : Int32} {s3 : Nat} : sm_R X 66 14 [.ref x0, .int x1, .int x2, .int x3] [.int s0, .int s1, .int s2, .ref s3] w Q ↔ (sm_cN (sm_at w s3) = some 7 ∧ sm_R X 62 0 [.ref s3, .int s2, .int s1, .int s0] [] w (fun v w => sm_R X 66 17 [.ref x0, .int x1, .int x2, .int x3] (v.toList ++ []) w Q)) := sm_q_vir (k := 62) (as := [.ref s3, .int s2, .int s1, .int s0]) (rest := []) d66_14 rfl rfl rfl rfl rfl
theorem d66_17 : decode (sm_code 66) 17 = .ok (.ifCond .eq 7, 3) := by decide +kernel
theorem r66_17 {X : sm_X} {w : sm_W} {Q : Option Value → sm_W → Prop} {x0 : Nat} {x1 : Int32} {x2 : Int32} {x3 : Int32} {s0 : Int32} : sm_R X 66 17 [.ref x0, .int x1, .int x2, .int x3] [.int s0] w Q ↔ (if s0 = 0 then sm_R X 66 24 [.ref x0, .int x1, .int x2, .int x3] [] w Q else sm_R X 66 20 [.ref x0, .int x1, .int x2, .int x3] [] w Q) := sm_q_br d66_17 rfl
theorem d66_20 : decode (sm_code 66) 20 = .ok (.iload_n 3, 1) := by decide +kernel
theorem r66_20 {X : sm_X} {w : sm_W} {Q : Option Value → sm_W → Prop} {x0 : Nat} {x1 : Int32} {x2 : Int32} {x3 : Int32} : sm_R X 66 20 [.ref x0, .int x1, .int x2, .int x3] [] w Q ↔ sm_R X 66 21 [.ref x0, .int x1, .int x2, .int x3] [.int x3] w Q := sm_R_go d66_20 rfl
theorem d66_21 : decode (sm_code 66) 21 = .ok (.ifCond .ge 7, 3) := by decide +kernel
theorem r66_21 {X : sm_X} {w : sm_W} {Q : Option Value → sm_W → Prop} {x0 : Nat} {x1 : Int32} {x2 : Int32} {x3 : Int32} {s0 : Int32} : sm_R X 66 21 [.ref x0, .int x1, .int x2, .int x3] [.int s0] w Q ↔ (if 0 ≤ s0 then sm_R X 66 28 [.ref x0, .int x1, .int x2, .int x3] [] w Q else sm_R X 66 24 [.ref x0, .int x1, .int x2, .int x3] [] w Q) := sm_q_br d66_21 rfl
theorem d66_24 : decode (sm_code 66) 24 = .ok (.iconst (-1), 1) := by decide +kernel
theorem r66_24 {X : sm_X} {w : sm_W} {Q : Option Value → sm_W → Prop} {x0 : Nat} {x1 : Int32} {x2 : Int32} {x3 : Int32} : sm_R X 66 24 [.ref x0, .int x1, .int x2, .int x3] [] w Q ↔ sm_R X 66 25 [.ref x0, .int x1, .int x2, .int x3] [.int (-1)] w Q := sm_R_go d66_24 rfl
theorem d66_25 : decode (sm_code 66) 25 = .ok (.goto 12, 3) := by decide +kernel
theorem r66_25 {X : sm_X} {w : sm_W} {Q : Option Value → sm_W → Prop} {x0 : Nat} {x1 : Int32} {x2 : Int32} {x3 : Int32} {s0 : Int32} : sm_R X 66 25 [.ref x0, .int x1, .int x2, .int x3] [.int s0] w Q ↔ sm_R X 66 37 [.ref x0, .int x1, .int x2, .int x3] [.int s0] w Q := sm_R_go d66_25 rfl
theorem d66_28 : decode (sm_code 66) 28 = .ok (.aload_n 0, 1) := by decide +kernel
theorem r66_28 {X : sm_X} {w : sm_W} {Q : Option Value → sm_W → Prop} {x0 : Nat} {x1 : Int32} {x2 : Int32} {x3 : Int32} : sm_R X 66 28 [.ref x0, .int x1, .int x2, .int x3] [] w Q ↔ sm_R X 66 29 [.ref x0, .int x1, .int x2, .int x3] [.ref x0] w Q := sm_R_go d66_28 rfl
theorem d66_29 : decode (sm_code 66) 29 = .ok (.iconst (-1), 1) := by decide +kernel
theorem r66_29 {X : sm_X} {w : sm_W} {Q : Option Value → sm_W → Prop} {x0 : Nat} {x1 : Int32} {x2 : Int32} {x3 : Int32} {s0 : Nat} : sm_R X 66 29 [.ref x0, .int x1, .int x2, .int x3] [.ref s0] w Q ↔ sm_R X 66 30 [.ref x0, .int x1, .int x2, .int x3] [.int (-1), .ref s0] w Q := sm_R_go d66_29 rfl
theorem d66_30 : decode (sm_code 66) 30 = .ok (.iload_n 1, 1) := by decide +kernel
theorem r66_30 {X : sm_X} {w : sm_W} {Q : Option Value → sm_W → Prop} {x0 : Nat} {x1 : Int32} {x2 : Int32} {x3 : Int32} {s0 : Int32} {s1 : Nat} : sm_R X 66 30 [.ref x0, .int x1, .int x2, .int x3] [.int s0, .ref s1] w Q ↔ sm_R X 66 31 [.ref x0, .int x1, .int x2, .int x3] [.int x1, .int s0, .ref s1] w Q := sm_R_go d66_30 rfl
theorem d66_31 : decode (sm_code 66) 31 = .ok (.iload_n 2, 1) := by decide +kernel
theorem r66_31 {X : sm_X} {w : sm_W} {Q : Option Value → sm_W → Prop} {x0 : Nat} {x1 : Int32} {x2 : Int32} {x3 : Int32} {s0 : Int32} {s1 : Int32} {s2 : Nat} : sm_R X 66 31 [.ref x0, .int x1, .int x2, .int x3] [.int s0, .int s1, .ref s2] w Q ↔ sm_R X 66 32 [.ref x0, .int x1, .int x2, .int x3] [.int x2, .int s0, .int s1, .ref s2] w Q := sm_R_go d66_31 rfl
theorem d66_32 : decode (sm_code 66) 32 = .ok (.iload_n 3, 1) := by decide +kernel
theorem r66_32 {X : sm_X} {w : sm_W} {Q : Option Value → sm_W → Prop} {x0 : Nat} {x1 : Int32} {x2 : Int32} {x3 : Int32} {s0 : Int32} {s1 : Int32} {s2 : Int32} {s3 : Nat} : sm_R X 66 32 [.ref x0, .int x1, .int x2, .int x3] [.int s0, .int s1, .int s2, .ref s3] w Q ↔ sm_R X 66 33 [.ref x0, .int x1, .int x2, .int x3] [.int x3, .int s0, .int s1, .int s2, .ref s3] w Q := sm_R_go d66_32 rfl
theorem d66_33 : decode (sm_code 66) 33 = .ok (.iconst 0, 1) := by decide +kernel
theorem r66_33 {X : sm_X} {w : sm_W} {Q : Option Value → sm_W → Prop} {x0 : Nat} {x1 : Int32} {x2 : Int32} {x3 : Int32} {s0 : Int32} {s1 : Int32} {s2 : Int32} {s3 : Int32} {s4 : Nat} : sm_R X 66 33 [.ref x0, .int x1, .int x2, .int x3] [.int s0, .int s1, .int s2, .int s3, .ref s4] w Q ↔ sm_R X 66 34 [.ref x0, .int x1, .int x2, .int x3] [.int 0, .int s0, .int s1, .int s2, .int s3, .ref s4] w Q := sm_R_go d66_33 rfl
theorem d66_34 : decode (sm_code 66) 34 = .ok (.invokevirtual 100, 3) := by decide +kernel
theorem r66_34 {X : sm_X} {w : sm_W} {Q : Option Value → sm_W → Prop} {x0 : Nat} {x1 : Int32} {x2 : Int32} {x3 : Int32} {s0 : Int32} {s1 : Int32} {s2 : Int32} {s3 : Int32} {s4 : Int32} {s5 : Nat} : sm_R X 66 34 [.ref x0, .int x1, .int x2, .int x3] [.int s0, .int s1, .int s2, .int s3, .int s4, .ref s5] w Q ↔ (sm_cN (sm_at w s5) = some 7 ∧ sm_R X 67 0 [.ref s5, .int s4, .int s3, .int s2, .int s1, .int s0] [] w (fun v w => sm_R X 66 37 [.ref x0, .int x1, .int x2, .int x3] (v.toList ++ []) w Q)) := sm_q_vir (k := 67) (as := [.ref s5, .int s4, .int s3, .int s2, .int s1, .int s0]) (rest := []) d66_34 rfl rfl rfl rfl rfl
theorem d66_37 : decode (sm_code 66) 37 = .ok (.ireturn, 1) := by decide +kernel
theorem r66_37 {X : sm_X} {w : sm_W} {Q : Option Value → sm_W → Prop} {x0 : Nat} {x1 : Int32} {x2 : Int32} {x3 : Int32} {s0 : Int32} : sm_R X 66 37 [.ref x0, .int x1, .int x2, .int x3] [.int s0] w Q ↔ Q (some (.int s0)) w := sm_q_iret d66_37 rfl
-- GroupLedgerModel.put(IIIII)I
theorem d67_0 : decode (sm_code 67) 0 = .ok (.aload_n 0, 1) := by decide +kernel
theorem r67_0 {X : sm_X} {w : sm_W} {Q : Option Value → sm_W → Prop} {x0 : Nat} {x1 : Int32} {x2 : Int32} {x3 : Int32} {x4 : Int32} {x5 : Int32} : sm_R X 67 0 [.ref x0, .int x1, .int x2, .int x3, .int x4, .int x5] [] w Q ↔ sm_R X 67 1 [.ref x0, .int x1, .int x2, .int x3, .int x4, .int x5] [.ref x0] w Q := sm_R_go d67_0 rfl
theorem d67_1 : decode (sm_code 67) 1 = .ok (.getfield 26, 3) := by decide +kernel
theorem r67_1 {X : sm_X} {w : sm_W} {Q : Option Value → sm_W → Prop} {x0 : Nat} {x1 : Int32} {x2 : Int32} {x3 : Int32} {x4 : Int32} {x5 : Int32} {s0 : Nat} : sm_R X 67 1 [.ref x0, .int x1, .int x2, .int x3, .int x4, .int x5] [.ref s0] w Q ↔ sm_wp (sm_fld 7 5 (sm_at w s0)) (fun v => sm_R X 67 4 [.ref x0, .int x1, .int x2, .int x3, .int x4, .int x5] [v] w Q) := sm_q_getf d67_1 rfl (by decide)
theorem d67_4 : decode (sm_code 67) 4 = .ok (.iconst 4, 1) := by decide +kernel
theorem r67_4 {X : sm_X} {w : sm_W} {Q : Option Value → sm_W → Prop} {x0 : Nat} {x1 : Int32} {x2 : Int32} {x3 : Int32} {x4 : Int32} {x5 : Int32} {s0 : Int32} : sm_R X 67 4 [.ref x0, .int x1, .int x2, .int x3, .int x4, .int x5] [.int s0] w Q ↔ sm_R X 67 5 [.ref x0, .int x1, .int x2, .int x3, .int x4, .int x5] [.int 4, .int s0] w Q := sm_R_go d67_4 rfl
theorem d67_5 : decode (sm_code 67) 5 = .ok (.if_icmp .ne 6, 3) := by decide +kernel
theorem r67_5 {X : sm_X} {w : sm_W} {Q : Option Value → sm_W → Prop} {x0 : Nat} {x1 : Int32} {x2 : Int32} {x3 : Int32} {x4 : Int32} {x5 : Int32} {s0 : Int32} {s1 : Int32} : sm_R X 67 5 [.ref x0, .int x1, .int x2, .int x3, .int x4, .int x5] [.int s0, .int s1] w Q ↔ (if s1 = s0 then sm_R X 67 8 [.ref x0, .int x1, .int x2, .int x3, .int x4, .int x5] [] w Q else sm_R X 67 11 [.ref x0, .int x1, .int x2, .int x3, .int x4, .int x5] [] w Q) := sm_q_br d67_5 rfl
theorem d67_8 : decode (sm_code 67) 8 = .ok (.bipush (-2), 2) := by decide +kernel
theorem r67_8 {X : sm_X} {w : sm_W} {Q : Option Value → sm_W → Prop} {x0 : Nat} {x1 : Int32} {x2 : Int32} {x3 : Int32} {x4 : Int32} {x5 : Int32} : sm_R X 67 8 [.ref x0, .int x1, .int x2, .int x3, .int x4, .int x5] [] w Q ↔ sm_R X 67 10 [.ref x0, .int x1, .int x2, .int x3, .int x4, .int x5] [.int (-2)] w Q := sm_R_go d67_8 rfl
theorem d67_10 : decode (sm_code 67) 10 = .ok (.ireturn, 1) := by decide +kernel
theorem r67_10 {X : sm_X} {w : sm_W} {Q : Option Value → sm_W → Prop} {x0 : Nat} {x1 : Int32} {x2 : Int32} {x3 : Int32} {x4 : Int32} {x5 : Int32} {s0 : Int32} : sm_R X 67 10 [.ref x0, .int x1, .int x2, .int x3, .int x4, .int x5] [.int s0] w Q ↔ Q (some (.int s0)) w := sm_q_iret d67_10 rfl
theorem d67_11 : decode (sm_code 67) 11 = .ok (.aload_n 0, 1) := by decide +kernel
theorem r67_11 {X : sm_X} {w : sm_W} {Q : Option Value → sm_W → Prop} {x0 : Nat} {x1 : Int32} {x2 : Int32} {x3 : Int32} {x4 : Int32} {x5 : Int32} : sm_R X 67 11 [.ref x0, .int x1, .int x2, .int x3, .int x4, .int x5] [] w Q ↔ sm_R X 67 12 [.ref x0, .int x1, .int x2, .int x3, .int x4, .int x5] [.ref x0] w Q := sm_R_go d67_11 rfl
theorem d67_12 : decode (sm_code 67) 12 = .ok (.getfield 30, 3) := by decide +kernel
theorem r67_12 {X : sm_X} {w : sm_W} {Q : Option Value → sm_W → Prop} {x0 : Nat} {x1 : Int32} {x2 : Int32} {x3 : Int32} {x4 : Int32} {x5 : Int32} {s0 : Nat} : sm_R X 67 12 [.ref x0, .int x1, .int x2, .int x3, .int x4, .int x5] [.ref s0] w Q ↔ sm_wp (sm_fld 7 6 (sm_at w s0)) (fun v => sm_R X 67 15 [.ref x0, .int x1, .int x2, .int x3, .int x4, .int x5] [v] w Q) := sm_q_getf d67_12 rfl (by decide)
theorem d67_15 : decode (sm_code 67) 15 = .ok (.aload_n 0, 1) := by decide +kernel
theorem r67_15 {X : sm_X} {w : sm_W} {Q : Option Value → sm_W → Prop} {x0 : Nat} {x1 : Int32} {x2 : Int32} {x3 : Int32} {x4 : Int32} {x5 : Int32} {s0 : Nat} : sm_R X 67 15 [.ref x0, .int x1, .int x2, .int x3, .int x4, .int x5] [.ref s0] w Q ↔ sm_R X 67 16 [.ref x0, .int x1, .int x2, .int x3, .int x4, .int x5] [.ref x0, .ref s0] w Q := sm_R_go d67_15 rfl
theorem d67_16 : decode (sm_code 67) 16 = .ok (.getfield 26, 3) := by decide +kernel
theorem r67_16 {X : sm_X} {w : sm_W} {Q : Option Value → sm_W → Prop} {x0 : Nat} {x1 : Int32} {x2 : Int32} {x3 : Int32} {x4 : Int32} {x5 : Int32} {s0 : Nat} {s1 : Nat} : sm_R X 67 16 [.ref x0, .int x1, .int x2, .int x3, .int x4, .int x5] [.ref s0, .ref s1] w Q ↔ sm_wp (sm_fld 7 5 (sm_at w s0)) (fun v => sm_R X 67 19 [.ref x0, .int x1, .int x2, .int x3, .int x4, .int x5] [v, .ref s1] w Q) := sm_q_getf d67_16 rfl (by decide)
theorem d67_19 : decode (sm_code 67) 19 = .ok (.iload_n 1, 1) := by decide +kernel
theorem r67_19 {X : sm_X} {w : sm_W} {Q : Option Value → sm_W → Prop} {x0 : Nat} {x1 : Int32} {x2 : Int32} {x3 : Int32} {x4 : Int32} {x5 : Int32} {s0 : Int32} {s1 : Nat} : sm_R X 67 19 [.ref x0, .int x1, .int x2, .int x3, .int x4, .int x5] [.int s0, .ref s1] w Q ↔ sm_R X 67 20 [.ref x0, .int x1, .int x2, .int x3, .int x4, .int x5] [.int x1, .int s0, .ref s1] w Q := sm_R_go d67_19 rfl
theorem d67_20 : decode (sm_code 67) 20 = .ok (.iastore, 1) := by decide +kernel
theorem r67_20 {X : sm_X} {w : sm_W} {Q : Option Value → sm_W → Prop} {x0 : Nat} {x1 : Int32} {x2 : Int32} {x3 : Int32} {x4 : Int32} {x5 : Int32} {s0 : Int32} {s1 : Int32} {s2 : Nat} : sm_R X 67 20 [.ref x0, .int x1, .int x2, .int x3, .int x4, .int x5] [.int s0, .int s1, .ref s2] w Q ↔ sm_wp (sm_si s1 s0 (sm_at w s2)) (fun c => sm_R X 67 21 [.ref x0, .int x1, .int x2, .int x3, .int x4, .int x5] [] (w.set (s2 - 100) c) Q) := sm_q_iast d67_20
theorem d67_21 : decode (sm_code 67) 21 = .ok (.aload_n 0, 1) := by decide +kernel
theorem r67_21 {X : sm_X} {w : sm_W} {Q : Option Value → sm_W → Prop} {x0 : Nat} {x1 : Int32} {x2 : Int32} {x3 : Int32} {x4 : Int32} {x5 : Int32} : sm_R X 67 21 [.ref x0, .int x1, .int x2, .int x3, .int x4, .int x5] [] w Q ↔ sm_R X 67 22 [.ref x0, .int x1, .int x2, .int x3, .int x4, .int x5] [.ref x0] w Q := sm_R_go d67_21 rfl
theorem d67_22 : decode (sm_code 67) 22 = .ok (.getfield 33, 3) := by decide +kernel
theorem r67_22 {X : sm_X} {w : sm_W} {Q : Option Value → sm_W → Prop} {x0 : Nat} {x1 : Int32} {x2 : Int32} {x3 : Int32} {x4 : Int32} {x5 : Int32} {s0 : Nat} : sm_R X 67 22 [.ref x0, .int x1, .int x2, .int x3, .int x4, .int x5] [.ref s0] w Q ↔ sm_wp (sm_fld 7 7 (sm_at w s0)) (fun v => sm_R X 67 25 [.ref x0, .int x1, .int x2, .int x3, .int x4, .int x5] [v] w Q) := sm_q_getf d67_22 rfl (by decide)
theorem d67_25 : decode (sm_code 67) 25 = .ok (.aload_n 0, 1) := by decide +kernel
theorem r67_25 {X : sm_X} {w : sm_W} {Q : Option Value → sm_W → Prop} {x0 : Nat} {x1 : Int32} {x2 : Int32} {x3 : Int32} {x4 : Int32} {x5 : Int32} {s0 : Nat} : sm_R X 67 25 [.ref x0, .int x1, .int x2, .int x3, .int x4, .int x5] [.ref s0] w Q ↔ sm_R X 67 26 [.ref x0, .int x1, .int x2, .int x3, .int x4, .int x5] [.ref x0, .ref s0] w Q := sm_R_go d67_25 rfl
theorem d67_26 : decode (sm_code 67) 26 = .ok (.getfield 26, 3) := by decide +kernel
theorem r67_26 {X : sm_X} {w : sm_W} {Q : Option Value → sm_W → Prop} {x0 : Nat} {x1 : Int32} {x2 : Int32} {x3 : Int32} {x4 : Int32} {x5 : Int32} {s0 : Nat} {s1 : Nat} : sm_R X 67 26 [.ref x0, .int x1, .int x2, .int x3, .int x4, .int x5] [.ref s0, .ref s1] w Q ↔ sm_wp (sm_fld 7 5 (sm_at w s0)) (fun v => sm_R X 67 29 [.ref x0, .int x1, .int x2, .int x3, .int x4, .int x5] [v, .ref s1] w Q) := sm_q_getf d67_26 rfl (by decide)
theorem d67_29 : decode (sm_code 67) 29 = .ok (.iload_n 2, 1) := by decide +kernel
theorem r67_29 {X : sm_X} {w : sm_W} {Q : Option Value → sm_W → Prop} {x0 : Nat} {x1 : Int32} {x2 : Int32} {x3 : Int32} {x4 : Int32} {x5 : Int32} {s0 : Int32} {s1 : Nat} : sm_R X 67 29 [.ref x0, .int x1, .int x2, .int x3, .int x4, .int x5] [.int s0, .ref s1] w Q ↔ sm_R X 67 30 [.ref x0, .int x1, .int x2, .int x3, .int x4, .int x5] [.int x2, .int s0, .ref s1] w Q := sm_R_go d67_29 rfl
theorem d67_30 : decode (sm_code 67) 30 = .ok (.iastore, 1) := by decide +kernel
theorem r67_30 {X : sm_X} {w : sm_W} {Q : Option Value → sm_W → Prop} {x0 : Nat} {x1 : Int32} {x2 : Int32} {x3 : Int32} {x4 : Int32} {x5 : Int32} {s0 : Int32} {s1 : Int32} {s2 : Nat} : sm_R X 67 30 [.ref x0, .int x1, .int x2, .int x3, .int x4, .int x5] [.int s0, .int s1, .ref s2] w Q ↔ sm_wp (sm_si s1 s0 (sm_at w s2)) (fun c => sm_R X 67 31 [.ref x0, .int x1, .int x2, .int x3, .int x4, .int x5] [] (w.set (s2 - 100) c) Q) := sm_q_iast d67_30
theorem d67_31 : decode (sm_code 67) 31 = .ok (.aload_n 0, 1) := by decide +kernel
theorem r67_31 {X : sm_X} {w : sm_W} {Q : Option Value → sm_W → Prop} {x0 : Nat} {x1 : Int32} {x2 : Int32} {x3 : Int32} {x4 : Int32} {x5 : Int32} : sm_R X 67 31 [.ref x0, .int x1, .int x2, .int x3, .int x4, .int x5] [] w Q ↔ sm_R X 67 32 [.ref x0, .int x1, .int x2, .int x3, .int x4, .int x5] [.ref x0] w Q := sm_R_go d67_31 rfl
theorem d67_32 : decode (sm_code 67) 32 = .ok (.getfield 36, 3) := by decide +kernel
theorem r67_32 {X : sm_X} {w : sm_W} {Q : Option Value → sm_W → Prop} {x0 : Nat} {x1 : Int32} {x2 : Int32} {x3 : Int32} {x4 : Int32} {x5 : Int32} {s0 : Nat} : sm_R X 67 32 [.ref x0, .int x1, .int x2, .int x3, .int x4, .int x5] [.ref s0] w Q ↔ sm_wp (sm_fld 7 8 (sm_at w s0)) (fun v => sm_R X 67 35 [.ref x0, .int x1, .int x2, .int x3, .int x4, .int x5] [v] w Q) := sm_q_getf d67_32 rfl (by decide)
theorem d67_35 : decode (sm_code 67) 35 = .ok (.aload_n 0, 1) := by decide +kernel
theorem r67_35 {X : sm_X} {w : sm_W} {Q : Option Value → sm_W → Prop} {x0 : Nat} {x1 : Int32} {x2 : Int32} {x3 : Int32} {x4 : Int32} {x5 : Int32} {s0 : Nat} : sm_R X 67 35 [.ref x0, .int x1, .int x2, .int x3, .int x4, .int x5] [.ref s0] w Q ↔ sm_R X 67 36 [.ref x0, .int x1, .int x2, .int x3, .int x4, .int x5] [.ref x0, .ref s0] w Q := sm_R_go d67_35 rfl
theorem d67_36 : decode (sm_code 67) 36 = .ok (.getfield 26, 3) := by decide +kernel
theorem r67_36 {X : sm_X} {w : sm_W} {Q : Option Value → sm_W → Prop} {x0 : Nat} {x1 : Int32} {x2 : Int32} {x3 : Int32} {x4 : Int32} {x5 : Int32} {s0 : Nat} {s1 : Nat} : sm_R X 67 36 [.ref x0, .int x1, .int x2, .int x3, .int x4, .int x5] [.ref s0, .ref s1] w Q ↔ sm_wp (sm_fld 7 5 (sm_at w s0)) (fun v => sm_R X 67 39 [.ref x0, .int x1, .int x2, .int x3, .int x4, .int x5] [v, .ref s1] w Q) := sm_q_getf d67_36 rfl (by decide)
theorem d67_39 : decode (sm_code 67) 39 = .ok (.iload_n 3, 1) := by decide +kernel
theorem r67_39 {X : sm_X} {w : sm_W} {Q : Option Value → sm_W → Prop} {x0 : Nat} {x1 : Int32} {x2 : Int32} {x3 : Int32} {x4 : Int32} {x5 : Int32} {s0 : Int32} {s1 : Nat} : sm_R X 67 39 [.ref x0, .int x1, .int x2, .int x3, .int x4, .int x5] [.int s0, .ref s1] w Q ↔ sm_R X 67 40 [.ref x0, .int x1, .int x2, .int x3, .int x4, .int x5] [.int x3, .int s0, .ref s1] w Q := sm_R_go d67_39 rfl
theorem d67_40 : decode (sm_code 67) 40 = .ok (.iastore, 1) := by decide +kernel
theorem r67_40 {X : sm_X} {w : sm_W} {Q : Option Value → sm_W → Prop} {x0 : Nat} {x1 : Int32} {x2 : Int32} {x3 : Int32} {x4 : Int32} {x5 : Int32} {s0 : Int32} {s1 : Int32} {s2 : Nat} : sm_R X 67 40 [.ref x0, .int x1, .int x2, .int x3, .int x4, .int x5] [.int s0, .int s1, .ref s2] w Q ↔ sm_wp (sm_si s1 s0 (sm_at w s2)) (fun c => sm_R X 67 41 [.ref x0, .int x1, .int x2, .int x3, .int x4, .int x5] [] (w.set (s2 - 100) c) Q) := sm_q_iast d67_40
theorem d67_41 : decode (sm_code 67) 41 = .ok (.aload_n 0, 1) := by decide +kernel
theorem r67_41 {X : sm_X} {w : sm_W} {Q : Option Value → sm_W → Prop} {x0 : Nat} {x1 : Int32} {x2 : Int32} {x3 : Int32} {x4 : Int32} {x5 : Int32} : sm_R X 67 41 [.ref x0, .int x1, .int x2, .int x3, .int x4, .int x5] [] w Q ↔ sm_R X 67 42 [.ref x0, .int x1, .int x2, .int x3, .int x4, .int x5] [.ref x0] w Q := sm_R_go d67_41 rfl
theorem d67_42 : decode (sm_code 67) 42 = .ok (.getfield 39, 3) := by decide +kernel
theorem r67_42 {X : sm_X} {w : sm_W} {Q : Option Value → sm_W → Prop} {x0 : Nat} {x1 : Int32} {x2 : Int32} {x3 : Int32} {x4 : Int32} {x5 : Int32} {s0 : Nat} : sm_R X 67 42 [.ref x0, .int x1, .int x2, .int x3, .int x4, .int x5] [.ref s0] w Q ↔ sm_wp (sm_fld 7 9 (sm_at w s0)) (fun v => sm_R X 67 45 [.ref x0, .int x1, .int x2, .int x3, .int x4, .int x5] [v] w Q) := sm_q_getf d67_42 rfl (by decide)
theorem d67_45 : decode (sm_code 67) 45 = .ok (.aload_n 0, 1) := by decide +kernel
theorem r67_45 {X : sm_X} {w : sm_W} {Q : Option Value → sm_W → Prop} {x0 : Nat} {x1 : Int32} {x2 : Int32} {x3 : Int32} {x4 : Int32} {x5 : Int32} {s0 : Nat} : sm_R X 67 45 [.ref x0, .int x1, .int x2, .int x3, .int x4, .int x5] [.ref s0] w Q ↔ sm_R X 67 46 [.ref x0, .int x1, .int x2, .int x3, .int x4, .int x5] [.ref x0, .ref s0] w Q := sm_R_go d67_45 rfl
theorem d67_46 : decode (sm_code 67) 46 = .ok (.getfield 26, 3) := by decide +kernel
theorem r67_46 {X : sm_X} {w : sm_W} {Q : Option Value → sm_W → Prop} {x0 : Nat} {x1 : Int32} {x2 : Int32} {x3 : Int32} {x4 : Int32} {x5 : Int32} {s0 : Nat} {s1 : Nat} : sm_R X 67 46 [.ref x0, .int x1, .int x2, .int x3, .int x4, .int x5] [.ref s0, .ref s1] w Q ↔ sm_wp (sm_fld 7 5 (sm_at w s0)) (fun v => sm_R X 67 49 [.ref x0, .int x1, .int x2, .int x3, .int x4, .int x5] [v, .ref s1] w Q) := sm_q_getf d67_46 rfl (by decide)
theorem d67_49 : decode (sm_code 67) 49 = .ok (.iload 4, 2) := by decide +kernel
theorem r67_49 {X : sm_X} {w : sm_W} {Q : Option Value → sm_W → Prop} {x0 : Nat} {x1 : Int32} {x2 : Int32} {x3 : Int32} {x4 : Int32} {x5 : Int32} {s0 : Int32} {s1 : Nat} : sm_R X 67 49 [.ref x0, .int x1, .int x2, .int x3, .int x4, .int x5] [.int s0, .ref s1] w Q ↔ sm_R X 67 51 [.ref x0, .int x1, .int x2, .int x3, .int x4, .int x5] [.int x4, .int s0, .ref s1] w Q := sm_R_go d67_49 rfl
theorem d67_51 : decode (sm_code 67) 51 = .ok (.iastore, 1) := by decide +kernel
theorem r67_51 {X : sm_X} {w : sm_W} {Q : Option Value → sm_W → Prop} {x0 : Nat} {x1 : Int32} {x2 : Int32} {x3 : Int32} {x4 : Int32} {x5 : Int32} {s0 : Int32} {s1 : Int32} {s2 : Nat} : sm_R X 67 51 [.ref x0, .int x1, .int x2, .int x3, .int x4, .int x5] [.int s0, .int s1, .ref s2] w Q ↔ sm_wp (sm_si s1 s0 (sm_at w s2)) (fun c => sm_R X 67 52 [.ref x0, .int x1, .int x2, .int x3, .int x4, .int x5] [] (w.set (s2 - 100) c) Q) := sm_q_iast d67_51
theorem d67_52 : decode (sm_code 67) 52 = .ok (.aload_n 0, 1) := by decide +kernel
theorem r67_52 {X : sm_X} {w : sm_W} {Q : Option Value → sm_W → Prop} {x0 : Nat} {x1 : Int32} {x2 : Int32} {x3 : Int32} {x4 : Int32} {x5 : Int32} : sm_R X 67 52 [.ref x0, .int x1, .int x2, .int x3, .int x4, .int x5] [] w Q ↔ sm_R X 67 53 [.ref x0, .int x1, .int x2, .int x3, .int x4, .int x5] [.ref x0] w Q := sm_R_go d67_52 rfl
theorem d67_53 : decode (sm_code 67) 53 = .ok (.getfield 42, 3) := by decide +kernel
theorem r67_53 {X : sm_X} {w : sm_W} {Q : Option Value → sm_W → Prop} {x0 : Nat} {x1 : Int32} {x2 : Int32} {x3 : Int32} {x4 : Int32} {x5 : Int32} {s0 : Nat} : sm_R X 67 53 [.ref x0, .int x1, .int x2, .int x3, .int x4, .int x5] [.ref s0] w Q ↔ sm_wp (sm_fld 7 10 (sm_at w s0)) (fun v => sm_R X 67 56 [.ref x0, .int x1, .int x2, .int x3, .int x4, .int x5] [v] w Q) := sm_q_getf d67_53 rfl (by decide)
theorem d67_56 : decode (sm_code 67) 56 = .ok (.aload_n 0, 1) := by decide +kernel
theorem r67_56 {X : sm_X} {w : sm_W} {Q : Option Value → sm_W → Prop} {x0 : Nat} {x1 : Int32} {x2 : Int32} {x3 : Int32} {x4 : Int32} {x5 : Int32} {s0 : Nat} : sm_R X 67 56 [.ref x0, .int x1, .int x2, .int x3, .int x4, .int x5] [.ref s0] w Q ↔ sm_R X 67 57 [.ref x0, .int x1, .int x2, .int x3, .int x4, .int x5] [.ref x0, .ref s0] w Q := sm_R_go d67_56 rfl
theorem d67_57 : decode (sm_code 67) 57 = .ok (.getfield 26, 3) := by decide +kernel
theorem r67_57 {X : sm_X} {w : sm_W} {Q : Option Value → sm_W → Prop} {x0 : Nat} {x1 : Int32} {x2 : Int32} {x3 : Int32} {x4 : Int32} {x5 : Int32} {s0 : Nat} {s1 : Nat} : sm_R X 67 57 [.ref x0, .int x1, .int x2, .int x3, .int x4, .int x5] [.ref s0, .ref s1] w Q ↔ sm_wp (sm_fld 7 5 (sm_at w s0)) (fun v => sm_R X 67 60 [.ref x0, .int x1, .int x2, .int x3, .int x4, .int x5] [v, .ref s1] w Q) := sm_q_getf d67_57 rfl (by decide)
theorem d67_60 : decode (sm_code 67) 60 = .ok (.iload 5, 2) := by decide +kernel
theorem r67_60 {X : sm_X} {w : sm_W} {Q : Option Value → sm_W → Prop} {x0 : Nat} {x1 : Int32} {x2 : Int32} {x3 : Int32} {x4 : Int32} {x5 : Int32} {s0 : Int32} {s1 : Nat} : sm_R X 67 60 [.ref x0, .int x1, .int x2, .int x3, .int x4, .int x5] [.int s0, .ref s1] w Q ↔ sm_R X 67 62 [.ref x0, .int x1, .int x2, .int x3, .int x4, .int x5] [.int x5, .int s0, .ref s1] w Q := sm_R_go d67_60 rfl
theorem d67_62 : decode (sm_code 67) 62 = .ok (.iastore, 1) := by decide +kernel
theorem r67_62 {X : sm_X} {w : sm_W} {Q : Option Value → sm_W → Prop} {x0 : Nat} {x1 : Int32} {x2 : Int32} {x3 : Int32} {x4 : Int32} {x5 : Int32} {s0 : Int32} {s1 : Int32} {s2 : Nat} : sm_R X 67 62 [.ref x0, .int x1, .int x2, .int x3, .int x4, .int x5] [.int s0, .int s1, .ref s2] w Q ↔ sm_wp (sm_si s1 s0 (sm_at w s2)) (fun c => sm_R X 67 63 [.ref x0, .int x1, .int x2, .int x3, .int x4, .int x5] [] (w.set (s2 - 100) c) Q) := sm_q_iast d67_62
theorem d67_63 : decode (sm_code 67) 63 = .ok (.aload_n 0, 1) := by decide +kernel
theorem r67_63 {X : sm_X} {w : sm_W} {Q : Option Value → sm_W → Prop} {x0 : Nat} {x1 : Int32} {x2 : Int32} {x3 : Int32} {x4 : Int32} {x5 : Int32} : sm_R X 67 63 [.ref x0, .int x1, .int x2, .int x3, .int x4, .int x5] [] w Q ↔ sm_R X 67 64 [.ref x0, .int x1, .int x2, .int x3, .int x4, .int x5] [.ref x0] w Q := sm_R_go d67_63 rfl
theorem d67_64 : decode (sm_code 67) 64 = .ok (.dup, 1) := by decide +kernel
theorem r67_64 {X : sm_X} {w : sm_W} {Q : Option Value → sm_W → Prop} {x0 : Nat} {x1 : Int32} {x2 : Int32} {x3 : Int32} {x4 : Int32} {x5 : Int32} {s0 : Nat} : sm_R X 67 64 [.ref x0, .int x1, .int x2, .int x3, .int x4, .int x5] [.ref s0] w Q ↔ sm_R X 67 65 [.ref x0, .int x1, .int x2, .int x3, .int x4, .int x5] [.ref s0, .ref s0] w Q := sm_R_go d67_64 rfl
theorem d67_65 : decode (sm_code 67) 65 = .ok (.getfield 26, 3) := by decide +kernel
theorem r67_65 {X : sm_X} {w : sm_W} {Q : Option Value → sm_W → Prop} {x0 : Nat} {x1 : Int32} {x2 : Int32} {x3 : Int32} {x4 : Int32} {x5 : Int32} {s0 : Nat} {s1 : Nat} : sm_R X 67 65 [.ref x0, .int x1, .int x2, .int x3, .int x4, .int x5] [.ref s0, .ref s1] w Q ↔ sm_wp (sm_fld 7 5 (sm_at w s0)) (fun v => sm_R X 67 68 [.ref x0, .int x1, .int x2, .int x3, .int x4, .int x5] [v, .ref s1] w Q) := sm_q_getf d67_65 rfl (by decide)
theorem d67_68 : decode (sm_code 67) 68 = .ok (.iconst 1, 1) := by decide +kernel
theorem r67_68 {X : sm_X} {w : sm_W} {Q : Option Value → sm_W → Prop} {x0 : Nat} {x1 : Int32} {x2 : Int32} {x3 : Int32} {x4 : Int32} {x5 : Int32} {s0 : Int32} {s1 : Nat} : sm_R X 67 68 [.ref x0, .int x1, .int x2, .int x3, .int x4, .int x5] [.int s0, .ref s1] w Q ↔ sm_R X 67 69 [.ref x0, .int x1, .int x2, .int x3, .int x4, .int x5] [.int 1, .int s0, .ref s1] w Q := sm_R_go d67_68 rfl
theorem d67_69 : decode (sm_code 67) 69 = .ok (.iadd, 1) := by decide +kernel
theorem r67_69 {X : sm_X} {w : sm_W} {Q : Option Value → sm_W → Prop} {x0 : Nat} {x1 : Int32} {x2 : Int32} {x3 : Int32} {x4 : Int32} {x5 : Int32} {s0 : Int32} {s1 : Int32} {s2 : Nat} : sm_R X 67 69 [.ref x0, .int x1, .int x2, .int x3, .int x4, .int x5] [.int s0, .int s1, .ref s2] w Q ↔ sm_R X 67 70 [.ref x0, .int x1, .int x2, .int x3, .int x4, .int x5] [.int (s1 + s0), .ref s2] w Q := sm_R_go d67_69 rfl
theorem d67_70 : decode (sm_code 67) 70 = .ok (.putfield 26, 3) := by decide +kernel
theorem r67_70 {X : sm_X} {w : sm_W} {Q : Option Value → sm_W → Prop} {x0 : Nat} {x1 : Int32} {x2 : Int32} {x3 : Int32} {x4 : Int32} {x5 : Int32} {s0 : Int32} {s1 : Nat} : sm_R X 67 70 [.ref x0, .int x1, .int x2, .int x3, .int x4, .int x5] [.int s0, .ref s1] w Q ↔ sm_wp (sm_pfl 7 5 (.int s0) (sm_at w s1)) (fun c => sm_R X 67 73 [.ref x0, .int x1, .int x2, .int x3, .int x4, .int x5] [] (w.set (s1 - 100) c) Q) := sm_q_putf d67_70 rfl rfl rfl (by decide)
theorem d67_73 : decode (sm_code 67) 73 = .ok (.aload_n 0, 1) := by decide +kernel
theorem r67_73 {X : sm_X} {w : sm_W} {Q : Option Value → sm_W → Prop} {x0 : Nat} {x1 : Int32} {x2 : Int32} {x3 : Int32} {x4 : Int32} {x5 : Int32} : sm_R X 67 73 [.ref x0, .int x1, .int x2, .int x3, .int x4, .int x5] [] w Q ↔ sm_R X 67 74 [.ref x0, .int x1, .int x2, .int x3, .int x4, .int x5] [.ref x0] w Q := sm_R_go d67_73 rfl
theorem d67_74 : decode (sm_code 67) 74 = .ok (.getfield 26, 3) := by decide +kernel
theorem r67_74 {X : sm_X} {w : sm_W} {Q : Option Value → sm_W → Prop} {x0 : Nat} {x1 : Int32} {x2 : Int32} {x3 : Int32} {x4 : Int32} {x5 : Int32} {s0 : Nat} : sm_R X 67 74 [.ref x0, .int x1, .int x2, .int x3, .int x4, .int x5] [.ref s0] w Q ↔ sm_wp (sm_fld 7 5 (sm_at w s0)) (fun v => sm_R X 67 77 [.ref x0, .int x1, .int x2, .int x3, .int x4, .int x5] [v] w Q) := sm_q_getf d67_74 rfl (by decide)
theorem d67_77 : decode (sm_code 67) 77 = .ok (.iconst 1, 1) := by decide +kernel
theorem r67_77 {X : sm_X} {w : sm_W} {Q : Option Value → sm_W → Prop} {x0 : Nat} {x1 : Int32} {x2 : Int32} {x3 : Int32} {x4 : Int32} {x5 : Int32} {s0 : Int32} : sm_R X 67 77 [.ref x0, .int x1, .int x2, .int x3, .int x4, .int x5] [.int s0] w Q ↔ sm_R X 67 78 [.ref x0, .int x1, .int x2, .int x3, .int x4, .int x5] [.int 1, .int s0] w Q := sm_R_go d67_77 rfl
theorem d67_78 : decode (sm_code 67) 78 = .ok (.isub, 1) := by decide +kernel
theorem r67_78 {X : sm_X} {w : sm_W} {Q : Option Value → sm_W → Prop} {x0 : Nat} {x1 : Int32} {x2 : Int32} {x3 : Int32} {x4 : Int32} {x5 : Int32} {s0 : Int32} {s1 : Int32} : sm_R X 67 78 [.ref x0, .int x1, .int x2, .int x3, .int x4, .int x5] [.int s0, .int s1] w Q ↔ sm_R X 67 79 [.ref x0, .int x1, .int x2, .int x3, .int x4, .int x5] [.int (s1 - s0)] w Q := sm_R_go d67_78 rfl
theorem d67_79 : decode (sm_code 67) 79 = .ok (.ireturn, 1) := by decide +kernel
theorem r67_79 {X : sm_X} {w : sm_W} {Q : Option Value → sm_W → Prop} {x0 : Nat} {x1 : Int32} {x2 : Int32} {x3 : Int32} {x4 : Int32} {x5 : Int32} {s0 : Int32} : sm_R X 67 79 [.ref x0, .int x1, .int x2, .int x3, .int x4, .int x5] [.int s0] w Q ↔ Q (some (.int s0)) w := sm_q_iret d67_79 rfl
-- GroupLedgerModel.call(IIIII)I
theorem d68_0 : decode (sm_code 68) 0 = .ok (.aload_n 0, 1) := by decide +kernel
theorem r68_0 {X : sm_X} {w : sm_W} {Q : Option Value → sm_W → Prop} {x0 : Nat} {x1 : Int32} {x2 : Int32} {x3 : Int32} {x4 : Int32} {x5 : Int32} : sm_R X 68 0 [.ref x0, .int x1, .int x2, .int x3, .int x4, .int x5] [] w Q ↔ sm_R X 68 1 [.ref x0, .int x1, .int x2, .int x3, .int x4, .int x5] [.ref x0] w Q := sm_R_go d68_0 rfl
theorem d68_1 : decode (sm_code 68) 1 = .ok (.iload_n 1, 1) := by decide +kernel
theorem r68_1 {X : sm_X} {w : sm_W} {Q : Option Value → sm_W → Prop} {x0 : Nat} {x1 : Int32} {x2 : Int32} {x3 : Int32} {x4 : Int32} {x5 : Int32} {s0 : Nat} : sm_R X 68 1 [.ref x0, .int x1, .int x2, .int x3, .int x4, .int x5] [.ref s0] w Q ↔ sm_R X 68 2 [.ref x0, .int x1, .int x2, .int x3, .int x4, .int x5] [.int x1, .ref s0] w Q := sm_R_go d68_1 rfl
theorem d68_2 : decode (sm_code 68) 2 = .ok (.iconst 0, 1) := by decide +kernel
theorem r68_2 {X : sm_X} {w : sm_W} {Q : Option Value → sm_W → Prop} {x0 : Nat} {x1 : Int32} {x2 : Int32} {x3 : Int32} {x4 : Int32} {x5 : Int32} {s0 : Int32} {s1 : Nat} : sm_R X 68 2 [.ref x0, .int x1, .int x2, .int x3, .int x4, .int x5] [.int s0, .ref s1] w Q ↔ sm_R X 68 3 [.ref x0, .int x1, .int x2, .int x3, .int x4, .int x5] [.int 0, .int s0, .ref s1] w Q := sm_R_go d68_2 rfl
theorem d68_3 : decode (sm_code 68) 3 = .ok (.iconst 5, 1) := by decide +kernel
theorem r68_3 {X : sm_X} {w : sm_W} {Q : Option Value → sm_W → Prop} {x0 : Nat} {x1 : Int32} {x2 : Int32} {x3 : Int32} {x4 : Int32} {x5 : Int32} {s0 : Int32} {s1 : Int32} {s2 : Nat} : sm_R X 68 3 [.ref x0, .int x1, .int x2, .int x3, .int x4, .int x5] [.int s0, .int s1, .ref s2] w Q ↔ sm_R X 68 4 [.ref x0, .int x1, .int x2, .int x3, .int x4, .int x5] [.int 5, .int s0, .int s1, .ref s2] w Q := sm_R_go d68_3 rfl
theorem d68_4 : decode (sm_code 68) 4 = .ok (.invokevirtual 90, 3) := by decide +kernel
theorem r68_4 {X : sm_X} {w : sm_W} {Q : Option Value → sm_W → Prop} {x0 : Nat} {x1 : Int32} {x2 : Int32} {x3 : Int32} {x4 : Int32} {x5 : Int32} {s0 : Int32} {s1 : Int32} {s2 : Int32} {s3 : Nat} : sm_R X 68 4 [.ref x0, .int x1, .int x2, .int x3, .int x4, .int x5] [.int s0, .int s1, .int s2, .ref s3] w Q ↔ (sm_cN (sm_at w s3) = some 7 ∧ sm_R X 62 0 [.ref s3, .int s2, .int s1, .int s0] [] w (fun v w => sm_R X 68 7 [.ref x0, .int x1, .int x2, .int x3, .int x4, .int x5] (v.toList ++ []) w Q)) := sm_q_vir (k := 62) (as := [.ref s3, .int s2, .int s1, .int s0]) (rest := []) d68_4 rfl rfl rfl rfl rfl
theorem d68_7 : decode (sm_code 68) 7 = .ok (.ifCond .eq 33, 3) := by decide +kernel
theorem r68_7 {X : sm_X} {w : sm_W} {Q : Option Value → sm_W → Prop} {x0 : Nat} {x1 : Int32} {x2 : Int32} {x3 : Int32} {x4 : Int32} {x5 : Int32} {s0 : Int32} : sm_R X 68 7 [.ref x0, .int x1, .int x2, .int x3, .int x4, .int x5] [.int s0] w Q ↔ (if s0 = 0 then sm_R X 68 40 [.ref x0, .int x1, .int x2, .int x3, .int x4, .int x5] [] w Q else sm_R X 68 10 [.ref x0, .int x1, .int x2, .int x3, .int x4, .int x5] [] w Q) := sm_q_br d68_7 rfl
theorem d68_10 : decode (sm_code 68) 10 = .ok (.aload_n 0, 1) := by decide +kernel
theorem r68_10 {X : sm_X} {w : sm_W} {Q : Option Value → sm_W → Prop} {x0 : Nat} {x1 : Int32} {x2 : Int32} {x3 : Int32} {x4 : Int32} {x5 : Int32} : sm_R X 68 10 [.ref x0, .int x1, .int x2, .int x3, .int x4, .int x5] [] w Q ↔ sm_R X 68 11 [.ref x0, .int x1, .int x2, .int x3, .int x4, .int x5] [.ref x0] w Q := sm_R_go d68_10 rfl
theorem d68_11 : decode (sm_code 68) 11 = .ok (.iload_n 2, 1) := by decide +kernel
theorem r68_11 {X : sm_X} {w : sm_W} {Q : Option Value → sm_W → Prop} {x0 : Nat} {x1 : Int32} {x2 : Int32} {x3 : Int32} {x4 : Int32} {x5 : Int32} {s0 : Nat} : sm_R X 68 11 [.ref x0, .int x1, .int x2, .int x3, .int x4, .int x5] [.ref s0] w Q ↔ sm_R X 68 12 [.ref x0, .int x1, .int x2, .int x3, .int x4, .int x5] [.int x2, .ref s0] w Q := sm_R_go d68_11 rfl
theorem d68_12 : decode (sm_code 68) 12 = .ok (.iconst 0, 1) := by decide +kernel
theorem r68_12 {X : sm_X} {w : sm_W} {Q : Option Value → sm_W → Prop} {x0 : Nat} {x1 : Int32} {x2 : Int32} {x3 : Int32} {x4 : Int32} {x5 : Int32} {s0 : Int32} {s1 : Nat} : sm_R X 68 12 [.ref x0, .int x1, .int x2, .int x3, .int x4, .int x5] [.int s0, .ref s1] w Q ↔ sm_R X 68 13 [.ref x0, .int x1, .int x2, .int x3, .int x4, .int x5] [.int 0, .int s0, .ref s1] w Q := sm_R_go d68_12 rfl
theorem d68_13 : decode (sm_code 68) 13 = .ok (.iconst 3, 1) := by decide +kernel
theorem r68_13 {X : sm_X} {w : sm_W} {Q : Option Value → sm_W → Prop} {x0 : Nat} {x1 : Int32} {x2 : Int32} {x3 : Int32} {x4 : Int32} {x5 : Int32} {s0 : Int32} {s1 : Int32} {s2 : Nat} : sm_R X 68 13 [.ref x0, .int x1, .int x2, .int x3, .int x4, .int x5] [.int s0, .int s1, .ref s2] w Q ↔ sm_R X 68 14 [.ref x0, .int x1, .int x2, .int x3, .int x4, .int x5] [.int 3, .int s0, .int s1, .ref s2] w Q := sm_R_go d68_13 rfl
theorem d68_14 : decode (sm_code 68) 14 = .ok (.invokevirtual 90, 3) := by decide +kernel
theorem r68_14 {X : sm_X} {w : sm_W} {Q : Option Value → sm_W → Prop} {x0 : Nat} {x1 : Int32} {x2 : Int32} {x3 : Int32} {x4 : Int32} {x5 : Int32} {s0 : Int32} {s1 : Int32} {s2 : Int32} {s3 : Nat} : sm_R X 68 14 [.ref x0, .int x1, .int x2, .int x3, .int x4, .int x5] [.int s0, .int s1, .int s2, .ref s3] w Q ↔ (sm_cN (sm_at w s3) = some 7 ∧ sm_R X 62 0 [.ref s3, .int s2, .int s1, .int s0] [] w (fun v w => sm_R X 68 17 [.ref x0, .int x1, .int x2, .int x3, .int x4, .int x5] (v.toList ++ []) w Q)) := sm_q_vir (k := 62) (as := [.ref s3, .int s2, .int s1, .int s0]) (rest := []) d68_14 rfl rfl rfl rfl rfl
theorem d68_17 : decode (sm_code 68) 17 = .ok (.ifCond .eq 23, 3) := by decide +kernel
theorem r68_17 {X : sm_X} {w : sm_W} {Q : Option Value → sm_W → Prop} {x0 : Nat} {x1 : Int32} {x2 : Int32} {x3 : Int32} {x4 : Int32} {x5 : Int32} {s0 : Int32} : sm_R X 68 17 [.ref x0, .int x1, .int x2, .int x3, .int x4, .int x5] [.int s0] w Q ↔ (if s0 = 0 then sm_R X 68 40 [.ref x0, .int x1, .int x2, .int x3, .int x4, .int x5] [] w Q else sm_R X 68 20 [.ref x0, .int x1, .int x2, .int x3, .int x4, .int x5] [] w Q) := sm_q_br d68_17 rfl
theorem d68_20 : decode (sm_code 68) 20 = .ok (.aload_n 0, 1) := by decide +kernel
theorem r68_20 {X : sm_X} {w : sm_W} {Q : Option Value → sm_W → Prop} {x0 : Nat} {x1 : Int32} {x2 : Int32} {x3 : Int32} {x4 : Int32} {x5 : Int32} : sm_R X 68 20 [.ref x0, .int x1, .int x2, .int x3, .int x4, .int x5] [] w Q ↔ sm_R X 68 21 [.ref x0, .int x1, .int x2, .int x3, .int x4, .int x5] [.ref x0] w Q := sm_R_go d68_20 rfl
theorem d68_21 : decode (sm_code 68) 21 = .ok (.iload_n 3, 1) := by decide +kernel
theorem r68_21 {X : sm_X} {w : sm_W} {Q : Option Value → sm_W → Prop} {x0 : Nat} {x1 : Int32} {x2 : Int32} {x3 : Int32} {x4 : Int32} {x5 : Int32} {s0 : Nat} : sm_R X 68 21 [.ref x0, .int x1, .int x2, .int x3, .int x4, .int x5] [.ref s0] w Q ↔ sm_R X 68 22 [.ref x0, .int x1, .int x2, .int x3, .int x4, .int x5] [.int x3, .ref s0] w Q := sm_R_go d68_21 rfl
theorem d68_22 : decode (sm_code 68) 22 = .ok (.iconst 0, 1) := by decide +kernel
theorem r68_22 {X : sm_X} {w : sm_W} {Q : Option Value → sm_W → Prop} {x0 : Nat} {x1 : Int32} {x2 : Int32} {x3 : Int32} {x4 : Int32} {x5 : Int32} {s0 : Int32} {s1 : Nat} : sm_R X 68 22 [.ref x0, .int x1, .int x2, .int x3, .int x4, .int x5] [.int s0, .ref s1] w Q ↔ sm_R X 68 23 [.ref x0, .int x1, .int x2, .int x3, .int x4, .int x5] [.int 0, .int s0, .ref s1] w Q := sm_R_go d68_22 rfl
theorem d68_23 : decode (sm_code 68) 23 = .ok (.iconst 2, 1) := by decide +kernel
theorem r68_23 {X : sm_X} {w : sm_W} {Q : Option Value → sm_W → Prop} {x0 : Nat} {x1 : Int32} {x2 : Int32} {x3 : Int32} {x4 : Int32} {x5 : Int32} {s0 : Int32} {s1 : Int32} {s2 : Nat} : sm_R X 68 23 [.ref x0, .int x1, .int x2, .int x3, .int x4, .int x5] [.int s0, .int s1, .ref s2] w Q ↔ sm_R X 68 24 [.ref x0, .int x1, .int x2, .int x3, .int x4, .int x5] [.int 2, .int s0, .int s1, .ref s2] w Q := sm_R_go d68_23 rfl
theorem d68_24 : decode (sm_code 68) 24 = .ok (.invokevirtual 90, 3) := by decide +kernel
theorem r68_24 {X : sm_X} {w : sm_W} {Q : Option Value → sm_W → Prop} {x0 : Nat} {x1 : Int32} {x2 : Int32} {x3 : Int32} {x4 : Int32} {x5 : Int32} {s0 : Int32} {s1 : Int32} {s2 : Int32} {s3 : Nat} : sm_R X 68 24 [.ref x0, .int x1, .int x2, .int x3, .int x4, .int x5] [.int s0, .int s1, .int s2, .ref s3] w Q ↔ (sm_cN (sm_at w s3) = some 7 ∧ sm_R X 62 0 [.ref s3, .int s2, .int s1, .int s0] [] w (fun v w => sm_R X 68 27 [.ref x0, .int x1, .int x2, .int x3, .int x4, .int x5] (v.toList ++ []) w Q)) := sm_q_vir (k := 62) (as := [.ref s3, .int s2, .int s1, .int s0]) (rest := []) d68_24 rfl rfl rfl rfl rfl
theorem d68_27 : decode (sm_code 68) 27 = .ok (.ifCond .eq 13, 3) := by decide +kernel
theorem r68_27 {X : sm_X} {w : sm_W} {Q : Option Value → sm_W → Prop} {x0 : Nat} {x1 : Int32} {x2 : Int32} {x3 : Int32} {x4 : Int32} {x5 : Int32} {s0 : Int32} : sm_R X 68 27 [.ref x0, .int x1, .int x2, .int x3, .int x4, .int x5] [.int s0] w Q ↔ (if s0 = 0 then sm_R X 68 40 [.ref x0, .int x1, .int x2, .int x3, .int x4, .int x5] [] w Q else sm_R X 68 30 [.ref x0, .int x1, .int x2, .int x3, .int x4, .int x5] [] w Q) := sm_q_br d68_27 rfl
theorem d68_30 : decode (sm_code 68) 30 = .ok (.iload 4, 2) := by decide +kernel
theorem r68_30 {X : sm_X} {w : sm_W} {Q : Option Value → sm_W → Prop} {x0 : Nat} {x1 : Int32} {x2 : Int32} {x3 : Int32} {x4 : Int32} {x5 : Int32} : sm_R X 68 30 [.ref x0, .int x1, .int x2, .int x3, .int x4, .int x5] [] w Q ↔ sm_R X 68 32 [.ref x0, .int x1, .int x2, .int x3, .int x4, .int x5] [.int x4] w Q := sm_R_go d68_30 rfl
theorem d68_32 : decode (sm_code 68) 32 = .ok (.ifCond .lt 8, 3) := by decide +kernel
theorem r68_32 {X : sm_X} {w : sm_W} {Q : Option Value → sm_W → Prop} {x0 : Nat} {x1 : Int32} {x2 : Int32} {x3 : Int32} {x4 : Int32} {x5 : Int32} {s0 : Int32} : sm_R X 68 32 [.ref x0, .int x1, .int x2, .int x3, .int x4, .int x5] [.int s0] w Q ↔ (if s0 < 0 then sm_R X 68 40 [.ref x0, .int x1, .int x2, .int x3, .int x4, .int x5] [] w Q else sm_R X 68 35 [.ref x0, .int x1, .int x2, .int x3, .int x4, .int x5] [] w Q) := sm_q_br d68_32 rfl
theorem d68_35 : decode (sm_code 68) 35 = .ok (.iload 5, 2) := by decide +kernel
theorem r68_35 {X : sm_X} {w : sm_W} {Q : Option Value → sm_W → Prop} {x0 : Nat} {x1 : Int32} {x2 : Int32} {x3 : Int32} {x4 : Int32} {x5 : Int32} : sm_R X 68 35 [.ref x0, .int x1, .int x2, .int x3, .int x4, .int x5] [] w Q ↔ sm_R X 68 37 [.ref x0, .int x1, .int x2, .int x3, .int x4, .int x5] [.int x5] w Q := sm_R_go d68_35 rfl
theorem d68_37 : decode (sm_code 68) 37 = .ok (.ifCond .ge 7, 3) := by decide +kernel
theorem r68_37 {X : sm_X} {w : sm_W} {Q : Option Value → sm_W → Prop} {x0 : Nat} {x1 : Int32} {x2 : Int32} {x3 : Int32} {x4 : Int32} {x5 : Int32} {s0 : Int32} : sm_R X 68 37 [.ref x0, .int x1, .int x2, .int x3, .int x4, .int x5] [.int s0] w Q ↔ (if 0 ≤ s0 then sm_R X 68 44 [.ref x0, .int x1, .int x2, .int x3, .int x4, .int x5] [] w Q else sm_R X 68 40 [.ref x0, .int x1, .int x2, .int x3, .int x4, .int x5] [] w Q) := sm_q_br d68_37 rfl
theorem d68_40 : decode (sm_code 68) 40 = .ok (.iconst (-1), 1) := by decide +kernel
theorem r68_40 {X : sm_X} {w : sm_W} {Q : Option Value → sm_W → Prop} {x0 : Nat} {x1 : Int32} {x2 : Int32} {x3 : Int32} {x4 : Int32} {x5 : Int32} : sm_R X 68 40 [.ref x0, .int x1, .int x2, .int x3, .int x4, .int x5] [] w Q ↔ sm_R X 68 41 [.ref x0, .int x1, .int x2, .int x3, .int x4, .int x5] [.int (-1)] w Q := sm_R_go d68_40 rfl
theorem d68_41 : decode (sm_code 68) 41 = .ok (.goto 14, 3) := by decide +kernel
theorem r68_41 {X : sm_X} {w : sm_W} {Q : Option Value → sm_W → Prop} {x0 : Nat} {x1 : Int32} {x2 : Int32} {x3 : Int32} {x4 : Int32} {x5 : Int32} {s0 : Int32} : sm_R X 68 41 [.ref x0, .int x1, .int x2, .int x3, .int x4, .int x5] [.int s0] w Q ↔ sm_R X 68 55 [.ref x0, .int x1, .int x2, .int x3, .int x4, .int x5] [.int s0] w Q := sm_R_go d68_41 rfl
theorem d68_44 : decode (sm_code 68) 44 = .ok (.aload_n 0, 1) := by decide +kernel
theorem r68_44 {X : sm_X} {w : sm_W} {Q : Option Value → sm_W → Prop} {x0 : Nat} {x1 : Int32} {x2 : Int32} {x3 : Int32} {x4 : Int32} {x5 : Int32} : sm_R X 68 44 [.ref x0, .int x1, .int x2, .int x3, .int x4, .int x5] [] w Q ↔ sm_R X 68 45 [.ref x0, .int x1, .int x2, .int x3, .int x4, .int x5] [.ref x0] w Q := sm_R_go d68_44 rfl
theorem d68_45 : decode (sm_code 68) 45 = .ok (.iload_n 3, 1) := by decide +kernel
theorem r68_45 {X : sm_X} {w : sm_W} {Q : Option Value → sm_W → Prop} {x0 : Nat} {x1 : Int32} {x2 : Int32} {x3 : Int32} {x4 : Int32} {x5 : Int32} {s0 : Nat} : sm_R X 68 45 [.ref x0, .int x1, .int x2, .int x3, .int x4, .int x5] [.ref s0] w Q ↔ sm_R X 68 46 [.ref x0, .int x1, .int x2, .int x3, .int x4, .int x5] [.int x3, .ref s0] w Q := sm_R_go d68_45 rfl
theorem d68_46 : decode (sm_code 68) 46 = .ok (.iload_n 1, 1) := by decide +kernel
theorem r68_46 {X : sm_X} {w : sm_W} {Q : Option Value → sm_W → Prop} {x0 : Nat} {x1 : Int32} {x2 : Int32} {x3 : Int32} {x4 : Int32} {x5 : Int32} {s0 : Int32} {s1 : Nat} : sm_R X 68 46 [.ref x0, .int x1, .int x2, .int x3, .int x4, .int x5] [.int s0, .ref s1] w Q ↔ sm_R X 68 47 [.ref x0, .int x1, .int x2, .int x3, .int x4, .int x5] [.int x1, .int s0, .ref s1] w Q := sm_R_go d68_46 rfl
theorem d68_47 : decode (sm_code 68) 47 = .ok (.iload_n 2, 1) := by decide +kernel
theorem r68_47 {X : sm_X} {w : sm_W} {Q : Option Value → sm_W → Prop} {x0 : Nat} {x1 : Int32} {x2 : Int32} {x3 : Int32} {x4 : Int32} {x5 : Int32} {s0 : Int32} {s1 : Int32} {s2 : Nat} : sm_R X 68 47 [.ref x0, .int x1, .int x2, .int x3, .int x4, .int x5] [.int s0, .int s1, .ref s2] w Q ↔ sm_R X 68 48 [.ref x0, .int x1, .int x2, .int x3, .int x4, .int x5] [.int x2, .int s0, .int s1, .ref s2] w Q := sm_R_go d68_47 rfl
theorem d68_48 : decode (sm_code 68) 48 = .ok (.iload 4, 2) := by decide +kernel
theorem r68_48 {X : sm_X} {w : sm_W} {Q : Option Value → sm_W → Prop} {x0 : Nat} {x1 : Int32} {x2 : Int32} {x3 : Int32} {x4 : Int32} {x5 : Int32} {s0 : Int32} {s1 : Int32} {s2 : Int32} {s3 : Nat} : sm_R X 68 48 [.ref x0, .int x1, .int x2, .int x3, .int x4, .int x5] [.int s0, .int s1, .int s2, .ref s3] w Q ↔ sm_R X 68 50 [.ref x0, .int x1, .int x2, .int x3, .int x4, .int x5] [.int x4, .int s0, .int s1, .int s2, .ref s3] w Q := sm_R_go d68_48 rfl
theorem d68_50 : decode (sm_code 68) 50 = .ok (.iload 5, 2) := by decide +kernel
theorem r68_50 {X : sm_X} {w : sm_W} {Q : Option Value → sm_W → Prop} {x0 : Nat} {x1 : Int32} {x2 : Int32} {x3 : Int32} {x4 : Int32} {x5 : Int32} {s0 : Int32} {s1 : Int32} {s2 : Int32} {s3 : Int32} {s4 : Nat} : sm_R X 68 50 [.ref x0, .int x1, .int x2, .int x3, .int x4, .int x5] [.int s0, .int s1, .int s2, .int s3, .ref s4] w Q ↔ sm_R X 68 52 [.ref x0, .int x1, .int x2, .int x3, .int x4, .int x5] [.int x5, .int s0, .int s1, .int s2, .int s3, .ref s4] w Q := sm_R_go d68_50 rfl
theorem d68_52 : decode (sm_code 68) 52 = .ok (.invokevirtual 100, 3) := by decide +kernel
theorem r68_52 {X : sm_X} {w : sm_W} {Q : Option Value → sm_W → Prop} {x0 : Nat} {x1 : Int32} {x2 : Int32} {x3 : Int32} {x4 : Int32} {x5 : Int32} {s0 : Int32} {s1 : Int32} {s2 : Int32} {s3 : Int32} {s4 : Int32} {s5 : Nat} : sm_R X 68 52 [.ref x0, .int x1, .int x2, .int x3, .int x4, .int x5] [.int s0, .int s1, .int s2, .int s3, .int s4, .ref s5] w Q ↔ (sm_cN (sm_at w s5) = some 7 ∧ sm_R X 67 0 [.ref s5, .int s4, .int s3, .int s2, .int s1, .int s0] [] w (fun v w => sm_R X 68 55 [.ref x0, .int x1, .int x2, .int x3, .int x4, .int x5] (v.toList ++ []) w Q)) := sm_q_vir (k := 67) (as := [.ref s5, .int s4, .int s3, .int s2, .int s1, .int s0]) (rest := []) d68_52 rfl rfl rfl rfl rfl
theorem d68_55 : decode (sm_code 68) 55 = .ok (.ireturn, 1) := by decide +kernel
theorem r68_55 {X : sm_X} {w : sm_W} {Q : Option Value → sm_W → Prop} {x0 : Nat} {x1 : Int32} {x2 : Int32} {x3 : Int32} {x4 : Int32} {x5 : Int32} {s0 : Int32} : sm_R X 68 55 [.ref x0, .int x1, .int x2, .int x3, .int x4, .int x5] [.int s0] w Q ↔ Q (some (.int s0)) w := sm_q_iret d68_55 rfl
-- GroupLedgerModel.discard()I
theorem d69_0 : decode (sm_code 69) 0 = .ok (.aload_n 0, 1) := by decide +kernel
theorem r69_0 {X : sm_X} {w : sm_W} {Q : Option Value → sm_W → Prop} {x0 : Nat} : sm_R X 69 0 [.ref x0, sm_J] [] w Q ↔ sm_R X 69 1 [.ref x0, sm_J] [.ref x0] w Q := sm_R_go d69_0 rfl
theorem d69_1 : decode (sm_code 69) 1 = .ok (.getfield 26, 3) := by decide +kernel
theorem r69_1 {X : sm_X} {w : sm_W} {Q : Option Value → sm_W → Prop} {x0 : Nat} {s0 : Nat} : sm_R X 69 1 [.ref x0, sm_J] [.ref s0] w Q ↔ sm_wp (sm_fld 7 5 (sm_at w s0)) (fun v => sm_R X 69 4 [.ref x0, sm_J] [v] w Q) := sm_q_getf d69_1 rfl (by decide)
theorem d69_4 : decode (sm_code 69) 4 = .ok (.istore_n 1, 1) := by decide +kernel
theorem r69_4 {X : sm_X} {w : sm_W} {Q : Option Value → sm_W → Prop} {x0 : Nat} {s0 : Int32} : sm_R X 69 4 [.ref x0, sm_J] [.int s0] w Q ↔ sm_R X 69 5 [.ref x0, .int s0] [] w Q := sm_R_go d69_4 rfl
theorem d69_5 : decode (sm_code 69) 5 = .ok (.aload_n 0, 1) := by decide +kernel
theorem r69_5 {X : sm_X} {w : sm_W} {Q : Option Value → sm_W → Prop} {x0 : Nat} {x1 : Int32} : sm_R X 69 5 [.ref x0, .int x1] [] w Q ↔ sm_R X 69 6 [.ref x0, .int x1] [.ref x0] w Q := sm_R_go d69_5 rfl
theorem d69_6 : decode (sm_code 69) 6 = .ok (.iconst 0, 1) := by decide +kernel
theorem r69_6 {X : sm_X} {w : sm_W} {Q : Option Value → sm_W → Prop} {x0 : Nat} {x1 : Int32} {s0 : Nat} : sm_R X 69 6 [.ref x0, .int x1] [.ref s0] w Q ↔ sm_R X 69 7 [.ref x0, .int x1] [.int 0, .ref s0] w Q := sm_R_go d69_6 rfl
theorem d69_7 : decode (sm_code 69) 7 = .ok (.putfield 26, 3) := by decide +kernel
theorem r69_7 {X : sm_X} {w : sm_W} {Q : Option Value → sm_W → Prop} {x0 : Nat} {x1 : Int32} {s0 : Int32} {s1 : Nat} : sm_R X 69 7 [.ref x0, .int x1] [.int s0, .ref s1] w Q ↔ sm_wp (sm_pfl 7 5 (.int s0) (sm_at w s1)) (fun c => sm_R X 69 10 [.ref x0, .int x1] [] (w.set (s1 - 100) c) Q) := sm_q_putf d69_7 rfl rfl rfl (by decide)
theorem d69_10 : decode (sm_code 69) 10 = .ok (.iload_n 1, 1) := by decide +kernel
theorem r69_10 {X : sm_X} {w : sm_W} {Q : Option Value → sm_W → Prop} {x0 : Nat} {x1 : Int32} : sm_R X 69 10 [.ref x0, .int x1] [] w Q ↔ sm_R X 69 11 [.ref x0, .int x1] [.int x1] w Q := sm_R_go d69_10 rfl
theorem d69_11 : decode (sm_code 69) 11 = .ok (.ireturn, 1) := by decide +kernel
theorem r69_11 {X : sm_X} {w : sm_W} {Q : Option Value → sm_W → Prop} {x0 : Nat} {x1 : Int32} {s0 : Int32} : sm_R X 69 11 [.ref x0, .int x1] [.int s0] w Q ↔ Q (some (.int s0)) w := sm_q_iret d69_11 rfl
-- GroupLedgerModel.submit()I
theorem d70_0 : decode (sm_code 70) 0 = .ok (.aload_n 0, 1) := by decide +kernel
theorem r70_0 {X : sm_X} {w : sm_W} {Q : Option Value → sm_W → Prop} {x0 : Nat} : sm_R X 70 0 [.ref x0, sm_J, sm_J, sm_J] [] w Q ↔ sm_R X 70 1 [.ref x0, sm_J, sm_J, sm_J] [.ref x0] w Q := sm_R_go d70_0 rfl
theorem d70_1 : decode (sm_code 70) 1 = .ok (.getfield 26, 3) := by decide +kernel
theorem r70_1 {X : sm_X} {w : sm_W} {Q : Option Value → sm_W → Prop} {x0 : Nat} {s0 : Nat} : sm_R X 70 1 [.ref x0, sm_J, sm_J, sm_J] [.ref s0] w Q ↔ sm_wp (sm_fld 7 5 (sm_at w s0)) (fun v => sm_R X 70 4 [.ref x0, sm_J, sm_J, sm_J] [v] w Q) := sm_q_getf d70_1 rfl (by decide)
theorem d70_4 : decode (sm_code 70) 4 = .ok (.ifCond .ne 5, 3) := by decide +kernel
theorem r70_4 {X : sm_X} {w : sm_W} {Q : Option Value → sm_W → Prop} {x0 : Nat} {s0 : Int32} : sm_R X 70 4 [.ref x0, sm_J, sm_J, sm_J] [.int s0] w Q ↔ (if s0 = 0 then sm_R X 70 7 [.ref x0, sm_J, sm_J, sm_J] [] w Q else sm_R X 70 9 [.ref x0, sm_J, sm_J, sm_J] [] w Q) := sm_q_br d70_4 rfl
theorem d70_7 : decode (sm_code 70) 7 = .ok (.iconst (-1), 1) := by decide +kernel
theorem r70_7 {X : sm_X} {w : sm_W} {Q : Option Value → sm_W → Prop} {x0 : Nat} : sm_R X 70 7 [.ref x0, sm_J, sm_J, sm_J] [] w Q ↔ sm_R X 70 8 [.ref x0, sm_J, sm_J, sm_J] [.int (-1)] w Q := sm_R_go d70_7 rfl
theorem d70_8 : decode (sm_code 70) 8 = .ok (.ireturn, 1) := by decide +kernel
theorem r70_8 {X : sm_X} {w : sm_W} {Q : Option Value → sm_W → Prop} {x0 : Nat} {s0 : Int32} : sm_R X 70 8 [.ref x0, sm_J, sm_J, sm_J] [.int s0] w Q ↔ Q (some (.int s0)) w := sm_q_iret d70_8 rfl
theorem d70_9 : decode (sm_code 70) 9 = .ok (.iconst 0, 1) := by decide +kernel
theorem r70_9 {X : sm_X} {w : sm_W} {Q : Option Value → sm_W → Prop} {x0 : Nat} : sm_R X 70 9 [.ref x0, sm_J, sm_J, sm_J] [] w Q ↔ sm_R X 70 10 [.ref x0, sm_J, sm_J, sm_J] [.int 0] w Q := sm_R_go d70_9 rfl
theorem d70_10 : decode (sm_code 70) 10 = .ok (.istore_n 1, 1) := by decide +kernel
theorem r70_10 {X : sm_X} {w : sm_W} {Q : Option Value → sm_W → Prop} {x0 : Nat} {s0 : Int32} : sm_R X 70 10 [.ref x0, sm_J, sm_J, sm_J] [.int s0] w Q ↔ sm_R X 70 11 [.ref x0, .int s0, sm_J, sm_J] [] w Q := sm_R_go d70_10 rfl
theorem d70_11 : decode (sm_code 70) 11 = .ok (.iconst 0, 1) := by decide +kernel
theorem r70_11 {X : sm_X} {w : sm_W} {Q : Option Value → sm_W → Prop} {x0 : Nat} {x1 : Int32} : sm_R X 70 11 [.ref x0, .int x1, sm_J, sm_J] [] w Q ↔ sm_R X 70 12 [.ref x0, .int x1, sm_J, sm_J] [.int 0] w Q := sm_R_go d70_11 rfl
theorem d70_12 : decode (sm_code 70) 12 = .ok (.istore_n 2, 1) := by decide +kernel
theorem r70_12 {X : sm_X} {w : sm_W} {Q : Option Value → sm_W → Prop} {x0 : Nat} {x1 : Int32} {s0 : Int32} : sm_R X 70 12 [.ref x0, .int x1, sm_J, sm_J] [.int s0] w Q ↔ sm_R X 70 13 [.ref x0, .int x1, .int s0, sm_J] [] w Q := sm_R_go d70_12 rfl
theorem d70_13 : decode (sm_code 70) 13 = .ok (.iload_n 2, 1) := by decide +kernel
theorem r70_13 {X : sm_X} {w : sm_W} {Q : Option Value → sm_W → Prop} {x0 : Nat} {x1 : Int32} {x2 : Int32} : sm_R X 70 13 [.ref x0, .int x1, .int x2, sm_J] [] w Q ↔ sm_R X 70 14 [.ref x0, .int x1, .int x2, sm_J] [.int x2] w Q := sm_R_go d70_13 rfl
theorem d70_14 : decode (sm_code 70) 14 = .ok (.bipush 94, 2) := by decide +kernel
theorem r70_14 {X : sm_X} {w : sm_W} {Q : Option Value → sm_W → Prop} {x0 : Nat} {x1 : Int32} {x2 : Int32} {s0 : Int32} : sm_R X 70 14 [.ref x0, .int x1, .int x2, sm_J] [.int s0] w Q ↔ sm_R X 70 16 [.ref x0, .int x1, .int x2, sm_J] [.int 94, .int s0] w Q := sm_R_go d70_14 rfl
theorem d70_16 : decode (sm_code 70) 16 = .ok (.if_icmp .ge 21, 3) := by decide +kernel
theorem r70_16 {X : sm_X} {w : sm_W} {Q : Option Value → sm_W → Prop} {x0 : Nat} {x1 : Int32} {x2 : Int32} {s0 : Int32} {s1 : Int32} : sm_R X 70 16 [.ref x0, .int x1, .int x2, sm_J] [.int s0, .int s1] w Q ↔ (if s0 ≤ s1 then sm_R X 70 37 [.ref x0, .int x1, .int x2, sm_J] [] w Q else sm_R X 70 19 [.ref x0, .int x1, .int x2, sm_J] [] w Q) := sm_q_br d70_16 rfl
theorem d70_19 : decode (sm_code 70) 19 = .ok (.aload_n 0, 1) := by decide +kernel
theorem r70_19 {X : sm_X} {w : sm_W} {Q : Option Value → sm_W → Prop} {x0 : Nat} {x1 : Int32} {x2 : Int32} : sm_R X 70 19 [.ref x0, .int x1, .int x2, sm_J] [] w Q ↔ sm_R X 70 20 [.ref x0, .int x1, .int x2, sm_J] [.ref x0] w Q := sm_R_go d70_19 rfl
theorem d70_20 : decode (sm_code 70) 20 = .ok (.getfield 13, 3) := by decide +kernel
theorem r70_20 {X : sm_X} {w : sm_W} {Q : Option Value → sm_W → Prop} {x0 : Nat} {x1 : Int32} {x2 : Int32} {s0 : Nat} : sm_R X 70 20 [.ref x0, .int x1, .int x2, sm_J] [.ref s0] w Q ↔ sm_wp (sm_fld 7 1 (sm_at w s0)) (fun v => sm_R X 70 23 [.ref x0, .int x1, .int x2, sm_J] [v] w Q) := sm_q_getf d70_20 rfl (by decide)
theorem d70_23 : decode (sm_code 70) 23 = .ok (.iload_n 2, 1) := by decide +kernel
theorem r70_23 {X : sm_X} {w : sm_W} {Q : Option Value → sm_W → Prop} {x0 : Nat} {x1 : Int32} {x2 : Int32} {s0 : Nat} : sm_R X 70 23 [.ref x0, .int x1, .int x2, sm_J] [.ref s0] w Q ↔ sm_R X 70 24 [.ref x0, .int x1, .int x2, sm_J] [.int x2, .ref s0] w Q := sm_R_go d70_23 rfl
theorem d70_24 : decode (sm_code 70) 24 = .ok (.aload_n 0, 1) := by decide +kernel
theorem r70_24 {X : sm_X} {w : sm_W} {Q : Option Value → sm_W → Prop} {x0 : Nat} {x1 : Int32} {x2 : Int32} {s0 : Int32} {s1 : Nat} : sm_R X 70 24 [.ref x0, .int x1, .int x2, sm_J] [.int s0, .ref s1] w Q ↔ sm_R X 70 25 [.ref x0, .int x1, .int x2, sm_J] [.ref x0, .int s0, .ref s1] w Q := sm_R_go d70_24 rfl
theorem d70_25 : decode (sm_code 70) 25 = .ok (.getfield 7, 3) := by decide +kernel
theorem r70_25 {X : sm_X} {w : sm_W} {Q : Option Value → sm_W → Prop} {x0 : Nat} {x1 : Int32} {x2 : Int32} {s0 : Nat} {s1 : Int32} {s2 : Nat} : sm_R X 70 25 [.ref x0, .int x1, .int x2, sm_J] [.ref s0, .int s1, .ref s2] w Q ↔ sm_wp (sm_fld 7 0 (sm_at w s0)) (fun v => sm_R X 70 28 [.ref x0, .int x1, .int x2, sm_J] [v, .int s1, .ref s2] w Q) := sm_q_getf d70_25 rfl (by decide)
theorem d70_28 : decode (sm_code 70) 28 = .ok (.iload_n 2, 1) := by decide +kernel
theorem r70_28 {X : sm_X} {w : sm_W} {Q : Option Value → sm_W → Prop} {x0 : Nat} {x1 : Int32} {x2 : Int32} {s0 : Nat} {s1 : Int32} {s2 : Nat} : sm_R X 70 28 [.ref x0, .int x1, .int x2, sm_J] [.ref s0, .int s1, .ref s2] w Q ↔ sm_R X 70 29 [.ref x0, .int x1, .int x2, sm_J] [.int x2, .ref s0, .int s1, .ref s2] w Q := sm_R_go d70_28 rfl
theorem d70_29 : decode (sm_code 70) 29 = .ok (.laload, 1) := by decide +kernel
theorem r70_29 {X : sm_X} {w : sm_W} {Q : Option Value → sm_W → Prop} {x0 : Nat} {x1 : Int32} {x2 : Int32} {s0 : Int32} {s1 : Nat} {s2 : Int32} {s3 : Nat} : sm_R X 70 29 [.ref x0, .int x1, .int x2, sm_J] [.int s0, .ref s1, .int s2, .ref s3] w Q ↔ sm_wp (sm_al s0 (sm_at w s1)) (fun v => sm_R X 70 30 [.ref x0, .int x1, .int x2, sm_J] [.long v, .int s2, .ref s3] w Q) := sm_q_lald d70_29
theorem d70_30 : decode (sm_code 70) 30 = .ok (.lastore, 1) := by decide +kernel
theorem r70_30 {X : sm_X} {w : sm_W} {Q : Option Value → sm_W → Prop} {x0 : Nat} {x1 : Int32} {x2 : Int32} {s0 : Int64} {s1 : Int32} {s2 : Nat} : sm_R X 70 30 [.ref x0, .int x1, .int x2, sm_J] [.long s0, .int s1, .ref s2] w Q ↔ sm_wp (sm_slg s1 s0 (sm_at w s2)) (fun c => sm_R X 70 31 [.ref x0, .int x1, .int x2, sm_J] [] (w.set (s2 - 100) c) Q) := sm_q_last d70_30
theorem d70_31 : decode (sm_code 70) 31 = .ok (.iinc 2 1, 3) := by decide +kernel
theorem r70_31 {X : sm_X} {w : sm_W} {Q : Option Value → sm_W → Prop} {x0 : Nat} {x1 : Int32} {x2 : Int32} : sm_R X 70 31 [.ref x0, .int x1, .int x2, sm_J] [] w Q ↔ sm_R X 70 34 [.ref x0, .int x1, .int (x2 + 1), sm_J] [] w Q := sm_R_go d70_31 rfl
theorem d70_34 : decode (sm_code 70) 34 = .ok (.goto (-21), 3) := by decide +kernel
theorem r70_34 {X : sm_X} {w : sm_W} {Q : Option Value → sm_W → Prop} {x0 : Nat} {x1 : Int32} {x2 : Int32} : sm_R X 70 34 [.ref x0, .int x1, .int x2, sm_J] [] w Q ↔ sm_R X 70 13 [.ref x0, .int x1, .int x2, sm_J] [] w Q := sm_R_go d70_34 rfl
theorem d70_37 : decode (sm_code 70) 37 = .ok (.aload_n 0, 1) := by decide +kernel
theorem r70_37 {X : sm_X} {w : sm_W} {Q : Option Value → sm_W → Prop} {x0 : Nat} {x1 : Int32} {x2 : Int32} : sm_R X 70 37 [.ref x0, .int x1, .int x2, sm_J] [] w Q ↔ sm_R X 70 38 [.ref x0, .int x1, .int x2, sm_J] [.ref x0] w Q := sm_R_go d70_37 rfl
theorem d70_38 : decode (sm_code 70) 38 = .ok (.iconst 0, 1) := by decide +kernel
theorem r70_38 {X : sm_X} {w : sm_W} {Q : Option Value → sm_W → Prop} {x0 : Nat} {x1 : Int32} {x2 : Int32} {s0 : Nat} : sm_R X 70 38 [.ref x0, .int x1, .int x2, sm_J] [.ref s0] w Q ↔ sm_R X 70 39 [.ref x0, .int x1, .int x2, sm_J] [.int 0, .ref s0] w Q := sm_R_go d70_38 rfl
theorem d70_39 : decode (sm_code 70) 39 = .ok (.putfield 69, 3) := by decide +kernel
theorem r70_39 {X : sm_X} {w : sm_W} {Q : Option Value → sm_W → Prop} {x0 : Nat} {x1 : Int32} {x2 : Int32} {s0 : Int32} {s1 : Nat} : sm_R X 70 39 [.ref x0, .int x1, .int x2, sm_J] [.int s0, .ref s1] w Q ↔ sm_wp (sm_pfl 7 19 (.int s0) (sm_at w s1)) (fun c => sm_R X 70 42 [.ref x0, .int x1, .int x2, sm_J] [] (w.set (s1 - 100) c) Q) := sm_q_putf d70_39 rfl rfl rfl (by decide)
theorem d70_42 : decode (sm_code 70) 42 = .ok (.iconst 0, 1) := by decide +kernel
theorem r70_42 {X : sm_X} {w : sm_W} {Q : Option Value → sm_W → Prop} {x0 : Nat} {x1 : Int32} {x2 : Int32} : sm_R X 70 42 [.ref x0, .int x1, .int x2, sm_J] [] w Q ↔ sm_R X 70 43 [.ref x0, .int x1, .int x2, sm_J] [.int 0] w Q := sm_R_go d70_42 rfl
theorem d70_43 : decode (sm_code 70) 43 = .ok (.istore_n 2, 1) := by decide +kernel
theorem r70_43 {X : sm_X} {w : sm_W} {Q : Option Value → sm_W → Prop} {x0 : Nat} {x1 : Int32} {x2 : Int32} {s0 : Int32} : sm_R X 70 43 [.ref x0, .int x1, .int x2, sm_J] [.int s0] w Q ↔ sm_R X 70 44 [.ref x0, .int x1, .int s0, sm_J] [] w Q := sm_R_go d70_43 rfl
theorem d70_44 : decode (sm_code 70) 44 = .ok (.iload_n 2, 1) := by decide +kernel
theorem r70_44 {X : sm_X} {w : sm_W} {Q : Option Value → sm_W → Prop} {x0 : Nat} {x1 : Int32} {x2 : Int32} : sm_R X 70 44 [.ref x0, .int x1, .int x2, sm_J] [] w Q ↔ sm_R X 70 45 [.ref x0, .int x1, .int x2, sm_J] [.int x2] w Q := sm_R_go d70_44 rfl
theorem d70_45 : decode (sm_code 70) 45 = .ok (.aload_n 0, 1) := by decide +kernel
theorem r70_45 {X : sm_X} {w : sm_W} {Q : Option Value → sm_W → Prop} {x0 : Nat} {x1 : Int32} {x2 : Int32} {s0 : Int32} : sm_R X 70 45 [.ref x0, .int x1, .int x2, sm_J] [.int s0] w Q ↔ sm_R X 70 46 [.ref x0, .int x1, .int x2, sm_J] [.ref x0, .int s0] w Q := sm_R_go d70_45 rfl
theorem d70_46 : decode (sm_code 70) 46 = .ok (.getfield 26, 3) := by decide +kernel
theorem r70_46 {X : sm_X} {w : sm_W} {Q : Option Value → sm_W → Prop} {x0 : Nat} {x1 : Int32} {x2 : Int32} {s0 : Nat} {s1 : Int32} : sm_R X 70 46 [.ref x0, .int x1, .int x2, sm_J] [.ref s0, .int s1] w Q ↔ sm_wp (sm_fld 7 5 (sm_at w s0)) (fun v => sm_R X 70 49 [.ref x0, .int x1, .int x2, sm_J] [v, .int s1] w Q) := sm_q_getf d70_46 rfl (by decide)
theorem d70_49 : decode (sm_code 70) 49 = .ok (.if_icmp .ge 29, 3) := by decide +kernel
theorem r70_49 {X : sm_X} {w : sm_W} {Q : Option Value → sm_W → Prop} {x0 : Nat} {x1 : Int32} {x2 : Int32} {s0 : Int32} {s1 : Int32} : sm_R X 70 49 [.ref x0, .int x1, .int x2, sm_J] [.int s0, .int s1] w Q ↔ (if s0 ≤ s1 then sm_R X 70 78 [.ref x0, .int x1, .int x2, sm_J] [] w Q else sm_R X 70 52 [.ref x0, .int x1, .int x2, sm_J] [] w Q) := sm_q_br d70_49 rfl
theorem d70_52 : decode (sm_code 70) 52 = .ok (.aload_n 0, 1) := by decide +kernel
theorem r70_52 {X : sm_X} {w : sm_W} {Q : Option Value → sm_W → Prop} {x0 : Nat} {x1 : Int32} {x2 : Int32} : sm_R X 70 52 [.ref x0, .int x1, .int x2, sm_J] [] w Q ↔ sm_R X 70 53 [.ref x0, .int x1, .int x2, sm_J] [.ref x0] w Q := sm_R_go d70_52 rfl
theorem d70_53 : decode (sm_code 70) 53 = .ok (.getfield 30, 3) := by decide +kernel
theorem r70_53 {X : sm_X} {w : sm_W} {Q : Option Value → sm_W → Prop} {x0 : Nat} {x1 : Int32} {x2 : Int32} {s0 : Nat} : sm_R X 70 53 [.ref x0, .int x1, .int x2, sm_J] [.ref s0] w Q ↔ sm_wp (sm_fld 7 6 (sm_at w s0)) (fun v => sm_R X 70 56 [.ref x0, .int x1, .int x2, sm_J] [v] w Q) := sm_q_getf d70_53 rfl (by decide)
theorem d70_56 : decode (sm_code 70) 56 = .ok (.iload_n 2, 1) := by decide +kernel
theorem r70_56 {X : sm_X} {w : sm_W} {Q : Option Value → sm_W → Prop} {x0 : Nat} {x1 : Int32} {x2 : Int32} {s0 : Nat} : sm_R X 70 56 [.ref x0, .int x1, .int x2, sm_J] [.ref s0] w Q ↔ sm_R X 70 57 [.ref x0, .int x1, .int x2, sm_J] [.int x2, .ref s0] w Q := sm_R_go d70_56 rfl
theorem d70_57 : decode (sm_code 70) 57 = .ok (.iaload, 1) := by decide +kernel
theorem r70_57 {X : sm_X} {w : sm_W} {Q : Option Value → sm_W → Prop} {x0 : Nat} {x1 : Int32} {x2 : Int32} {s0 : Int32} {s1 : Nat} : sm_R X 70 57 [.ref x0, .int x1, .int x2, sm_J] [.int s0, .ref s1] w Q ↔ sm_wp (sm_ai s0 (sm_get X w s1)) (fun v => sm_R X 70 58 [.ref x0, .int x1, .int x2, sm_J] [.int v] w Q) := sm_q_iald d70_57
theorem d70_58 : decode (sm_code 70) 58 = .ok (.ifCond .lt 14, 3) := by decide +kernel
theorem r70_58 {X : sm_X} {w : sm_W} {Q : Option Value → sm_W → Prop} {x0 : Nat} {x1 : Int32} {x2 : Int32} {s0 : Int32} : sm_R X 70 58 [.ref x0, .int x1, .int x2, sm_J] [.int s0] w Q ↔ (if s0 < 0 then sm_R X 70 72 [.ref x0, .int x1, .int x2, sm_J] [] w Q else sm_R X 70 61 [.ref x0, .int x1, .int x2, sm_J] [] w Q) := sm_q_br d70_58 rfl
theorem d70_61 : decode (sm_code 70) 61 = .ok (.aload_n 0, 1) := by decide +kernel
theorem r70_61 {X : sm_X} {w : sm_W} {Q : Option Value → sm_W → Prop} {x0 : Nat} {x1 : Int32} {x2 : Int32} : sm_R X 70 61 [.ref x0, .int x1, .int x2, sm_J] [] w Q ↔ sm_R X 70 62 [.ref x0, .int x1, .int x2, sm_J] [.ref x0] w Q := sm_R_go d70_61 rfl
theorem d70_62 : decode (sm_code 70) 62 = .ok (.dup, 1) := by decide +kernel
theorem r70_62 {X : sm_X} {w : sm_W} {Q : Option Value → sm_W → Prop} {x0 : Nat} {x1 : Int32} {x2 : Int32} {s0 : Nat} : sm_R X 70 62 [.ref x0, .int x1, .int x2, sm_J] [.ref s0] w Q ↔ sm_R X 70 63 [.ref x0, .int x1, .int x2, sm_J] [.ref s0, .ref s0] w Q := sm_R_go d70_62 rfl
theorem d70_63 : decode (sm_code 70) 63 = .ok (.getfield 69, 3) := by decide +kernel
theorem r70_63 {X : sm_X} {w : sm_W} {Q : Option Value → sm_W → Prop} {x0 : Nat} {x1 : Int32} {x2 : Int32} {s0 : Nat} {s1 : Nat} : sm_R X 70 63 [.ref x0, .int x1, .int x2, sm_J] [.ref s0, .ref s1] w Q ↔ sm_wp (sm_fld 7 19 (sm_at w s0)) (fun v => sm_R X 70 66 [.ref x0, .int x1, .int x2, sm_J] [v, .ref s1] w Q) := sm_q_getf d70_63 rfl (by decide)
theorem d70_66 : decode (sm_code 70) 66 = .ok (.bipush 20, 2) := by decide +kernel
theorem r70_66 {X : sm_X} {w : sm_W} {Q : Option Value → sm_W → Prop} {x0 : Nat} {x1 : Int32} {x2 : Int32} {s0 : Int32} {s1 : Nat} : sm_R X 70 66 [.ref x0, .int x1, .int x2, sm_J] [.int s0, .ref s1] w Q ↔ sm_R X 70 68 [.ref x0, .int x1, .int x2, sm_J] [.int 20, .int s0, .ref s1] w Q := sm_R_go d70_66 rfl
theorem d70_68 : decode (sm_code 70) 68 = .ok (.iadd, 1) := by decide +kernel
theorem r70_68 {X : sm_X} {w : sm_W} {Q : Option Value → sm_W → Prop} {x0 : Nat} {x1 : Int32} {x2 : Int32} {s0 : Int32} {s1 : Int32} {s2 : Nat} : sm_R X 70 68 [.ref x0, .int x1, .int x2, sm_J] [.int s0, .int s1, .ref s2] w Q ↔ sm_R X 70 69 [.ref x0, .int x1, .int x2, sm_J] [.int (s1 + s0), .ref s2] w Q := sm_R_go d70_68 rfl
theorem d70_69 : decode (sm_code 70) 69 = .ok (.putfield 69, 3) := by decide +kernel
theorem r70_69 {X : sm_X} {w : sm_W} {Q : Option Value → sm_W → Prop} {x0 : Nat} {x1 : Int32} {x2 : Int32} {s0 : Int32} {s1 : Nat} : sm_R X 70 69 [.ref x0, .int x1, .int x2, sm_J] [.int s0, .ref s1] w Q ↔ sm_wp (sm_pfl 7 19 (.int s0) (sm_at w s1)) (fun c => sm_R X 70 72 [.ref x0, .int x1, .int x2, sm_J] [] (w.set (s1 - 100) c) Q) := sm_q_putf d70_69 rfl rfl rfl (by decide)
theorem d70_72 : decode (sm_code 70) 72 = .ok (.iinc 2 1, 3) := by decide +kernel
theorem r70_72 {X : sm_X} {w : sm_W} {Q : Option Value → sm_W → Prop} {x0 : Nat} {x1 : Int32} {x2 : Int32} : sm_R X 70 72 [.ref x0, .int x1, .int x2, sm_J] [] w Q ↔ sm_R X 70 75 [.ref x0, .int x1, .int (x2 + 1), sm_J] [] w Q := sm_R_go d70_72 rfl
theorem d70_75 : decode (sm_code 70) 75 = .ok (.goto (-31), 3) := by decide +kernel
theorem r70_75 {X : sm_X} {w : sm_W} {Q : Option Value → sm_W → Prop} {x0 : Nat} {x1 : Int32} {x2 : Int32} : sm_R X 70 75 [.ref x0, .int x1, .int x2, sm_J] [] w Q ↔ sm_R X 70 44 [.ref x0, .int x1, .int x2, sm_J] [] w Q := sm_R_go d70_75 rfl
theorem d70_78 : decode (sm_code 70) 78 = .ok (.aload_n 0, 1) := by decide +kernel
theorem r70_78 {X : sm_X} {w : sm_W} {Q : Option Value → sm_W → Prop} {x0 : Nat} {x1 : Int32} {x2 : Int32} : sm_R X 70 78 [.ref x0, .int x1, .int x2, sm_J] [] w Q ↔ sm_R X 70 79 [.ref x0, .int x1, .int x2, sm_J] [.ref x0] w Q := sm_R_go d70_78 rfl
theorem d70_79 : decode (sm_code 70) 79 = .ok (.iconst 0, 1) := by decide +kernel
theorem r70_79 {X : sm_X} {w : sm_W} {Q : Option Value → sm_W → Prop} {x0 : Nat} {x1 : Int32} {x2 : Int32} {s0 : Nat} : sm_R X 70 79 [.ref x0, .int x1, .int x2, sm_J] [.ref s0] w Q ↔ sm_R X 70 80 [.ref x0, .int x1, .int x2, sm_J] [.int 0, .ref s0] w Q := sm_R_go d70_79 rfl
theorem d70_80 : decode (sm_code 70) 80 = .ok (.putfield 54, 3) := by decide +kernel
theorem r70_80 {X : sm_X} {w : sm_W} {Q : Option Value → sm_W → Prop} {x0 : Nat} {x1 : Int32} {x2 : Int32} {s0 : Int32} {s1 : Nat} : sm_R X 70 80 [.ref x0, .int x1, .int x2, sm_J] [.int s0, .ref s1] w Q ↔ sm_wp (sm_pfl 7 14 (.int s0) (sm_at w s1)) (fun c => sm_R X 70 83 [.ref x0, .int x1, .int x2, sm_J] [] (w.set (s1 - 100) c) Q) := sm_q_putf d70_80 rfl rfl rfl (by decide)
theorem d70_83 : decode (sm_code 70) 83 = .ok (.aload_n 0, 1) := by decide +kernel
theorem r70_83 {X : sm_X} {w : sm_W} {Q : Option Value → sm_W → Prop} {x0 : Nat} {x1 : Int32} {x2 : Int32} : sm_R X 70 83 [.ref x0, .int x1, .int x2, sm_J] [] w Q ↔ sm_R X 70 84 [.ref x0, .int x1, .int x2, sm_J] [.ref x0] w Q := sm_R_go d70_83 rfl
theorem d70_84 : decode (sm_code 70) 84 = .ok (.iconst 0, 1) := by decide +kernel
theorem r70_84 {X : sm_X} {w : sm_W} {Q : Option Value → sm_W → Prop} {x0 : Nat} {x1 : Int32} {x2 : Int32} {s0 : Nat} : sm_R X 70 84 [.ref x0, .int x1, .int x2, sm_J] [.ref s0] w Q ↔ sm_R X 70 85 [.ref x0, .int x1, .int x2, sm_J] [.int 0, .ref s0] w Q := sm_R_go d70_84 rfl
theorem d70_85 : decode (sm_code 70) 85 = .ok (.putfield 57, 3) := by decide +kernel
theorem r70_85 {X : sm_X} {w : sm_W} {Q : Option Value → sm_W → Prop} {x0 : Nat} {x1 : Int32} {x2 : Int32} {s0 : Int32} {s1 : Nat} : sm_R X 70 85 [.ref x0, .int x1, .int x2, sm_J] [.int s0, .ref s1] w Q ↔ sm_wp (sm_pfl 7 15 (.int s0) (sm_at w s1)) (fun c => sm_R X 70 88 [.ref x0, .int x1, .int x2, sm_J] [] (w.set (s1 - 100) c) Q) := sm_q_putf d70_85 rfl rfl rfl (by decide)
theorem d70_88 : decode (sm_code 70) 88 = .ok (.aload_n 0, 1) := by decide +kernel
theorem r70_88 {X : sm_X} {w : sm_W} {Q : Option Value → sm_W → Prop} {x0 : Nat} {x1 : Int32} {x2 : Int32} : sm_R X 70 88 [.ref x0, .int x1, .int x2, sm_J] [] w Q ↔ sm_R X 70 89 [.ref x0, .int x1, .int x2, sm_J] [.ref x0] w Q := sm_R_go d70_88 rfl
theorem d70_89 : decode (sm_code 70) 89 = .ok (.iconst 0, 1) := by decide +kernel
theorem r70_89 {X : sm_X} {w : sm_W} {Q : Option Value → sm_W → Prop} {x0 : Nat} {x1 : Int32} {x2 : Int32} {s0 : Nat} : sm_R X 70 89 [.ref x0, .int x1, .int x2, sm_J] [.ref s0] w Q ↔ sm_R X 70 90 [.ref x0, .int x1, .int x2, sm_J] [.int 0, .ref s0] w Q := sm_R_go d70_89 rfl
theorem d70_90 : decode (sm_code 70) 90 = .ok (.putfield 72, 3) := by decide +kernel
theorem r70_90 {X : sm_X} {w : sm_W} {Q : Option Value → sm_W → Prop} {x0 : Nat} {x1 : Int32} {x2 : Int32} {s0 : Int32} {s1 : Nat} : sm_R X 70 90 [.ref x0, .int x1, .int x2, sm_J] [.int s0, .ref s1] w Q ↔ sm_wp (sm_pfl 7 20 (.int s0) (sm_at w s1)) (fun c => sm_R X 70 93 [.ref x0, .int x1, .int x2, sm_J] [] (w.set (s1 - 100) c) Q) := sm_q_putf d70_90 rfl rfl rfl (by decide)
theorem d70_93 : decode (sm_code 70) 93 = .ok (.aload_n 0, 1) := by decide +kernel
theorem r70_93 {X : sm_X} {w : sm_W} {Q : Option Value → sm_W → Prop} {x0 : Nat} {x1 : Int32} {x2 : Int32} : sm_R X 70 93 [.ref x0, .int x1, .int x2, sm_J] [] w Q ↔ sm_R X 70 94 [.ref x0, .int x1, .int x2, sm_J] [.ref x0] w Q := sm_R_go d70_93 rfl
theorem d70_94 : decode (sm_code 70) 94 = .ok (.bipush (-3), 2) := by decide +kernel
theorem r70_94 {X : sm_X} {w : sm_W} {Q : Option Value → sm_W → Prop} {x0 : Nat} {x1 : Int32} {x2 : Int32} {s0 : Nat} : sm_R X 70 94 [.ref x0, .int x1, .int x2, sm_J] [.ref s0] w Q ↔ sm_R X 70 96 [.ref x0, .int x1, .int x2, sm_J] [.int (-3), .ref s0] w Q := sm_R_go d70_94 rfl
theorem d70_96 : decode (sm_code 70) 96 = .ok (.putfield 48, 3) := by decide +kernel
theorem r70_96 {X : sm_X} {w : sm_W} {Q : Option Value → sm_W → Prop} {x0 : Nat} {x1 : Int32} {x2 : Int32} {s0 : Int32} {s1 : Nat} : sm_R X 70 96 [.ref x0, .int x1, .int x2, sm_J] [.int s0, .ref s1] w Q ↔ sm_wp (sm_pfl 7 12 (.int s0) (sm_at w s1)) (fun c => sm_R X 70 99 [.ref x0, .int x1, .int x2, sm_J] [] (w.set (s1 - 100) c) Q) := sm_q_putf d70_96 rfl rfl rfl (by decide)
theorem d70_99 : decode (sm_code 70) 99 = .ok (.iconst 0, 1) := by decide +kernel
theorem r70_99 {X : sm_X} {w : sm_W} {Q : Option Value → sm_W → Prop} {x0 : Nat} {x1 : Int32} {x2 : Int32} : sm_R X 70 99 [.ref x0, .int x1, .int x2, sm_J] [] w Q ↔ sm_R X 70 100 [.ref x0, .int x1, .int x2, sm_J] [.int 0] w Q := sm_R_go d70_99 rfl
theorem d70_100 : decode (sm_code 70) 100 = .ok (.istore_n 2, 1) := by decide +kernel
theorem r70_100 {X : sm_X} {w : sm_W} {Q : Option Value → sm_W → Prop} {x0 : Nat} {x1 : Int32} {x2 : Int32} {s0 : Int32} : sm_R X 70 100 [.ref x0, .int x1, .int x2, sm_J] [.int s0] w Q ↔ sm_R X 70 101 [.ref x0, .int x1, .int s0, sm_J] [] w Q := sm_R_go d70_100 rfl
theorem d70_101 : decode (sm_code 70) 101 = .ok (.iload_n 2, 1) := by decide +kernel
theorem r70_101 {X : sm_X} {w : sm_W} {Q : Option Value → sm_W → Prop} {x0 : Nat} {x1 : Int32} {x2 : Int32} : sm_R X 70 101 [.ref x0, .int x1, .int x2, sm_J] [] w Q ↔ sm_R X 70 102 [.ref x0, .int x1, .int x2, sm_J] [.int x2] w Q := sm_R_go d70_101 rfl
theorem d70_102 : decode (sm_code 70) 102 = .ok (.aload_n 0, 1) := by decide +kernel
theorem r70_102 {X : sm_X} {w : sm_W} {Q : Option Value → sm_W → Prop} {x0 : Nat} {x1 : Int32} {x2 : Int32} {s0 : Int32} : sm_R X 70 102 [.ref x0, .int x1, .int x2, sm_J] [.int s0] w Q ↔ sm_R X 70 103 [.ref x0, .int x1, .int x2, sm_J] [.ref x0, .int s0] w Q := sm_R_go d70_102 rfl
theorem d70_103 : decode (sm_code 70) 103 = .ok (.getfield 26, 3) := by decide +kernel
theorem r70_103 {X : sm_X} {w : sm_W} {Q : Option Value → sm_W → Prop} {x0 : Nat} {x1 : Int32} {x2 : Int32} {s0 : Nat} {s1 : Int32} : sm_R X 70 103 [.ref x0, .int x1, .int x2, sm_J] [.ref s0, .int s1] w Q ↔ sm_wp (sm_fld 7 5 (sm_at w s0)) (fun v => sm_R X 70 106 [.ref x0, .int x1, .int x2, sm_J] [v, .int s1] w Q) := sm_q_getf d70_103 rfl (by decide)
theorem d70_106 : decode (sm_code 70) 106 = .ok (.if_icmp .ge 28, 3) := by decide +kernel
theorem r70_106 {X : sm_X} {w : sm_W} {Q : Option Value → sm_W → Prop} {x0 : Nat} {x1 : Int32} {x2 : Int32} {s0 : Int32} {s1 : Int32} : sm_R X 70 106 [.ref x0, .int x1, .int x2, sm_J] [.int s0, .int s1] w Q ↔ (if s0 ≤ s1 then sm_R X 70 134 [.ref x0, .int x1, .int x2, sm_J] [] w Q else sm_R X 70 109 [.ref x0, .int x1, .int x2, sm_J] [] w Q) := sm_q_br d70_106 rfl
theorem d70_109 : decode (sm_code 70) 109 = .ok (.iload_n 1, 1) := by decide +kernel
theorem r70_109 {X : sm_X} {w : sm_W} {Q : Option Value → sm_W → Prop} {x0 : Nat} {x1 : Int32} {x2 : Int32} : sm_R X 70 109 [.ref x0, .int x1, .int x2, sm_J] [] w Q ↔ sm_R X 70 110 [.ref x0, .int x1, .int x2, sm_J] [.int x1] w Q := sm_R_go d70_109 rfl
theorem d70_110 : decode (sm_code 70) 110 = .ok (.ifCond .ne 24, 3) := by decide +kernel
theorem r70_110 {X : sm_X} {w : sm_W} {Q : Option Value → sm_W → Prop} {x0 : Nat} {x1 : Int32} {x2 : Int32} {s0 : Int32} : sm_R X 70 110 [.ref x0, .int x1, .int x2, sm_J] [.int s0] w Q ↔ (if s0 = 0 then sm_R X 70 113 [.ref x0, .int x1, .int x2, sm_J] [] w Q else sm_R X 70 134 [.ref x0, .int x1, .int x2, sm_J] [] w Q) := sm_q_br d70_110 rfl
theorem d70_113 : decode (sm_code 70) 113 = .ok (.aload_n 0, 1) := by decide +kernel
theorem r70_113 {X : sm_X} {w : sm_W} {Q : Option Value → sm_W → Prop} {x0 : Nat} {x1 : Int32} {x2 : Int32} : sm_R X 70 113 [.ref x0, .int x1, .int x2, sm_J] [] w Q ↔ sm_R X 70 114 [.ref x0, .int x1, .int x2, sm_J] [.ref x0] w Q := sm_R_go d70_113 rfl
theorem d70_114 : decode (sm_code 70) 114 = .ok (.iload_n 2, 1) := by decide +kernel
theorem r70_114 {X : sm_X} {w : sm_W} {Q : Option Value → sm_W → Prop} {x0 : Nat} {x1 : Int32} {x2 : Int32} {s0 : Nat} : sm_R X 70 114 [.ref x0, .int x1, .int x2, sm_J] [.ref s0] w Q ↔ sm_R X 70 115 [.ref x0, .int x1, .int x2, sm_J] [.int x2, .ref s0] w Q := sm_R_go d70_114 rfl
theorem d70_115 : decode (sm_code 70) 115 = .ok (.invokevirtual 157, 3) := by decide +kernel
theorem r70_115 {X : sm_X} {w : sm_W} {Q : Option Value → sm_W → Prop} {x0 : Nat} {x1 : Int32} {x2 : Int32} {s0 : Int32} {s1 : Nat} : sm_R X 70 115 [.ref x0, .int x1, .int x2, sm_J] [.int s0, .ref s1] w Q ↔ (sm_cN (sm_at w s1) = some 7 ∧ sm_R X 71 0 [.ref s1, .int s0, sm_J, sm_J] [] w (fun v w => sm_R X 70 118 [.ref x0, .int x1, .int x2, sm_J] (v.toList ++ []) w Q)) := sm_q_vir (k := 71) (as := [.ref s1, .int s0]) (rest := []) d70_115 rfl rfl rfl rfl rfl
theorem d70_118 : decode (sm_code 70) 118 = .ok (.istore_n 1, 1) := by decide +kernel
theorem r70_118 {X : sm_X} {w : sm_W} {Q : Option Value → sm_W → Prop} {x0 : Nat} {x1 : Int32} {x2 : Int32} {s0 : Int32} : sm_R X 70 118 [.ref x0, .int x1, .int x2, sm_J] [.int s0] w Q ↔ sm_R X 70 119 [.ref x0, .int s0, .int x2, sm_J] [] w Q := sm_R_go d70_118 rfl
theorem d70_119 : decode (sm_code 70) 119 = .ok (.iload_n 1, 1) := by decide +kernel
theorem r70_119 {X : sm_X} {w : sm_W} {Q : Option Value → sm_W → Prop} {x0 : Nat} {x1 : Int32} {x2 : Int32} : sm_R X 70 119 [.ref x0, .int x1, .int x2, sm_J] [] w Q ↔ sm_R X 70 120 [.ref x0, .int x1, .int x2, sm_J] [.int x1] w Q := sm_R_go d70_119 rfl
theorem d70_120 : decode (sm_code 70) 120 = .ok (.ifCond .le 8, 3) := by decide +kernel
theorem r70_120 {X : sm_X} {w : sm_W} {Q : Option Value → sm_W → Prop} {x0 : Nat} {x1 : Int32} {x2 : Int32} {s0 : Int32} : sm_R X 70 120 [.ref x0, .int x1, .int x2, sm_J] [.int s0] w Q ↔ (if s0 ≤ 0 then sm_R X 70 128 [.ref x0, .int x1, .int x2, sm_J] [] w Q else sm_R X 70 123 [.ref x0, .int x1, .int x2, sm_J] [] w Q) := sm_q_br d70_120 rfl
theorem d70_123 : decode (sm_code 70) 123 = .ok (.aload_n 0, 1) := by decide +kernel
theorem r70_123 {X : sm_X} {w : sm_W} {Q : Option Value → sm_W → Prop} {x0 : Nat} {x1 : Int32} {x2 : Int32} : sm_R X 70 123 [.ref x0, .int x1, .int x2, sm_J] [] w Q ↔ sm_R X 70 124 [.ref x0, .int x1, .int x2, sm_J] [.ref x0] w Q := sm_R_go d70_123 rfl
theorem d70_124 : decode (sm_code 70) 124 = .ok (.iload_n 2, 1) := by decide +kernel
theorem r70_124 {X : sm_X} {w : sm_W} {Q : Option Value → sm_W → Prop} {x0 : Nat} {x1 : Int32} {x2 : Int32} {s0 : Nat} : sm_R X 70 124 [.ref x0, .int x1, .int x2, sm_J] [.ref s0] w Q ↔ sm_R X 70 125 [.ref x0, .int x1, .int x2, sm_J] [.int x2, .ref s0] w Q := sm_R_go d70_124 rfl
theorem d70_125 : decode (sm_code 70) 125 = .ok (.putfield 48, 3) := by decide +kernel
theorem r70_125 {X : sm_X} {w : sm_W} {Q : Option Value → sm_W → Prop} {x0 : Nat} {x1 : Int32} {x2 : Int32} {s0 : Int32} {s1 : Nat} : sm_R X 70 125 [.ref x0, .int x1, .int x2, sm_J] [.int s0, .ref s1] w Q ↔ sm_wp (sm_pfl 7 12 (.int s0) (sm_at w s1)) (fun c => sm_R X 70 128 [.ref x0, .int x1, .int x2, sm_J] [] (w.set (s1 - 100) c) Q) := sm_q_putf d70_125 rfl rfl rfl (by decide)
theorem d70_128 : decode (sm_code 70) 128 = .ok (.iinc 2 1, 3) := by decide +kernel
theorem r70_128 {X : sm_X} {w : sm_W} {Q : Option Value → sm_W → Prop} {x0 : Nat} {x1 : Int32} {x2 : Int32} : sm_R X 70 128 [.ref x0, .int x1, .int x2, sm_J] [] w Q ↔ sm_R X 70 131 [.ref x0, .int x1, .int (x2 + 1), sm_J] [] w Q := sm_R_go d70_128 rfl
theorem d70_131 : decode (sm_code 70) 131 = .ok (.goto (-30), 3) := by decide +kernel
theorem r70_131 {X : sm_X} {w : sm_W} {Q : Option Value → sm_W → Prop} {x0 : Nat} {x1 : Int32} {x2 : Int32} : sm_R X 70 131 [.ref x0, .int x1, .int x2, sm_J] [] w Q ↔ sm_R X 70 101 [.ref x0, .int x1, .int x2, sm_J] [] w Q := sm_R_go d70_131 rfl
theorem d70_134 : decode (sm_code 70) 134 = .ok (.aload_n 0, 1) := by decide +kernel
theorem r70_134 {X : sm_X} {w : sm_W} {Q : Option Value → sm_W → Prop} {x0 : Nat} {x1 : Int32} {x2 : Int32} : sm_R X 70 134 [.ref x0, .int x1, .int x2, sm_J] [] w Q ↔ sm_R X 70 135 [.ref x0, .int x1, .int x2, sm_J] [.ref x0] w Q := sm_R_go d70_134 rfl
theorem d70_135 : decode (sm_code 70) 135 = .ok (.iconst 0, 1) := by decide +kernel
theorem r70_135 {X : sm_X} {w : sm_W} {Q : Option Value → sm_W → Prop} {x0 : Nat} {x1 : Int32} {x2 : Int32} {s0 : Nat} : sm_R X 70 135 [.ref x0, .int x1, .int x2, sm_J] [.ref s0] w Q ↔ sm_R X 70 136 [.ref x0, .int x1, .int x2, sm_J] [.int 0, .ref s0] w Q := sm_R_go d70_135 rfl
theorem d70_136 : decode (sm_code 70) 136 = .ok (.putfield 26, 3) := by decide +kernel
theorem r70_136 {X : sm_X} {w : sm_W} {Q : Option Value → sm_W → Prop} {x0 : Nat} {x1 : Int32} {x2 : Int32} {s0 : Int32} {s1 : Nat} : sm_R X 70 136 [.ref x0, .int x1, .int x2, sm_J] [.int s0, .ref s1] w Q ↔ sm_wp (sm_pfl 7 5 (.int s0) (sm_at w s1)) (fun c => sm_R X 70 139 [.ref x0, .int x1, .int x2, sm_J] [] (w.set (s1 - 100) c) Q) := sm_q_putf d70_136 rfl rfl rfl (by decide)
theorem d70_139 : decode (sm_code 70) 139 = .ok (.iload_n 1, 1) := by decide +kernel
theorem r70_139 {X : sm_X} {w : sm_W} {Q : Option Value → sm_W → Prop} {x0 : Nat} {x1 : Int32} {x2 : Int32} : sm_R X 70 139 [.ref x0, .int x1, .int x2, sm_J] [] w Q ↔ sm_R X 70 140 [.ref x0, .int x1, .int x2, sm_J] [.int x1] w Q := sm_R_go d70_139 rfl
theorem d70_140 : decode (sm_code 70) 140 = .ok (.ifCond .le 41, 3) := by decide +kernel
theorem r70_140 {X : sm_X} {w : sm_W} {Q : Option Value → sm_W → Prop} {x0 : Nat} {x1 : Int32} {x2 : Int32} {s0 : Int32} : sm_R X 70 140 [.ref x0, .int x1, .int x2, sm_J] [.int s0] w Q ↔ (if s0 ≤ 0 then sm_R X 70 181 [.ref x0, .int x1, .int x2, sm_J] [] w Q else sm_R X 70 143 [.ref x0, .int x1, .int x2, sm_J] [] w Q) := sm_q_br d70_140 rfl
theorem d70_143 : decode (sm_code 70) 143 = .ok (.aload_n 0, 1) := by decide +kernel
theorem r70_143 {X : sm_X} {w : sm_W} {Q : Option Value → sm_W → Prop} {x0 : Nat} {x1 : Int32} {x2 : Int32} : sm_R X 70 143 [.ref x0, .int x1, .int x2, sm_J] [] w Q ↔ sm_R X 70 144 [.ref x0, .int x1, .int x2, sm_J] [.ref x0] w Q := sm_R_go d70_143 rfl
theorem d70_144 : decode (sm_code 70) 144 = .ok (.dup, 1) := by decide +kernel
theorem r70_144 {X : sm_X} {w : sm_W} {Q : Option Value → sm_W → Prop} {x0 : Nat} {x1 : Int32} {x2 : Int32} {s0 : Nat} : sm_R X 70 144 [.ref x0, .int x1, .int x2, sm_J] [.ref s0] w Q ↔ sm_R X 70 145 [.ref x0, .int x1, .int x2, sm_J] [.ref s0, .ref s0] w Q := sm_R_go d70_144 rfl
theorem d70_145 : decode (sm_code 70) 145 = .ok (.getfield 63, 3) := by decide +kernel
theorem r70_145 {X : sm_X} {w : sm_W} {Q : Option Value → sm_W → Prop} {x0 : Nat} {x1 : Int32} {x2 : Int32} {s0 : Nat} {s1 : Nat} : sm_R X 70 145 [.ref x0, .int x1, .int x2, sm_J] [.ref s0, .ref s1] w Q ↔ sm_wp (sm_fld 7 17 (sm_at w s0)) (fun v => sm_R X 70 148 [.ref x0, .int x1, .int x2, sm_J] [v, .ref s1] w Q) := sm_q_getf d70_145 rfl (by decide)
theorem d70_148 : decode (sm_code 70) 148 = .ok (.iconst 1, 1) := by decide +kernel
theorem r70_148 {X : sm_X} {w : sm_W} {Q : Option Value → sm_W → Prop} {x0 : Nat} {x1 : Int32} {x2 : Int32} {s0 : Int32} {s1 : Nat} : sm_R X 70 148 [.ref x0, .int x1, .int x2, sm_J] [.int s0, .ref s1] w Q ↔ sm_R X 70 149 [.ref x0, .int x1, .int x2, sm_J] [.int 1, .int s0, .ref s1] w Q := sm_R_go d70_148 rfl
theorem d70_149 : decode (sm_code 70) 149 = .ok (.iadd, 1) := by decide +kernel
theorem r70_149 {X : sm_X} {w : sm_W} {Q : Option Value → sm_W → Prop} {x0 : Nat} {x1 : Int32} {x2 : Int32} {s0 : Int32} {s1 : Int32} {s2 : Nat} : sm_R X 70 149 [.ref x0, .int x1, .int x2, sm_J] [.int s0, .int s1, .ref s2] w Q ↔ sm_R X 70 150 [.ref x0, .int x1, .int x2, sm_J] [.int (s1 + s0), .ref s2] w Q := sm_R_go d70_149 rfl
theorem d70_150 : decode (sm_code 70) 150 = .ok (.putfield 63, 3) := by decide +kernel
theorem r70_150 {X : sm_X} {w : sm_W} {Q : Option Value → sm_W → Prop} {x0 : Nat} {x1 : Int32} {x2 : Int32} {s0 : Int32} {s1 : Nat} : sm_R X 70 150 [.ref x0, .int x1, .int x2, sm_J] [.int s0, .ref s1] w Q ↔ sm_wp (sm_pfl 7 17 (.int s0) (sm_at w s1)) (fun c => sm_R X 70 153 [.ref x0, .int x1, .int x2, sm_J] [] (w.set (s1 - 100) c) Q) := sm_q_putf d70_150 rfl rfl rfl (by decide)
theorem d70_153 : decode (sm_code 70) 153 = .ok (.iconst 0, 1) := by decide +kernel
theorem r70_153 {X : sm_X} {w : sm_W} {Q : Option Value → sm_W → Prop} {x0 : Nat} {x1 : Int32} {x2 : Int32} : sm_R X 70 153 [.ref x0, .int x1, .int x2, sm_J] [] w Q ↔ sm_R X 70 154 [.ref x0, .int x1, .int x2, sm_J] [.int 0] w Q := sm_R_go d70_153 rfl
theorem d70_154 : decode (sm_code 70) 154 = .ok (.istore_n 2, 1) := by decide +kernel
theorem r70_154 {X : sm_X} {w : sm_W} {Q : Option Value → sm_W → Prop} {x0 : Nat} {x1 : Int32} {x2 : Int32} {s0 : Int32} : sm_R X 70 154 [.ref x0, .int x1, .int x2, sm_J] [.int s0] w Q ↔ sm_R X 70 155 [.ref x0, .int x1, .int s0, sm_J] [] w Q := sm_R_go d70_154 rfl
theorem d70_155 : decode (sm_code 70) 155 = .ok (.iload_n 2, 1) := by decide +kernel
theorem r70_155 {X : sm_X} {w : sm_W} {Q : Option Value → sm_W → Prop} {x0 : Nat} {x1 : Int32} {x2 : Int32} : sm_R X 70 155 [.ref x0, .int x1, .int x2, sm_J] [] w Q ↔ sm_R X 70 156 [.ref x0, .int x1, .int x2, sm_J] [.int x2] w Q := sm_R_go d70_155 rfl
theorem d70_156 : decode (sm_code 70) 156 = .ok (.bipush 94, 2) := by decide +kernel
theorem r70_156 {X : sm_X} {w : sm_W} {Q : Option Value → sm_W → Prop} {x0 : Nat} {x1 : Int32} {x2 : Int32} {s0 : Int32} : sm_R X 70 156 [.ref x0, .int x1, .int x2, sm_J] [.int s0] w Q ↔ sm_R X 70 158 [.ref x0, .int x1, .int x2, sm_J] [.int 94, .int s0] w Q := sm_R_go d70_156 rfl
theorem d70_158 : decode (sm_code 70) 158 = .ok (.if_icmp .ge 21, 3) := by decide +kernel
theorem r70_158 {X : sm_X} {w : sm_W} {Q : Option Value → sm_W → Prop} {x0 : Nat} {x1 : Int32} {x2 : Int32} {s0 : Int32} {s1 : Int32} : sm_R X 70 158 [.ref x0, .int x1, .int x2, sm_J] [.int s0, .int s1] w Q ↔ (if s0 ≤ s1 then sm_R X 70 179 [.ref x0, .int x1, .int x2, sm_J] [] w Q else sm_R X 70 161 [.ref x0, .int x1, .int x2, sm_J] [] w Q) := sm_q_br d70_158 rfl
theorem d70_161 : decode (sm_code 70) 161 = .ok (.aload_n 0, 1) := by decide +kernel
theorem r70_161 {X : sm_X} {w : sm_W} {Q : Option Value → sm_W → Prop} {x0 : Nat} {x1 : Int32} {x2 : Int32} : sm_R X 70 161 [.ref x0, .int x1, .int x2, sm_J] [] w Q ↔ sm_R X 70 162 [.ref x0, .int x1, .int x2, sm_J] [.ref x0] w Q := sm_R_go d70_161 rfl
theorem d70_162 : decode (sm_code 70) 162 = .ok (.getfield 7, 3) := by decide +kernel
theorem r70_162 {X : sm_X} {w : sm_W} {Q : Option Value → sm_W → Prop} {x0 : Nat} {x1 : Int32} {x2 : Int32} {s0 : Nat} : sm_R X 70 162 [.ref x0, .int x1, .int x2, sm_J] [.ref s0] w Q ↔ sm_wp (sm_fld 7 0 (sm_at w s0)) (fun v => sm_R X 70 165 [.ref x0, .int x1, .int x2, sm_J] [v] w Q) := sm_q_getf d70_162 rfl (by decide)
theorem d70_165 : decode (sm_code 70) 165 = .ok (.iload_n 2, 1) := by decide +kernel
theorem r70_165 {X : sm_X} {w : sm_W} {Q : Option Value → sm_W → Prop} {x0 : Nat} {x1 : Int32} {x2 : Int32} {s0 : Nat} : sm_R X 70 165 [.ref x0, .int x1, .int x2, sm_J] [.ref s0] w Q ↔ sm_R X 70 166 [.ref x0, .int x1, .int x2, sm_J] [.int x2, .ref s0] w Q := sm_R_go d70_165 rfl
theorem d70_166 : decode (sm_code 70) 166 = .ok (.aload_n 0, 1) := by decide +kernel
theorem r70_166 {X : sm_X} {w : sm_W} {Q : Option Value → sm_W → Prop} {x0 : Nat} {x1 : Int32} {x2 : Int32} {s0 : Int32} {s1 : Nat} : sm_R X 70 166 [.ref x0, .int x1, .int x2, sm_J] [.int s0, .ref s1] w Q ↔ sm_R X 70 167 [.ref x0, .int x1, .int x2, sm_J] [.ref x0, .int s0, .ref s1] w Q := sm_R_go d70_166 rfl
theorem d70_167 : decode (sm_code 70) 167 = .ok (.getfield 13, 3) := by decide +kernel
theorem r70_167 {X : sm_X} {w : sm_W} {Q : Option Value → sm_W → Prop} {x0 : Nat} {x1 : Int32} {x2 : Int32} {s0 : Nat} {s1 : Int32} {s2 : Nat} : sm_R X 70 167 [.ref x0, .int x1, .int x2, sm_J] [.ref s0, .int s1, .ref s2] w Q ↔ sm_wp (sm_fld 7 1 (sm_at w s0)) (fun v => sm_R X 70 170 [.ref x0, .int x1, .int x2, sm_J] [v, .int s1, .ref s2] w Q) := sm_q_getf d70_167 rfl (by decide)
theorem d70_170 : decode (sm_code 70) 170 = .ok (.iload_n 2, 1) := by decide +kernel
theorem r70_170 {X : sm_X} {w : sm_W} {Q : Option Value → sm_W → Prop} {x0 : Nat} {x1 : Int32} {x2 : Int32} {s0 : Nat} {s1 : Int32} {s2 : Nat} : sm_R X 70 170 [.ref x0, .int x1, .int x2, sm_J] [.ref s0, .int s1, .ref s2] w Q ↔ sm_R X 70 171 [.ref x0, .int x1, .int x2, sm_J] [.int x2, .ref s0, .int s1, .ref s2] w Q := sm_R_go d70_170 rfl
theorem d70_171 : decode (sm_code 70) 171 = .ok (.laload, 1) := by decide +kernel
theorem r70_171 {X : sm_X} {w : sm_W} {Q : Option Value → sm_W → Prop} {x0 : Nat} {x1 : Int32} {x2 : Int32} {s0 : Int32} {s1 : Nat} {s2 : Int32} {s3 : Nat} : sm_R X 70 171 [.ref x0, .int x1, .int x2, sm_J] [.int s0, .ref s1, .int s2, .ref s3] w Q ↔ sm_wp (sm_al s0 (sm_at w s1)) (fun v => sm_R X 70 172 [.ref x0, .int x1, .int x2, sm_J] [.long v, .int s2, .ref s3] w Q) := sm_q_lald d70_171
theorem d70_172 : decode (sm_code 70) 172 = .ok (.lastore, 1) := by decide +kernel
theorem r70_172 {X : sm_X} {w : sm_W} {Q : Option Value → sm_W → Prop} {x0 : Nat} {x1 : Int32} {x2 : Int32} {s0 : Int64} {s1 : Int32} {s2 : Nat} : sm_R X 70 172 [.ref x0, .int x1, .int x2, sm_J] [.long s0, .int s1, .ref s2] w Q ↔ sm_wp (sm_slg s1 s0 (sm_at w s2)) (fun c => sm_R X 70 173 [.ref x0, .int x1, .int x2, sm_J] [] (w.set (s2 - 100) c) Q) := sm_q_last d70_172
theorem d70_173 : decode (sm_code 70) 173 = .ok (.iinc 2 1, 3) := by decide +kernel
theorem r70_173 {X : sm_X} {w : sm_W} {Q : Option Value → sm_W → Prop} {x0 : Nat} {x1 : Int32} {x2 : Int32} : sm_R X 70 173 [.ref x0, .int x1, .int x2, sm_J] [] w Q ↔ sm_R X 70 176 [.ref x0, .int x1, .int (x2 + 1), sm_J] [] w Q := sm_R_go d70_173 rfl
theorem d70_176 : decode (sm_code 70) 176 = .ok (.goto (-21), 3) := by decide +kernel
theorem r70_176 {X : sm_X} {w : sm_W} {Q : Option Value → sm_W → Prop} {x0 : Nat} {x1 : Int32} {x2 : Int32} : sm_R X 70 176 [.ref x0, .int x1, .int x2, sm_J] [] w Q ↔ sm_R X 70 155 [.ref x0, .int x1, .int x2, sm_J] [] w Q := sm_R_go d70_176 rfl
theorem d70_179 : decode (sm_code 70) 179 = .ok (.iload_n 1, 1) := by decide +kernel
theorem r70_179 {X : sm_X} {w : sm_W} {Q : Option Value → sm_W → Prop} {x0 : Nat} {x1 : Int32} {x2 : Int32} : sm_R X 70 179 [.ref x0, .int x1, .int x2, sm_J] [] w Q ↔ sm_R X 70 180 [.ref x0, .int x1, .int x2, sm_J] [.int x1] w Q := sm_R_go d70_179 rfl
theorem d70_180 : decode (sm_code 70) 180 = .ok (.ireturn, 1) := by decide +kernel
theorem r70_180 {X : sm_X} {w : sm_W} {Q : Option Value → sm_W → Prop} {x0 : Nat} {x1 : Int32} {x2 : Int32} {s0 : Int32} : sm_R X 70 180 [.ref x0, .int x1, .int x2, sm_J] [.int s0] w Q ↔ Q (some (.int s0)) w := sm_q_iret d70_180 rfl
theorem d70_181 : decode (sm_code 70) 181 = .ok (.aload_n 0, 1) := by decide +kernel
theorem r70_181 {X : sm_X} {w : sm_W} {Q : Option Value → sm_W → Prop} {x0 : Nat} {x1 : Int32} {x2 : Int32} : sm_R X 70 181 [.ref x0, .int x1, .int x2, sm_J] [] w Q ↔ sm_R X 70 182 [.ref x0, .int x1, .int x2, sm_J] [.ref x0] w Q := sm_R_go d70_181 rfl
theorem d70_182 : decode (sm_code 70) 182 = .ok (.dup, 1) := by decide +kernel
theorem r70_182 {X : sm_X} {w : sm_W} {Q : Option Value → sm_W → Prop} {x0 : Nat} {x1 : Int32} {x2 : Int32} {s0 : Nat} : sm_R X 70 182 [.ref x0, .int x1, .int x2, sm_J] [.ref s0] w Q ↔ sm_R X 70 183 [.ref x0, .int x1, .int x2, sm_J] [.ref s0, .ref s0] w Q := sm_R_go d70_182 rfl
theorem d70_183 : decode (sm_code 70) 183 = .ok (.getfield 60, 3) := by decide +kernel
theorem r70_183 {X : sm_X} {w : sm_W} {Q : Option Value → sm_W → Prop} {x0 : Nat} {x1 : Int32} {x2 : Int32} {s0 : Nat} {s1 : Nat} : sm_R X 70 183 [.ref x0, .int x1, .int x2, sm_J] [.ref s0, .ref s1] w Q ↔ sm_wp (sm_fld 7 16 (sm_at w s0)) (fun v => sm_R X 70 186 [.ref x0, .int x1, .int x2, sm_J] [v, .ref s1] w Q) := sm_q_getf d70_183 rfl (by decide)
theorem d70_186 : decode (sm_code 70) 186 = .ok (.iconst 1, 1) := by decide +kernel
theorem r70_186 {X : sm_X} {w : sm_W} {Q : Option Value → sm_W → Prop} {x0 : Nat} {x1 : Int32} {x2 : Int32} {s0 : Int32} {s1 : Nat} : sm_R X 70 186 [.ref x0, .int x1, .int x2, sm_J] [.int s0, .ref s1] w Q ↔ sm_R X 70 187 [.ref x0, .int x1, .int x2, sm_J] [.int 1, .int s0, .ref s1] w Q := sm_R_go d70_186 rfl
theorem d70_187 : decode (sm_code 70) 187 = .ok (.iadd, 1) := by decide +kernel
theorem r70_187 {X : sm_X} {w : sm_W} {Q : Option Value → sm_W → Prop} {x0 : Nat} {x1 : Int32} {x2 : Int32} {s0 : Int32} {s1 : Int32} {s2 : Nat} : sm_R X 70 187 [.ref x0, .int x1, .int x2, sm_J] [.int s0, .int s1, .ref s2] w Q ↔ sm_R X 70 188 [.ref x0, .int x1, .int x2, sm_J] [.int (s1 + s0), .ref s2] w Q := sm_R_go d70_187 rfl
theorem d70_188 : decode (sm_code 70) 188 = .ok (.putfield 60, 3) := by decide +kernel
theorem r70_188 {X : sm_X} {w : sm_W} {Q : Option Value → sm_W → Prop} {x0 : Nat} {x1 : Int32} {x2 : Int32} {s0 : Int32} {s1 : Nat} : sm_R X 70 188 [.ref x0, .int x1, .int x2, sm_J] [.int s0, .ref s1] w Q ↔ sm_wp (sm_pfl 7 16 (.int s0) (sm_at w s1)) (fun c => sm_R X 70 191 [.ref x0, .int x1, .int x2, sm_J] [] (w.set (s1 - 100) c) Q) := sm_q_putf d70_188 rfl rfl rfl (by decide)
theorem d70_191 : decode (sm_code 70) 191 = .ok (.iconst 0, 1) := by decide +kernel
theorem r70_191 {X : sm_X} {w : sm_W} {Q : Option Value → sm_W → Prop} {x0 : Nat} {x1 : Int32} {x2 : Int32} : sm_R X 70 191 [.ref x0, .int x1, .int x2, sm_J] [] w Q ↔ sm_R X 70 192 [.ref x0, .int x1, .int x2, sm_J] [.int 0] w Q := sm_R_go d70_191 rfl
theorem d70_192 : decode (sm_code 70) 192 = .ok (.istore_n 2, 1) := by decide +kernel
theorem r70_192 {X : sm_X} {w : sm_W} {Q : Option Value → sm_W → Prop} {x0 : Nat} {x1 : Int32} {x2 : Int32} {s0 : Int32} : sm_R X 70 192 [.ref x0, .int x1, .int x2, sm_J] [.int s0] w Q ↔ sm_R X 70 193 [.ref x0, .int x1, .int s0, sm_J] [] w Q := sm_R_go d70_192 rfl
theorem d70_193 : decode (sm_code 70) 193 = .ok (.iload_n 2, 1) := by decide +kernel
theorem r70_193 {X : sm_X} {w : sm_W} {Q : Option Value → sm_W → Prop} {x0 : Nat} {x1 : Int32} {x2 : Int32} {x3 : Value} : sm_R X 70 193 [.ref x0, .int x1, .int x2, x3] [] w Q ↔ sm_R X 70 194 [.ref x0, .int x1, .int x2, x3] [.int x2] w Q := sm_R_go d70_193 rfl
theorem d70_194 : decode (sm_code 70) 194 = .ok (.aload_n 0, 1) := by decide +kernel
theorem r70_194 {X : sm_X} {w : sm_W} {Q : Option Value → sm_W → Prop} {x0 : Nat} {x1 : Int32} {x2 : Int32} {x3 : Value} {s0 : Int32} : sm_R X 70 194 [.ref x0, .int x1, .int x2, x3] [.int s0] w Q ↔ sm_R X 70 195 [.ref x0, .int x1, .int x2, x3] [.ref x0, .int s0] w Q := sm_R_go d70_194 rfl
theorem d70_195 : decode (sm_code 70) 195 = .ok (.getfield 72, 3) := by decide +kernel
theorem r70_195 {X : sm_X} {w : sm_W} {Q : Option Value → sm_W → Prop} {x0 : Nat} {x1 : Int32} {x2 : Int32} {x3 : Value} {s0 : Nat} {s1 : Int32} : sm_R X 70 195 [.ref x0, .int x1, .int x2, x3] [.ref s0, .int s1] w Q ↔ sm_wp (sm_fld 7 20 (sm_at w s0)) (fun v => sm_R X 70 198 [.ref x0, .int x1, .int x2, x3] [v, .int s1] w Q) := sm_q_getf d70_195 rfl (by decide)
theorem d70_198 : decode (sm_code 70) 198 = .ok (.if_icmp .ge 58, 3) := by decide +kernel
theorem r70_198 {X : sm_X} {w : sm_W} {Q : Option Value → sm_W → Prop} {x0 : Nat} {x1 : Int32} {x2 : Int32} {x3 : Value} {s0 : Int32} {s1 : Int32} : sm_R X 70 198 [.ref x0, .int x1, .int x2, x3] [.int s0, .int s1] w Q ↔ (if s0 ≤ s1 then sm_R X 70 256 [.ref x0, .int x1, .int x2, x3] [] w Q else sm_R X 70 201 [.ref x0, .int x1, .int x2, x3] [] w Q) := sm_q_br d70_198 rfl
theorem d70_201 : decode (sm_code 70) 201 = .ok (.bipush 7, 2) := by decide +kernel
theorem r70_201 {X : sm_X} {w : sm_W} {Q : Option Value → sm_W → Prop} {x0 : Nat} {x1 : Int32} {x2 : Int32} {x3 : Value} : sm_R X 70 201 [.ref x0, .int x1, .int x2, x3] [] w Q ↔ sm_R X 70 203 [.ref x0, .int x1, .int x2, x3] [.int 7] w Q := sm_R_go d70_201 rfl
theorem d70_203 : decode (sm_code 70) 203 = .ok (.istore_n 3, 1) := by decide +kernel
theorem r70_203 {X : sm_X} {w : sm_W} {Q : Option Value → sm_W → Prop} {x0 : Nat} {x1 : Int32} {x2 : Int32} {x3 : Value} {s0 : Int32} : sm_R X 70 203 [.ref x0, .int x1, .int x2, x3] [.int s0] w Q ↔ sm_R X 70 204 [.ref x0, .int x1, .int x2, .int s0] [] w Q := sm_R_go d70_203 rfl
theorem d70_204 : decode (sm_code 70) 204 = .ok (.iload_n 3, 1) := by decide +kernel
theorem r70_204 {X : sm_X} {w : sm_W} {Q : Option Value → sm_W → Prop} {x0 : Nat} {x1 : Int32} {x2 : Int32} {x3 : Int32} : sm_R X 70 204 [.ref x0, .int x1, .int x2, .int x3] [] w Q ↔ sm_R X 70 205 [.ref x0, .int x1, .int x2, .int x3] [.int x3] w Q := sm_R_go d70_204 rfl
theorem d70_205 : decode (sm_code 70) 205 = .ok (.ifCond .le 23, 3) := by decide +kernel
theorem r70_205 {X : sm_X} {w : sm_W} {Q : Option Value → sm_W → Prop} {x0 : Nat} {x1 : Int32} {x2 : Int32} {x3 : Int32} {s0 : Int32} : sm_R X 70 205 [.ref x0, .int x1, .int x2, .int x3] [.int s0] w Q ↔ (if s0 ≤ 0 then sm_R X 70 228 [.ref x0, .int x1, .int x2, .int x3] [] w Q else sm_R X 70 208 [.ref x0, .int x1, .int x2, .int x3] [] w Q) := sm_q_br d70_205 rfl
theorem d70_208 : decode (sm_code 70) 208 = .ok (.aload_n 0, 1) := by decide +kernel
theorem r70_208 {X : sm_X} {w : sm_W} {Q : Option Value → sm_W → Prop} {x0 : Nat} {x1 : Int32} {x2 : Int32} {x3 : Int32} : sm_R X 70 208 [.ref x0, .int x1, .int x2, .int x3] [] w Q ↔ sm_R X 70 209 [.ref x0, .int x1, .int x2, .int x3] [.ref x0] w Q := sm_R_go d70_208 rfl
theorem d70_209 : decode (sm_code 70) 209 = .ok (.getfield 75, 3) := by decide +kernel
theorem r70_209 {X : sm_X} {w : sm_W} {Q : Option Value → sm_W → Prop} {x0 : Nat} {x1 : Int32} {x2 : Int32} {x3 : Int32} {s0 : Nat} : sm_R X 70 209 [.ref x0, .int x1, .int x2, .int x3] [.ref s0] w Q ↔ sm_wp (sm_fld 7 21 (sm_at w s0)) (fun v => sm_R X 70 212 [.ref x0, .int x1, .int x2, .int x3] [v] w Q) := sm_q_getf d70_209 rfl (by decide)
theorem d70_212 : decode (sm_code 70) 212 = .ok (.iload_n 3, 1) := by decide +kernel
theorem r70_212 {X : sm_X} {w : sm_W} {Q : Option Value → sm_W → Prop} {x0 : Nat} {x1 : Int32} {x2 : Int32} {x3 : Int32} {s0 : Nat} : sm_R X 70 212 [.ref x0, .int x1, .int x2, .int x3] [.ref s0] w Q ↔ sm_R X 70 213 [.ref x0, .int x1, .int x2, .int x3] [.int x3, .ref s0] w Q := sm_R_go d70_212 rfl
theorem d70_213 : decode (sm_code 70) 213 = .ok (.aload_n 0, 1) := by decide +kernel
theorem r70_213 {X : sm_X} {w : sm_W} {Q : Option Value → sm_W → Prop} {x0 : Nat} {x1 : Int32} {x2 : Int32} {x3 : Int32} {s0 : Int32} {s1 : Nat} : sm_R X 70 213 [.ref x0, .int x1, .int x2, .int x3] [.int s0, .ref s1] w Q ↔ sm_R X 70 214 [.ref x0, .int x1, .int x2, .int x3] [.ref x0, .int s0, .ref s1] w Q := sm_R_go d70_213 rfl
theorem d70_214 : decode (sm_code 70) 214 = .ok (.getfield 75, 3) := by decide +kernel
theorem r70_214 {X : sm_X} {w : sm_W} {Q : Option Value → sm_W → Prop} {x0 : Nat} {x1 : Int32} {x2 : Int32} {x3 : Int32} {s0 : Nat} {s1 : Int32} {s2 : Nat} : sm_R X 70 214 [.ref x0, .int x1, .int x2, .int x3] [.ref s0, .int s1, .ref s2] w Q ↔ sm_wp (sm_fld 7 21 (sm_at w s0)) (fun v => sm_R X 70 217 [.ref x0, .int x1, .int x2, .int x3] [v, .int s1, .ref s2] w Q) := sm_q_getf d70_214 rfl (by decide)
theorem d70_217 : decode (sm_code 70) 217 = .ok (.iload_n 3, 1) := by decide +kernel
theorem r70_217 {X : sm_X} {w : sm_W} {Q : Option Value → sm_W → Prop} {x0 : Nat} {x1 : Int32} {x2 : Int32} {x3 : Int32} {s0 : Nat} {s1 : Int32} {s2 : Nat} : sm_R X 70 217 [.ref x0, .int x1, .int x2, .int x3] [.ref s0, .int s1, .ref s2] w Q ↔ sm_R X 70 218 [.ref x0, .int x1, .int x2, .int x3] [.int x3, .ref s0, .int s1, .ref s2] w Q := sm_R_go d70_217 rfl
theorem d70_218 : decode (sm_code 70) 218 = .ok (.iconst 1, 1) := by decide +kernel
theorem r70_218 {X : sm_X} {w : sm_W} {Q : Option Value → sm_W → Prop} {x0 : Nat} {x1 : Int32} {x2 : Int32} {x3 : Int32} {s0 : Int32} {s1 : Nat} {s2 : Int32} {s3 : Nat} : sm_R X 70 218 [.ref x0, .int x1, .int x2, .int x3] [.int s0, .ref s1, .int s2, .ref s3] w Q ↔ sm_R X 70 219 [.ref x0, .int x1, .int x2, .int x3] [.int 1, .int s0, .ref s1, .int s2, .ref s3] w Q := sm_R_go d70_218 rfl
theorem d70_219 : decode (sm_code 70) 219 = .ok (.isub, 1) := by decide +kernel
theorem r70_219 {X : sm_X} {w : sm_W} {Q : Option Value → sm_W → Prop} {x0 : Nat} {x1 : Int32} {x2 : Int32} {x3 : Int32} {s0 : Int32} {s1 : Int32} {s2 : Nat} {s3 : Int32} {s4 : Nat} : sm_R X 70 219 [.ref x0, .int x1, .int x2, .int x3] [.int s0, .int s1, .ref s2, .int s3, .ref s4] w Q ↔ sm_R X 70 220 [.ref x0, .int x1, .int x2, .int x3] [.int (s1 - s0), .ref s2, .int s3, .ref s4] w Q := sm_R_go d70_219 rfl
theorem d70_220 : decode (sm_code 70) 220 = .ok (.laload, 1) := by decide +kernel
theorem r70_220 {X : sm_X} {w : sm_W} {Q : Option Value → sm_W → Prop} {x0 : Nat} {x1 : Int32} {x2 : Int32} {x3 : Int32} {s0 : Int32} {s1 : Nat} {s2 : Int32} {s3 : Nat} : sm_R X 70 220 [.ref x0, .int x1, .int x2, .int x3] [.int s0, .ref s1, .int s2, .ref s3] w Q ↔ sm_wp (sm_al s0 (sm_at w s1)) (fun v => sm_R X 70 221 [.ref x0, .int x1, .int x2, .int x3] [.long v, .int s2, .ref s3] w Q) := sm_q_lald d70_220
theorem d70_221 : decode (sm_code 70) 221 = .ok (.lastore, 1) := by decide +kernel
theorem r70_221 {X : sm_X} {w : sm_W} {Q : Option Value → sm_W → Prop} {x0 : Nat} {x1 : Int32} {x2 : Int32} {x3 : Int32} {s0 : Int64} {s1 : Int32} {s2 : Nat} : sm_R X 70 221 [.ref x0, .int x1, .int x2, .int x3] [.long s0, .int s1, .ref s2] w Q ↔ sm_wp (sm_slg s1 s0 (sm_at w s2)) (fun c => sm_R X 70 222 [.ref x0, .int x1, .int x2, .int x3] [] (w.set (s2 - 100) c) Q) := sm_q_last d70_221
theorem d70_222 : decode (sm_code 70) 222 = .ok (.iinc 3 (-1), 3) := by decide +kernel
theorem r70_222 {X : sm_X} {w : sm_W} {Q : Option Value → sm_W → Prop} {x0 : Nat} {x1 : Int32} {x2 : Int32} {x3 : Int32} : sm_R X 70 222 [.ref x0, .int x1, .int x2, .int x3] [] w Q ↔ sm_R X 70 225 [.ref x0, .int x1, .int x2, .int (x3 + (-1))] [] w Q := sm_R_go d70_222 rfl
theorem d70_225 : decode (sm_code 70) 225 = .ok (.goto (-21), 3) := by decide +kernel
theorem r70_225 {X : sm_X} {w : sm_W} {Q : Option Value → sm_W → Prop} {x0 : Nat} {x1 : Int32} {x2 : Int32} {x3 : Int32} : sm_R X 70 225 [.ref x0, .int x1, .int x2, .int x3] [] w Q ↔ sm_R X 70 204 [.ref x0, .int x1, .int x2, .int x3] [] w Q := sm_R_go d70_225 rfl
theorem d70_228 : decode (sm_code 70) 228 = .ok (.aload_n 0, 1) := by decide +kernel
theorem r70_228 {X : sm_X} {w : sm_W} {Q : Option Value → sm_W → Prop} {x0 : Nat} {x1 : Int32} {x2 : Int32} {x3 : Int32} : sm_R X 70 228 [.ref x0, .int x1, .int x2, .int x3] [] w Q ↔ sm_R X 70 229 [.ref x0, .int x1, .int x2, .int x3] [.ref x0] w Q := sm_R_go d70_228 rfl
theorem d70_229 : decode (sm_code 70) 229 = .ok (.getfield 75, 3) := by decide +kernel
theorem r70_229 {X : sm_X} {w : sm_W} {Q : Option Value → sm_W → Prop} {x0 : Nat} {x1 : Int32} {x2 : Int32} {x3 : Int32} {s0 : Nat} : sm_R X 70 229 [.ref x0, .int x1, .int x2, .int x3] [.ref s0] w Q ↔ sm_wp (sm_fld 7 21 (sm_at w s0)) (fun v => sm_R X 70 232 [.ref x0, .int x1, .int x2, .int x3] [v] w Q) := sm_q_getf d70_229 rfl (by decide)
theorem d70_232 : decode (sm_code 70) 232 = .ok (.iconst 0, 1) := by decide +kernel
theorem r70_232 {X : sm_X} {w : sm_W} {Q : Option Value → sm_W → Prop} {x0 : Nat} {x1 : Int32} {x2 : Int32} {x3 : Int32} {s0 : Nat} : sm_R X 70 232 [.ref x0, .int x1, .int x2, .int x3] [.ref s0] w Q ↔ sm_R X 70 233 [.ref x0, .int x1, .int x2, .int x3] [.int 0, .ref s0] w Q := sm_R_go d70_232 rfl
theorem d70_233 : decode (sm_code 70) 233 = .ok (.aload_n 0, 1) := by decide +kernel
theorem r70_233 {X : sm_X} {w : sm_W} {Q : Option Value → sm_W → Prop} {x0 : Nat} {x1 : Int32} {x2 : Int32} {x3 : Int32} {s0 : Int32} {s1 : Nat} : sm_R X 70 233 [.ref x0, .int x1, .int x2, .int x3] [.int s0, .ref s1] w Q ↔ sm_R X 70 234 [.ref x0, .int x1, .int x2, .int x3] [.ref x0, .int s0, .ref s1] w Q := sm_R_go d70_233 rfl
theorem d70_234 : decode (sm_code 70) 234 = .ok (.getfield 78, 3) := by decide +kernel
theorem r70_234 {X : sm_X} {w : sm_W} {Q : Option Value → sm_W → Prop} {x0 : Nat} {x1 : Int32} {x2 : Int32} {x3 : Int32} {s0 : Nat} {s1 : Int32} {s2 : Nat} : sm_R X 70 234 [.ref x0, .int x1, .int x2, .int x3] [.ref s0, .int s1, .ref s2] w Q ↔ sm_wp (sm_fld 7 22 (sm_at w s0)) (fun v => sm_R X 70 237 [.ref x0, .int x1, .int x2, .int x3] [v, .int s1, .ref s2] w Q) := sm_q_getf d70_234 rfl (by decide)
theorem d70_237 : decode (sm_code 70) 237 = .ok (.iload_n 2, 1) := by decide +kernel
theorem r70_237 {X : sm_X} {w : sm_W} {Q : Option Value → sm_W → Prop} {x0 : Nat} {x1 : Int32} {x2 : Int32} {x3 : Int32} {s0 : Nat} {s1 : Int32} {s2 : Nat} : sm_R X 70 237 [.ref x0, .int x1, .int x2, .int x3] [.ref s0, .int s1, .ref s2] w Q ↔ sm_R X 70 238 [.ref x0, .int x1, .int x2, .int x3] [.int x2, .ref s0, .int s1, .ref s2] w Q := sm_R_go d70_237 rfl
theorem d70_238 : decode (sm_code 70) 238 = .ok (.laload, 1) := by decide +kernel
theorem r70_238 {X : sm_X} {w : sm_W} {Q : Option Value → sm_W → Prop} {x0 : Nat} {x1 : Int32} {x2 : Int32} {x3 : Int32} {s0 : Int32} {s1 : Nat} {s2 : Int32} {s3 : Nat} : sm_R X 70 238 [.ref x0, .int x1, .int x2, .int x3] [.int s0, .ref s1, .int s2, .ref s3] w Q ↔ sm_wp (sm_al s0 (sm_at w s1)) (fun v => sm_R X 70 239 [.ref x0, .int x1, .int x2, .int x3] [.long v, .int s2, .ref s3] w Q) := sm_q_lald d70_238
theorem d70_239 : decode (sm_code 70) 239 = .ok (.lastore, 1) := by decide +kernel
theorem r70_239 {X : sm_X} {w : sm_W} {Q : Option Value → sm_W → Prop} {x0 : Nat} {x1 : Int32} {x2 : Int32} {x3 : Int32} {s0 : Int64} {s1 : Int32} {s2 : Nat} : sm_R X 70 239 [.ref x0, .int x1, .int x2, .int x3] [.long s0, .int s1, .ref s2] w Q ↔ sm_wp (sm_slg s1 s0 (sm_at w s2)) (fun c => sm_R X 70 240 [.ref x0, .int x1, .int x2, .int x3] [] (w.set (s2 - 100) c) Q) := sm_q_last d70_239
theorem d70_240 : decode (sm_code 70) 240 = .ok (.aload_n 0, 1) := by decide +kernel
theorem r70_240 {X : sm_X} {w : sm_W} {Q : Option Value → sm_W → Prop} {x0 : Nat} {x1 : Int32} {x2 : Int32} {x3 : Int32} : sm_R X 70 240 [.ref x0, .int x1, .int x2, .int x3] [] w Q ↔ sm_R X 70 241 [.ref x0, .int x1, .int x2, .int x3] [.ref x0] w Q := sm_R_go d70_240 rfl
theorem d70_241 : decode (sm_code 70) 241 = .ok (.dup, 1) := by decide +kernel
theorem r70_241 {X : sm_X} {w : sm_W} {Q : Option Value → sm_W → Prop} {x0 : Nat} {x1 : Int32} {x2 : Int32} {x3 : Int32} {s0 : Nat} : sm_R X 70 241 [.ref x0, .int x1, .int x2, .int x3] [.ref s0] w Q ↔ sm_R X 70 242 [.ref x0, .int x1, .int x2, .int x3] [.ref s0, .ref s0] w Q := sm_R_go d70_241 rfl
theorem d70_242 : decode (sm_code 70) 242 = .ok (.getfield 66, 3) := by decide +kernel
theorem r70_242 {X : sm_X} {w : sm_W} {Q : Option Value → sm_W → Prop} {x0 : Nat} {x1 : Int32} {x2 : Int32} {x3 : Int32} {s0 : Nat} {s1 : Nat} : sm_R X 70 242 [.ref x0, .int x1, .int x2, .int x3] [.ref s0, .ref s1] w Q ↔ sm_wp (sm_fld 7 18 (sm_at w s0)) (fun v => sm_R X 70 245 [.ref x0, .int x1, .int x2, .int x3] [v, .ref s1] w Q) := sm_q_getf d70_242 rfl (by decide)
theorem d70_245 : decode (sm_code 70) 245 = .ok (.iconst 1, 1) := by decide +kernel
theorem r70_245 {X : sm_X} {w : sm_W} {Q : Option Value → sm_W → Prop} {x0 : Nat} {x1 : Int32} {x2 : Int32} {x3 : Int32} {s0 : Int32} {s1 : Nat} : sm_R X 70 245 [.ref x0, .int x1, .int x2, .int x3] [.int s0, .ref s1] w Q ↔ sm_R X 70 246 [.ref x0, .int x1, .int x2, .int x3] [.int 1, .int s0, .ref s1] w Q := sm_R_go d70_245 rfl
theorem d70_246 : decode (sm_code 70) 246 = .ok (.iadd, 1) := by decide +kernel
theorem r70_246 {X : sm_X} {w : sm_W} {Q : Option Value → sm_W → Prop} {x0 : Nat} {x1 : Int32} {x2 : Int32} {x3 : Int32} {s0 : Int32} {s1 : Int32} {s2 : Nat} : sm_R X 70 246 [.ref x0, .int x1, .int x2, .int x3] [.int s0, .int s1, .ref s2] w Q ↔ sm_R X 70 247 [.ref x0, .int x1, .int x2, .int x3] [.int (s1 + s0), .ref s2] w Q := sm_R_go d70_246 rfl
theorem d70_247 : decode (sm_code 70) 247 = .ok (.putfield 66, 3) := by decide +kernel
theorem r70_247 {X : sm_X} {w : sm_W} {Q : Option Value → sm_W → Prop} {x0 : Nat} {x1 : Int32} {x2 : Int32} {x3 : Int32} {s0 : Int32} {s1 : Nat} : sm_R X 70 247 [.ref x0, .int x1, .int x2, .int x3] [.int s0, .ref s1] w Q ↔ sm_wp (sm_pfl 7 18 (.int s0) (sm_at w s1)) (fun c => sm_R X 70 250 [.ref x0, .int x1, .int x2, .int x3] [] (w.set (s1 - 100) c) Q) := sm_q_putf d70_247 rfl rfl rfl (by decide)
theorem d70_250 : decode (sm_code 70) 250 = .ok (.iinc 2 1, 3) := by decide +kernel
theorem r70_250 {X : sm_X} {w : sm_W} {Q : Option Value → sm_W → Prop} {x0 : Nat} {x1 : Int32} {x2 : Int32} {x3 : Int32} : sm_R X 70 250 [.ref x0, .int x1, .int x2, .int x3] [] w Q ↔ sm_R X 70 253 [.ref x0, .int x1, .int (x2 + 1), .int x3] [] w Q := sm_R_go d70_250 rfl
theorem d70_253 : decode (sm_code 70) 253 = .ok (.goto (-60), 3) := by decide +kernel
theorem r70_253 {X : sm_X} {w : sm_W} {Q : Option Value → sm_W → Prop} {x0 : Nat} {x1 : Int32} {x2 : Int32} {x3 : Int32} : sm_R X 70 253 [.ref x0, .int x1, .int x2, .int x3] [] w Q ↔ sm_R X 70 193 [.ref x0, .int x1, .int x2, .int x3] [] w Q := sm_R_go d70_253 rfl
theorem d70_256 : decode (sm_code 70) 256 = .ok (.iconst 0, 1) := by decide +kernel
theorem r70_256 {X : sm_X} {w : sm_W} {Q : Option Value → sm_W → Prop} {x0 : Nat} {x1 : Int32} {x2 : Int32} {x3 : Value} : sm_R X 70 256 [.ref x0, .int x1, .int x2, x3] [] w Q ↔ sm_R X 70 257 [.ref x0, .int x1, .int x2, x3] [.int 0] w Q := sm_R_go d70_256 rfl
theorem d70_257 : decode (sm_code 70) 257 = .ok (.ireturn, 1) := by decide +kernel
theorem r70_257 {X : sm_X} {w : sm_W} {Q : Option Value → sm_W → Prop} {x0 : Nat} {x1 : Int32} {x2 : Int32} {x3 : Value} {s0 : Int32} : sm_R X 70 257 [.ref x0, .int x1, .int x2, x3] [.int s0] w Q ↔ Q (some (.int s0)) w := sm_q_iret d70_257 rfl
-- GroupLedgerModel.transaction(I)I
theorem d71_0 : decode (sm_code 71) 0 = .ok (.aload_n 0, 1) := by decide +kernel
theorem r71_0 {X : sm_X} {w : sm_W} {Q : Option Value → sm_W → Prop} {x0 : Nat} {x1 : Int32} : sm_R X 71 0 [.ref x0, .int x1, sm_J, sm_J] [] w Q ↔ sm_R X 71 1 [.ref x0, .int x1, sm_J, sm_J] [.ref x0] w Q := sm_R_go d71_0 rfl
theorem d71_1 : decode (sm_code 71) 1 = .ok (.bipush (-3), 2) := by decide +kernel
theorem r71_1 {X : sm_X} {w : sm_W} {Q : Option Value → sm_W → Prop} {x0 : Nat} {x1 : Int32} {s0 : Nat} : sm_R X 71 1 [.ref x0, .int x1, sm_J, sm_J] [.ref s0] w Q ↔ sm_R X 71 3 [.ref x0, .int x1, sm_J, sm_J] [.int (-3), .ref s0] w Q := sm_R_go d71_1 rfl
theorem d71_3 : decode (sm_code 71) 3 = .ok (.putfield 51, 3) := by decide +kernel
theorem r71_3 {X : sm_X} {w : sm_W} {Q : Option Value → sm_W → Prop} {x0 : Nat} {x1 : Int32} {s0 : Int32} {s1 : Nat} : sm_R X 71 3 [.ref x0, .int x1, sm_J, sm_J] [.int s0, .ref s1] w Q ↔ sm_wp (sm_pfl 7 13 (.int s0) (sm_at w s1)) (fun c => sm_R X 71 6 [.ref x0, .int x1, sm_J, sm_J] [] (w.set (s1 - 100) c) Q) := sm_q_putf d71_3 rfl rfl rfl (by decide)
theorem d71_6 : decode (sm_code 71) 6 = .ok (.aload_n 0, 1) := by decide +kernel
theorem r71_6 {X : sm_X} {w : sm_W} {Q : Option Value → sm_W → Prop} {x0 : Nat} {x1 : Int32} : sm_R X 71 6 [.ref x0, .int x1, sm_J, sm_J] [] w Q ↔ sm_R X 71 7 [.ref x0, .int x1, sm_J, sm_J] [.ref x0] w Q := sm_R_go d71_6 rfl
theorem d71_7 : decode (sm_code 71) 7 = .ok (.getfield 7, 3) := by decide +kernel
theorem r71_7 {X : sm_X} {w : sm_W} {Q : Option Value → sm_W → Prop} {x0 : Nat} {x1 : Int32} {s0 : Nat} : sm_R X 71 7 [.ref x0, .int x1, sm_J, sm_J] [.ref s0] w Q ↔ sm_wp (sm_fld 7 0 (sm_at w s0)) (fun v => sm_R X 71 10 [.ref x0, .int x1, sm_J, sm_J] [v] w Q) := sm_q_getf d71_7 rfl (by decide)
theorem d71_10 : decode (sm_code 71) 10 = .ok (.aload_n 0, 1) := by decide +kernel
theorem r71_10 {X : sm_X} {w : sm_W} {Q : Option Value → sm_W → Prop} {x0 : Nat} {x1 : Int32} {s0 : Nat} : sm_R X 71 10 [.ref x0, .int x1, sm_J, sm_J] [.ref s0] w Q ↔ sm_R X 71 11 [.ref x0, .int x1, sm_J, sm_J] [.ref x0, .ref s0] w Q := sm_R_go d71_10 rfl
theorem d71_11 : decode (sm_code 71) 11 = .ok (.getfield 33, 3) := by decide +kernel
theorem r71_11 {X : sm_X} {w : sm_W} {Q : Option Value → sm_W → Prop} {x0 : Nat} {x1 : Int32} {s0 : Nat} {s1 : Nat} : sm_R X 71 11 [.ref x0, .int x1, sm_J, sm_J] [.ref s0, .ref s1] w Q ↔ sm_wp (sm_fld 7 7 (sm_at w s0)) (fun v => sm_R X 71 14 [.ref x0, .int x1, sm_J, sm_J] [v, .ref s1] w Q) := sm_q_getf d71_11 rfl (by decide)
theorem d71_14 : decode (sm_code 71) 14 = .ok (.iload_n 1, 1) := by decide +kernel
theorem r71_14 {X : sm_X} {w : sm_W} {Q : Option Value → sm_W → Prop} {x0 : Nat} {x1 : Int32} {s0 : Nat} {s1 : Nat} : sm_R X 71 14 [.ref x0, .int x1, sm_J, sm_J] [.ref s0, .ref s1] w Q ↔ sm_R X 71 15 [.ref x0, .int x1, sm_J, sm_J] [.int x1, .ref s0, .ref s1] w Q := sm_R_go d71_14 rfl
theorem d71_15 : decode (sm_code 71) 15 = .ok (.iaload, 1) := by decide +kernel
theorem r71_15 {X : sm_X} {w : sm_W} {Q : Option Value → sm_W → Prop} {x0 : Nat} {x1 : Int32} {s0 : Int32} {s1 : Nat} {s2 : Nat} : sm_R X 71 15 [.ref x0, .int x1, sm_J, sm_J] [.int s0, .ref s1, .ref s2] w Q ↔ sm_wp (sm_ai s0 (sm_get X w s1)) (fun v => sm_R X 71 16 [.ref x0, .int x1, sm_J, sm_J] [.int v, .ref s2] w Q) := sm_q_iald d71_15
theorem d71_16 : decode (sm_code 71) 16 = .ok (.laload, 1) := by decide +kernel
theorem r71_16 {X : sm_X} {w : sm_W} {Q : Option Value → sm_W → Prop} {x0 : Nat} {x1 : Int32} {s0 : Int32} {s1 : Nat} : sm_R X 71 16 [.ref x0, .int x1, sm_J, sm_J] [.int s0, .ref s1] w Q ↔ sm_wp (sm_al s0 (sm_at w s1)) (fun v => sm_R X 71 17 [.ref x0, .int x1, sm_J, sm_J] [.long v] w Q) := sm_q_lald d71_16
theorem d71_17 : decode (sm_code 71) 17 = .ok (.lconst 1, 1) := by decide +kernel
theorem r71_17 {X : sm_X} {w : sm_W} {Q : Option Value → sm_W → Prop} {x0 : Nat} {x1 : Int32} {s0 : Int64} : sm_R X 71 17 [.ref x0, .int x1, sm_J, sm_J] [.long s0] w Q ↔ sm_R X 71 18 [.ref x0, .int x1, sm_J, sm_J] [.long 1, .long s0] w Q := sm_R_go d71_17 rfl
theorem d71_18 : decode (sm_code 71) 18 = .ok (.lcmp, 1) := by decide +kernel
theorem r71_18 {X : sm_X} {w : sm_W} {Q : Option Value → sm_W → Prop} {x0 : Nat} {x1 : Int32} {s0 : Int64} {s1 : Int64} : sm_R X 71 18 [.ref x0, .int x1, sm_J, sm_J] [.long s0, .long s1] w Q ↔ sm_R X 71 19 [.ref x0, .int x1, sm_J, sm_J] [.int (lg_cmp s1 s0)] w Q := sm_R_go d71_18 rfl
theorem d71_19 : decode (sm_code 71) 19 = .ok (.ifCond .ge 6, 3) := by decide +kernel
theorem r71_19 {X : sm_X} {w : sm_W} {Q : Option Value → sm_W → Prop} {x0 : Nat} {x1 : Int32} {s0 : Int32} : sm_R X 71 19 [.ref x0, .int x1, sm_J, sm_J] [.int s0] w Q ↔ (if 0 ≤ s0 then sm_R X 71 25 [.ref x0, .int x1, sm_J, sm_J] [] w Q else sm_R X 71 22 [.ref x0, .int x1, sm_J, sm_J] [] w Q) := sm_q_br d71_19 rfl
theorem d71_22 : decode (sm_code 71) 22 = .ok (.bipush 6, 2) := by decide +kernel
theorem r71_22 {X : sm_X} {w : sm_W} {Q : Option Value → sm_W → Prop} {x0 : Nat} {x1 : Int32} : sm_R X 71 22 [.ref x0, .int x1, sm_J, sm_J] [] w Q ↔ sm_R X 71 24 [.ref x0, .int x1, sm_J, sm_J] [.int 6] w Q := sm_R_go d71_22 rfl
theorem d71_24 : decode (sm_code 71) 24 = .ok (.ireturn, 1) := by decide +kernel
theorem r71_24 {X : sm_X} {w : sm_W} {Q : Option Value → sm_W → Prop} {x0 : Nat} {x1 : Int32} {s0 : Int32} : sm_R X 71 24 [.ref x0, .int x1, sm_J, sm_J] [.int s0] w Q ↔ Q (some (.int s0)) w := sm_q_iret d71_24 rfl
theorem d71_25 : decode (sm_code 71) 25 = .ok (.aload_n 0, 1) := by decide +kernel
theorem r71_25 {X : sm_X} {w : sm_W} {Q : Option Value → sm_W → Prop} {x0 : Nat} {x1 : Int32} : sm_R X 71 25 [.ref x0, .int x1, sm_J, sm_J] [] w Q ↔ sm_R X 71 26 [.ref x0, .int x1, sm_J, sm_J] [.ref x0] w Q := sm_R_go d71_25 rfl
theorem d71_26 : decode (sm_code 71) 26 = .ok (.getfield 7, 3) := by decide +kernel
theorem r71_26 {X : sm_X} {w : sm_W} {Q : Option Value → sm_W → Prop} {x0 : Nat} {x1 : Int32} {s0 : Nat} : sm_R X 71 26 [.ref x0, .int x1, sm_J, sm_J] [.ref s0] w Q ↔ sm_wp (sm_fld 7 0 (sm_at w s0)) (fun v => sm_R X 71 29 [.ref x0, .int x1, sm_J, sm_J] [v] w Q) := sm_q_getf d71_26 rfl (by decide)
theorem d71_29 : decode (sm_code 71) 29 = .ok (.aload_n 0, 1) := by decide +kernel
theorem r71_29 {X : sm_X} {w : sm_W} {Q : Option Value → sm_W → Prop} {x0 : Nat} {x1 : Int32} {s0 : Nat} : sm_R X 71 29 [.ref x0, .int x1, sm_J, sm_J] [.ref s0] w Q ↔ sm_R X 71 30 [.ref x0, .int x1, sm_J, sm_J] [.ref x0, .ref s0] w Q := sm_R_go d71_29 rfl
theorem d71_30 : decode (sm_code 71) 30 = .ok (.getfield 33, 3) := by decide +kernel
theorem r71_30 {X : sm_X} {w : sm_W} {Q : Option Value → sm_W → Prop} {x0 : Nat} {x1 : Int32} {s0 : Nat} {s1 : Nat} : sm_R X 71 30 [.ref x0, .int x1, sm_J, sm_J] [.ref s0, .ref s1] w Q ↔ sm_wp (sm_fld 7 7 (sm_at w s0)) (fun v => sm_R X 71 33 [.ref x0, .int x1, sm_J, sm_J] [v, .ref s1] w Q) := sm_q_getf d71_30 rfl (by decide)
theorem d71_33 : decode (sm_code 71) 33 = .ok (.iload_n 1, 1) := by decide +kernel
theorem r71_33 {X : sm_X} {w : sm_W} {Q : Option Value → sm_W → Prop} {x0 : Nat} {x1 : Int32} {s0 : Nat} {s1 : Nat} : sm_R X 71 33 [.ref x0, .int x1, sm_J, sm_J] [.ref s0, .ref s1] w Q ↔ sm_R X 71 34 [.ref x0, .int x1, sm_J, sm_J] [.int x1, .ref s0, .ref s1] w Q := sm_R_go d71_33 rfl
theorem d71_34 : decode (sm_code 71) 34 = .ok (.iaload, 1) := by decide +kernel
theorem r71_34 {X : sm_X} {w : sm_W} {Q : Option Value → sm_W → Prop} {x0 : Nat} {x1 : Int32} {s0 : Int32} {s1 : Nat} {s2 : Nat} : sm_R X 71 34 [.ref x0, .int x1, sm_J, sm_J] [.int s0, .ref s1, .ref s2] w Q ↔ sm_wp (sm_ai s0 (sm_get X w s1)) (fun v => sm_R X 71 35 [.ref x0, .int x1, sm_J, sm_J] [.int v, .ref s2] w Q) := sm_q_iald d71_34
theorem d71_35 : decode (sm_code 71) 35 = .ok (.dup2, 1) := by decide +kernel
theorem r71_35 {X : sm_X} {w : sm_W} {Q : Option Value → sm_W → Prop} {x0 : Nat} {x1 : Int32} {s0 : Int32} {s1 : Nat} : sm_R X 71 35 [.ref x0, .int x1, sm_J, sm_J] [.int s0, .ref s1] w Q ↔ sm_R X 71 36 [.ref x0, .int x1, sm_J, sm_J] [.int s0, .ref s1, .int s0, .ref s1] w Q := sm_R_go d71_35 rfl
theorem d71_36 : decode (sm_code 71) 36 = .ok (.laload, 1) := by decide +kernel
theorem r71_36 {X : sm_X} {w : sm_W} {Q : Option Value → sm_W → Prop} {x0 : Nat} {x1 : Int32} {s0 : Int32} {s1 : Nat} {s2 : Int32} {s3 : Nat} : sm_R X 71 36 [.ref x0, .int x1, sm_J, sm_J] [.int s0, .ref s1, .int s2, .ref s3] w Q ↔ sm_wp (sm_al s0 (sm_at w s1)) (fun v => sm_R X 71 37 [.ref x0, .int x1, sm_J, sm_J] [.long v, .int s2, .ref s3] w Q) := sm_q_lald d71_36
theorem d71_37 : decode (sm_code 71) 37 = .ok (.lconst 1, 1) := by decide +kernel
theorem r71_37 {X : sm_X} {w : sm_W} {Q : Option Value → sm_W → Prop} {x0 : Nat} {x1 : Int32} {s0 : Int64} {s1 : Int32} {s2 : Nat} : sm_R X 71 37 [.ref x0, .int x1, sm_J, sm_J] [.long s0, .int s1, .ref s2] w Q ↔ sm_R X 71 38 [.ref x0, .int x1, sm_J, sm_J] [.long 1, .long s0, .int s1, .ref s2] w Q := sm_R_go d71_37 rfl
theorem d71_38 : decode (sm_code 71) 38 = .ok (.lsub, 1) := by decide +kernel
theorem r71_38 {X : sm_X} {w : sm_W} {Q : Option Value → sm_W → Prop} {x0 : Nat} {x1 : Int32} {s0 : Int64} {s1 : Int64} {s2 : Int32} {s3 : Nat} : sm_R X 71 38 [.ref x0, .int x1, sm_J, sm_J] [.long s0, .long s1, .int s2, .ref s3] w Q ↔ sm_R X 71 39 [.ref x0, .int x1, sm_J, sm_J] [.long (s1 - s0), .int s2, .ref s3] w Q := sm_R_go d71_38 rfl
theorem d71_39 : decode (sm_code 71) 39 = .ok (.lastore, 1) := by decide +kernel
theorem r71_39 {X : sm_X} {w : sm_W} {Q : Option Value → sm_W → Prop} {x0 : Nat} {x1 : Int32} {s0 : Int64} {s1 : Int32} {s2 : Nat} : sm_R X 71 39 [.ref x0, .int x1, sm_J, sm_J] [.long s0, .int s1, .ref s2] w Q ↔ sm_wp (sm_slg s1 s0 (sm_at w s2)) (fun c => sm_R X 71 40 [.ref x0, .int x1, sm_J, sm_J] [] (w.set (s2 - 100) c) Q) := sm_q_last d71_39
theorem d71_40 : decode (sm_code 71) 40 = .ok (.aload_n 0, 1) := by decide +kernel
theorem r71_40 {X : sm_X} {w : sm_W} {Q : Option Value → sm_W → Prop} {x0 : Nat} {x1 : Int32} : sm_R X 71 40 [.ref x0, .int x1, sm_J, sm_J] [] w Q ↔ sm_R X 71 41 [.ref x0, .int x1, sm_J, sm_J] [.ref x0] w Q := sm_R_go d71_40 rfl
theorem d71_41 : decode (sm_code 71) 41 = .ok (.getfield 30, 3) := by decide +kernel
theorem r71_41 {X : sm_X} {w : sm_W} {Q : Option Value → sm_W → Prop} {x0 : Nat} {x1 : Int32} {s0 : Nat} : sm_R X 71 41 [.ref x0, .int x1, sm_J, sm_J] [.ref s0] w Q ↔ sm_wp (sm_fld 7 6 (sm_at w s0)) (fun v => sm_R X 71 44 [.ref x0, .int x1, sm_J, sm_J] [v] w Q) := sm_q_getf d71_41 rfl (by decide)
theorem d71_44 : decode (sm_code 71) 44 = .ok (.iload_n 1, 1) := by decide +kernel
theorem r71_44 {X : sm_X} {w : sm_W} {Q : Option Value → sm_W → Prop} {x0 : Nat} {x1 : Int32} {s0 : Nat} : sm_R X 71 44 [.ref x0, .int x1, sm_J, sm_J] [.ref s0] w Q ↔ sm_R X 71 45 [.ref x0, .int x1, sm_J, sm_J] [.int x1, .ref s0] w Q := sm_R_go d71_44 rfl
theorem d71_45 : decode (sm_code 71) 45 = .ok (.iaload, 1) := by decide +kernel
theorem r71_45 {X : sm_X} {w : sm_W} {Q : Option Value → sm_W → Prop} {x0 : Nat} {x1 : Int32} {s0 : Int32} {s1 : Nat} : sm_R X 71 45 [.ref x0, .int x1, sm_J, sm_J] [.int s0, .ref s1] w Q ↔ sm_wp (sm_ai s0 (sm_get X w s1)) (fun v => sm_R X 71 46 [.ref x0, .int x1, sm_J, sm_J] [.int v] w Q) := sm_q_iald d71_45
theorem d71_46 : decode (sm_code 71) 46 = .ok (.ifCond .ge 11, 3) := by decide +kernel
theorem r71_46 {X : sm_X} {w : sm_W} {Q : Option Value → sm_W → Prop} {x0 : Nat} {x1 : Int32} {s0 : Int32} : sm_R X 71 46 [.ref x0, .int x1, sm_J, sm_J] [.int s0] w Q ↔ (if 0 ≤ s0 then sm_R X 71 57 [.ref x0, .int x1, sm_J, sm_J] [] w Q else sm_R X 71 49 [.ref x0, .int x1, sm_J, sm_J] [] w Q) := sm_q_br d71_46 rfl
theorem d71_49 : decode (sm_code 71) 49 = .ok (.aload_n 0, 1) := by decide +kernel
theorem r71_49 {X : sm_X} {w : sm_W} {Q : Option Value → sm_W → Prop} {x0 : Nat} {x1 : Int32} : sm_R X 71 49 [.ref x0, .int x1, sm_J, sm_J] [] w Q ↔ sm_R X 71 50 [.ref x0, .int x1, sm_J, sm_J] [.ref x0] w Q := sm_R_go d71_49 rfl
theorem d71_50 : decode (sm_code 71) 50 = .ok (.iload_n 1, 1) := by decide +kernel
theorem r71_50 {X : sm_X} {w : sm_W} {Q : Option Value → sm_W → Prop} {x0 : Nat} {x1 : Int32} {s0 : Nat} : sm_R X 71 50 [.ref x0, .int x1, sm_J, sm_J] [.ref s0] w Q ↔ sm_R X 71 51 [.ref x0, .int x1, sm_J, sm_J] [.int x1, .ref s0] w Q := sm_R_go d71_50 rfl
theorem d71_51 : decode (sm_code 71) 51 = .ok (.invokevirtual 147, 3) := by decide +kernel
theorem r71_51 {X : sm_X} {w : sm_W} {Q : Option Value → sm_W → Prop} {x0 : Nat} {x1 : Int32} {s0 : Int32} {s1 : Nat} : sm_R X 71 51 [.ref x0, .int x1, sm_J, sm_J] [.int s0, .ref s1] w Q ↔ (sm_cN (sm_at w s1) = some 7 ∧ sm_R X 72 0 [.ref s1, .int s0] [] w (fun v w => sm_R X 71 54 [.ref x0, .int x1, sm_J, sm_J] (v.toList ++ []) w Q)) := sm_q_vir (k := 72) (as := [.ref s1, .int s0]) (rest := []) d71_51 rfl rfl rfl rfl rfl
theorem d71_54 : decode (sm_code 71) 54 = .ok (.goto 8, 3) := by decide +kernel
theorem r71_54 {X : sm_X} {w : sm_W} {Q : Option Value → sm_W → Prop} {x0 : Nat} {x1 : Int32} {s0 : Int32} : sm_R X 71 54 [.ref x0, .int x1, sm_J, sm_J] [.int s0] w Q ↔ sm_R X 71 62 [.ref x0, .int x1, sm_J, sm_J] [.int s0] w Q := sm_R_go d71_54 rfl
theorem d71_57 : decode (sm_code 71) 57 = .ok (.aload_n 0, 1) := by decide +kernel
theorem r71_57 {X : sm_X} {w : sm_W} {Q : Option Value → sm_W → Prop} {x0 : Nat} {x1 : Int32} : sm_R X 71 57 [.ref x0, .int x1, sm_J, sm_J] [] w Q ↔ sm_R X 71 58 [.ref x0, .int x1, sm_J, sm_J] [.ref x0] w Q := sm_R_go d71_57 rfl
theorem d71_58 : decode (sm_code 71) 58 = .ok (.iload_n 1, 1) := by decide +kernel
theorem r71_58 {X : sm_X} {w : sm_W} {Q : Option Value → sm_W → Prop} {x0 : Nat} {x1 : Int32} {s0 : Nat} : sm_R X 71 58 [.ref x0, .int x1, sm_J, sm_J] [.ref s0] w Q ↔ sm_R X 71 59 [.ref x0, .int x1, sm_J, sm_J] [.int x1, .ref s0] w Q := sm_R_go d71_58 rfl
theorem d71_59 : decode (sm_code 71) 59 = .ok (.invokevirtual 150, 3) := by decide +kernel
theorem r71_59 {X : sm_X} {w : sm_W} {Q : Option Value → sm_W → Prop} {x0 : Nat} {x1 : Int32} {s0 : Int32} {s1 : Nat} : sm_R X 71 59 [.ref x0, .int x1, sm_J, sm_J] [.int s0, .ref s1] w Q ↔ (sm_cN (sm_at w s1) = some 7 ∧ sm_R X 73 0 [.ref s1, .int s0, sm_J, sm_J] [] w (fun v w => sm_R X 71 62 [.ref x0, .int x1, sm_J, sm_J] (v.toList ++ []) w Q)) := sm_q_vir (k := 73) (as := [.ref s1, .int s0]) (rest := []) d71_59 rfl rfl rfl rfl rfl
theorem d71_62 : decode (sm_code 71) 62 = .ok (.istore_n 2, 1) := by decide +kernel
theorem r71_62 {X : sm_X} {w : sm_W} {Q : Option Value → sm_W → Prop} {x0 : Nat} {x1 : Int32} {s0 : Int32} : sm_R X 71 62 [.ref x0, .int x1, sm_J, sm_J] [.int s0] w Q ↔ sm_R X 71 63 [.ref x0, .int x1, .int s0, sm_J] [] w Q := sm_R_go d71_62 rfl
theorem d71_63 : decode (sm_code 71) 63 = .ok (.iload_n 2, 1) := by decide +kernel
theorem r71_63 {X : sm_X} {w : sm_W} {Q : Option Value → sm_W → Prop} {x0 : Nat} {x1 : Int32} {x2 : Int32} : sm_R X 71 63 [.ref x0, .int x1, .int x2, sm_J] [] w Q ↔ sm_R X 71 64 [.ref x0, .int x1, .int x2, sm_J] [.int x2] w Q := sm_R_go d71_63 rfl
theorem d71_64 : decode (sm_code 71) 64 = .ok (.ifCond .le 5, 3) := by decide +kernel
theorem r71_64 {X : sm_X} {w : sm_W} {Q : Option Value → sm_W → Prop} {x0 : Nat} {x1 : Int32} {x2 : Int32} {s0 : Int32} : sm_R X 71 64 [.ref x0, .int x1, .int x2, sm_J] [.int s0] w Q ↔ (if s0 ≤ 0 then sm_R X 71 69 [.ref x0, .int x1, .int x2, sm_J] [] w Q else sm_R X 71 67 [.ref x0, .int x1, .int x2, sm_J] [] w Q) := sm_q_br d71_64 rfl
theorem d71_67 : decode (sm_code 71) 67 = .ok (.iload_n 2, 1) := by decide +kernel
theorem r71_67 {X : sm_X} {w : sm_W} {Q : Option Value → sm_W → Prop} {x0 : Nat} {x1 : Int32} {x2 : Int32} : sm_R X 71 67 [.ref x0, .int x1, .int x2, sm_J] [] w Q ↔ sm_R X 71 68 [.ref x0, .int x1, .int x2, sm_J] [.int x2] w Q := sm_R_go d71_67 rfl
theorem d71_68 : decode (sm_code 71) 68 = .ok (.ireturn, 1) := by decide +kernel
theorem r71_68 {X : sm_X} {w : sm_W} {Q : Option Value → sm_W → Prop} {x0 : Nat} {x1 : Int32} {x2 : Int32} {s0 : Int32} : sm_R X 71 68 [.ref x0, .int x1, .int x2, sm_J] [.int s0] w Q ↔ Q (some (.int s0)) w := sm_q_iret d71_68 rfl
theorem d71_69 : decode (sm_code 71) 69 = .ok (.aload_n 0, 1) := by decide +kernel
theorem r71_69 {X : sm_X} {w : sm_W} {Q : Option Value → sm_W → Prop} {x0 : Nat} {x1 : Int32} {x2 : Int32} : sm_R X 71 69 [.ref x0, .int x1, .int x2, sm_J] [] w Q ↔ sm_R X 71 70 [.ref x0, .int x1, .int x2, sm_J] [.ref x0] w Q := sm_R_go d71_69 rfl
theorem d71_70 : decode (sm_code 71) 70 = .ok (.bipush (-3), 2) := by decide +kernel
theorem r71_70 {X : sm_X} {w : sm_W} {Q : Option Value → sm_W → Prop} {x0 : Nat} {x1 : Int32} {x2 : Int32} {s0 : Nat} : sm_R X 71 70 [.ref x0, .int x1, .int x2, sm_J] [.ref s0] w Q ↔ sm_R X 71 72 [.ref x0, .int x1, .int x2, sm_J] [.int (-3), .ref s0] w Q := sm_R_go d71_70 rfl
theorem d71_72 : decode (sm_code 71) 72 = .ok (.putfield 51, 3) := by decide +kernel
theorem r71_72 {X : sm_X} {w : sm_W} {Q : Option Value → sm_W → Prop} {x0 : Nat} {x1 : Int32} {x2 : Int32} {s0 : Int32} {s1 : Nat} : sm_R X 71 72 [.ref x0, .int x1, .int x2, sm_J] [.int s0, .ref s1] w Q ↔ sm_wp (sm_pfl 7 13 (.int s0) (sm_at w s1)) (fun c => sm_R X 71 75 [.ref x0, .int x1, .int x2, sm_J] [] (w.set (s1 - 100) c) Q) := sm_q_putf d71_72 rfl rfl rfl (by decide)
theorem d71_75 : decode (sm_code 71) 75 = .ok (.aload_n 0, 1) := by decide +kernel
theorem r71_75 {X : sm_X} {w : sm_W} {Q : Option Value → sm_W → Prop} {x0 : Nat} {x1 : Int32} {x2 : Int32} : sm_R X 71 75 [.ref x0, .int x1, .int x2, sm_J] [] w Q ↔ sm_R X 71 76 [.ref x0, .int x1, .int x2, sm_J] [.ref x0] w Q := sm_R_go d71_75 rfl
theorem d71_76 : decode (sm_code 71) 76 = .ok (.getfield 7, 3) := by decide +kernel
theorem r71_76 {X : sm_X} {w : sm_W} {Q : Option Value → sm_W → Prop} {x0 : Nat} {x1 : Int32} {x2 : Int32} {s0 : Nat} : sm_R X 71 76 [.ref x0, .int x1, .int x2, sm_J] [.ref s0] w Q ↔ sm_wp (sm_fld 7 0 (sm_at w s0)) (fun v => sm_R X 71 79 [.ref x0, .int x1, .int x2, sm_J] [v] w Q) := sm_q_getf d71_76 rfl (by decide)
theorem d71_79 : decode (sm_code 71) 79 = .ok (.aload_n 0, 1) := by decide +kernel
theorem r71_79 {X : sm_X} {w : sm_W} {Q : Option Value → sm_W → Prop} {x0 : Nat} {x1 : Int32} {x2 : Int32} {s0 : Nat} : sm_R X 71 79 [.ref x0, .int x1, .int x2, sm_J] [.ref s0] w Q ↔ sm_R X 71 80 [.ref x0, .int x1, .int x2, sm_J] [.ref x0, .ref s0] w Q := sm_R_go d71_79 rfl
theorem d71_80 : decode (sm_code 71) 80 = .ok (.getfield 33, 3) := by decide +kernel
theorem r71_80 {X : sm_X} {w : sm_W} {Q : Option Value → sm_W → Prop} {x0 : Nat} {x1 : Int32} {x2 : Int32} {s0 : Nat} {s1 : Nat} : sm_R X 71 80 [.ref x0, .int x1, .int x2, sm_J] [.ref s0, .ref s1] w Q ↔ sm_wp (sm_fld 7 7 (sm_at w s0)) (fun v => sm_R X 71 83 [.ref x0, .int x1, .int x2, sm_J] [v, .ref s1] w Q) := sm_q_getf d71_80 rfl (by decide)
theorem d71_83 : decode (sm_code 71) 83 = .ok (.iload_n 1, 1) := by decide +kernel
theorem r71_83 {X : sm_X} {w : sm_W} {Q : Option Value → sm_W → Prop} {x0 : Nat} {x1 : Int32} {x2 : Int32} {s0 : Nat} {s1 : Nat} : sm_R X 71 83 [.ref x0, .int x1, .int x2, sm_J] [.ref s0, .ref s1] w Q ↔ sm_R X 71 84 [.ref x0, .int x1, .int x2, sm_J] [.int x1, .ref s0, .ref s1] w Q := sm_R_go d71_83 rfl
theorem d71_84 : decode (sm_code 71) 84 = .ok (.iaload, 1) := by decide +kernel
theorem r71_84 {X : sm_X} {w : sm_W} {Q : Option Value → sm_W → Prop} {x0 : Nat} {x1 : Int32} {x2 : Int32} {s0 : Int32} {s1 : Nat} {s2 : Nat} : sm_R X 71 84 [.ref x0, .int x1, .int x2, sm_J] [.int s0, .ref s1, .ref s2] w Q ↔ sm_wp (sm_ai s0 (sm_get X w s1)) (fun v => sm_R X 71 85 [.ref x0, .int x1, .int x2, sm_J] [.int v, .ref s2] w Q) := sm_q_iald d71_84
theorem d71_85 : decode (sm_code 71) 85 = .ok (.laload, 1) := by decide +kernel
theorem r71_85 {X : sm_X} {w : sm_W} {Q : Option Value → sm_W → Prop} {x0 : Nat} {x1 : Int32} {x2 : Int32} {s0 : Int32} {s1 : Nat} : sm_R X 71 85 [.ref x0, .int x1, .int x2, sm_J] [.int s0, .ref s1] w Q ↔ sm_wp (sm_al s0 (sm_at w s1)) (fun v => sm_R X 71 86 [.ref x0, .int x1, .int x2, sm_J] [.long v] w Q) := sm_q_lald d71_85
theorem d71_86 : decode (sm_code 71) 86 = .ok (.aload_n 0, 1) := by decide +kernel
theorem r71_86 {X : sm_X} {w : sm_W} {Q : Option Value → sm_W → Prop} {x0 : Nat} {x1 : Int32} {x2 : Int32} {s0 : Int64} : sm_R X 71 86 [.ref x0, .int x1, .int x2, sm_J] [.long s0] w Q ↔ sm_R X 71 87 [.ref x0, .int x1, .int x2, sm_J] [.ref x0, .long s0] w Q := sm_R_go d71_86 rfl
theorem d71_87 : decode (sm_code 71) 87 = .ok (.aload_n 0, 1) := by decide +kernel
theorem r71_87 {X : sm_X} {w : sm_W} {Q : Option Value → sm_W → Prop} {x0 : Nat} {x1 : Int32} {x2 : Int32} {s0 : Nat} {s1 : Int64} : sm_R X 71 87 [.ref x0, .int x1, .int x2, sm_J] [.ref s0, .long s1] w Q ↔ sm_R X 71 88 [.ref x0, .int x1, .int x2, sm_J] [.ref x0, .ref s0, .long s1] w Q := sm_R_go d71_87 rfl
theorem d71_88 : decode (sm_code 71) 88 = .ok (.getfield 33, 3) := by decide +kernel
theorem r71_88 {X : sm_X} {w : sm_W} {Q : Option Value → sm_W → Prop} {x0 : Nat} {x1 : Int32} {x2 : Int32} {s0 : Nat} {s1 : Nat} {s2 : Int64} : sm_R X 71 88 [.ref x0, .int x1, .int x2, sm_J] [.ref s0, .ref s1, .long s2] w Q ↔ sm_wp (sm_fld 7 7 (sm_at w s0)) (fun v => sm_R X 71 91 [.ref x0, .int x1, .int x2, sm_J] [v, .ref s1, .long s2] w Q) := sm_q_getf d71_88 rfl (by decide)
theorem d71_91 : decode (sm_code 71) 91 = .ok (.iload_n 1, 1) := by decide +kernel
theorem r71_91 {X : sm_X} {w : sm_W} {Q : Option Value → sm_W → Prop} {x0 : Nat} {x1 : Int32} {x2 : Int32} {s0 : Nat} {s1 : Nat} {s2 : Int64} : sm_R X 71 91 [.ref x0, .int x1, .int x2, sm_J] [.ref s0, .ref s1, .long s2] w Q ↔ sm_R X 71 92 [.ref x0, .int x1, .int x2, sm_J] [.int x1, .ref s0, .ref s1, .long s2] w Q := sm_R_go d71_91 rfl
theorem d71_92 : decode (sm_code 71) 92 = .ok (.iaload, 1) := by decide +kernel
theorem r71_92 {X : sm_X} {w : sm_W} {Q : Option Value → sm_W → Prop} {x0 : Nat} {x1 : Int32} {x2 : Int32} {s0 : Int32} {s1 : Nat} {s2 : Nat} {s3 : Int64} : sm_R X 71 92 [.ref x0, .int x1, .int x2, sm_J] [.int s0, .ref s1, .ref s2, .long s3] w Q ↔ sm_wp (sm_ai s0 (sm_get X w s1)) (fun v => sm_R X 71 93 [.ref x0, .int x1, .int x2, sm_J] [.int v, .ref s2, .long s3] w Q) := sm_q_iald d71_92
theorem d71_93 : decode (sm_code 71) 93 = .ok (.invokevirtual 153, 3) := by decide +kernel
theorem r71_93 {X : sm_X} {w : sm_W} {Q : Option Value → sm_W → Prop} {x0 : Nat} {x1 : Int32} {x2 : Int32} {s0 : Int32} {s1 : Nat} {s2 : Int64} : sm_R X 71 93 [.ref x0, .int x1, .int x2, sm_J] [.int s0, .ref s1, .long s2] w Q ↔ (sm_cN (sm_at w s1) = some 7 ∧ sm_R X 84 0 [.ref s1, .int s0, sm_J] [] w (fun v w => sm_R X 71 96 [.ref x0, .int x1, .int x2, sm_J] (v.toList ++ [.long s2]) w Q)) := sm_q_vir (k := 84) (as := [.ref s1, .int s0]) (rest := [.long s2]) d71_93 rfl rfl rfl rfl rfl
theorem d71_96 : decode (sm_code 71) 96 = .ok (.lcmp, 1) := by decide +kernel
theorem r71_96 {X : sm_X} {w : sm_W} {Q : Option Value → sm_W → Prop} {x0 : Nat} {x1 : Int32} {x2 : Int32} {s0 : Int64} {s1 : Int64} : sm_R X 71 96 [.ref x0, .int x1, .int x2, sm_J] [.long s0, .long s1] w Q ↔ sm_R X 71 97 [.ref x0, .int x1, .int x2, sm_J] [.int (lg_cmp s1 s0)] w Q := sm_R_go d71_96 rfl
theorem d71_97 : decode (sm_code 71) 97 = .ok (.ifCond .lt 37, 3) := by decide +kernel
theorem r71_97 {X : sm_X} {w : sm_W} {Q : Option Value → sm_W → Prop} {x0 : Nat} {x1 : Int32} {x2 : Int32} {s0 : Int32} : sm_R X 71 97 [.ref x0, .int x1, .int x2, sm_J] [.int s0] w Q ↔ (if s0 < 0 then sm_R X 71 134 [.ref x0, .int x1, .int x2, sm_J] [] w Q else sm_R X 71 100 [.ref x0, .int x1, .int x2, sm_J] [] w Q) := sm_q_br d71_97 rfl
theorem d71_100 : decode (sm_code 71) 100 = .ok (.aload_n 0, 1) := by decide +kernel
theorem r71_100 {X : sm_X} {w : sm_W} {Q : Option Value → sm_W → Prop} {x0 : Nat} {x1 : Int32} {x2 : Int32} : sm_R X 71 100 [.ref x0, .int x1, .int x2, sm_J] [] w Q ↔ sm_R X 71 101 [.ref x0, .int x1, .int x2, sm_J] [.ref x0] w Q := sm_R_go d71_100 rfl
theorem d71_101 : decode (sm_code 71) 101 = .ok (.getfield 30, 3) := by decide +kernel
theorem r71_101 {X : sm_X} {w : sm_W} {Q : Option Value → sm_W → Prop} {x0 : Nat} {x1 : Int32} {x2 : Int32} {s0 : Nat} : sm_R X 71 101 [.ref x0, .int x1, .int x2, sm_J] [.ref s0] w Q ↔ sm_wp (sm_fld 7 6 (sm_at w s0)) (fun v => sm_R X 71 104 [.ref x0, .int x1, .int x2, sm_J] [v] w Q) := sm_q_getf d71_101 rfl (by decide)
theorem d71_104 : decode (sm_code 71) 104 = .ok (.iload_n 1, 1) := by decide +kernel
theorem r71_104 {X : sm_X} {w : sm_W} {Q : Option Value → sm_W → Prop} {x0 : Nat} {x1 : Int32} {x2 : Int32} {s0 : Nat} : sm_R X 71 104 [.ref x0, .int x1, .int x2, sm_J] [.ref s0] w Q ↔ sm_R X 71 105 [.ref x0, .int x1, .int x2, sm_J] [.int x1, .ref s0] w Q := sm_R_go d71_104 rfl
theorem d71_105 : decode (sm_code 71) 105 = .ok (.iaload, 1) := by decide +kernel
theorem r71_105 {X : sm_X} {w : sm_W} {Q : Option Value → sm_W → Prop} {x0 : Nat} {x1 : Int32} {x2 : Int32} {s0 : Int32} {s1 : Nat} : sm_R X 71 105 [.ref x0, .int x1, .int x2, sm_J] [.int s0, .ref s1] w Q ↔ sm_wp (sm_ai s0 (sm_get X w s1)) (fun v => sm_R X 71 106 [.ref x0, .int x1, .int x2, sm_J] [.int v] w Q) := sm_q_iald d71_105
theorem d71_106 : decode (sm_code 71) 106 = .ok (.ifCond .ge 32, 3) := by decide +kernel
theorem r71_106 {X : sm_X} {w : sm_W} {Q : Option Value → sm_W → Prop} {x0 : Nat} {x1 : Int32} {x2 : Int32} {s0 : Int32} : sm_R X 71 106 [.ref x0, .int x1, .int x2, sm_J] [.int s0] w Q ↔ (if 0 ≤ s0 then sm_R X 71 138 [.ref x0, .int x1, .int x2, sm_J] [] w Q else sm_R X 71 109 [.ref x0, .int x1, .int x2, sm_J] [] w Q) := sm_q_br d71_106 rfl
theorem d71_109 : decode (sm_code 71) 109 = .ok (.aload_n 0, 1) := by decide +kernel
theorem r71_109 {X : sm_X} {w : sm_W} {Q : Option Value → sm_W → Prop} {x0 : Nat} {x1 : Int32} {x2 : Int32} : sm_R X 71 109 [.ref x0, .int x1, .int x2, sm_J] [] w Q ↔ sm_R X 71 110 [.ref x0, .int x1, .int x2, sm_J] [.ref x0] w Q := sm_R_go d71_109 rfl
theorem d71_110 : decode (sm_code 71) 110 = .ok (.getfield 7, 3) := by decide +kernel
theorem r71_110 {X : sm_X} {w : sm_W} {Q : Option Value → sm_W → Prop} {x0 : Nat} {x1 : Int32} {x2 : Int32} {s0 : Nat} : sm_R X 71 110 [.ref x0, .int x1, .int x2, sm_J] [.ref s0] w Q ↔ sm_wp (sm_fld 7 0 (sm_at w s0)) (fun v => sm_R X 71 113 [.ref x0, .int x1, .int x2, sm_J] [v] w Q) := sm_q_getf d71_110 rfl (by decide)
theorem d71_113 : decode (sm_code 71) 113 = .ok (.aload_n 0, 1) := by decide +kernel
theorem r71_113 {X : sm_X} {w : sm_W} {Q : Option Value → sm_W → Prop} {x0 : Nat} {x1 : Int32} {x2 : Int32} {s0 : Nat} : sm_R X 71 113 [.ref x0, .int x1, .int x2, sm_J] [.ref s0] w Q ↔ sm_R X 71 114 [.ref x0, .int x1, .int x2, sm_J] [.ref x0, .ref s0] w Q := sm_R_go d71_113 rfl
theorem d71_114 : decode (sm_code 71) 114 = .ok (.getfield 36, 3) := by decide +kernel
theorem r71_114 {X : sm_X} {w : sm_W} {Q : Option Value → sm_W → Prop} {x0 : Nat} {x1 : Int32} {x2 : Int32} {s0 : Nat} {s1 : Nat} : sm_R X 71 114 [.ref x0, .int x1, .int x2, sm_J] [.ref s0, .ref s1] w Q ↔ sm_wp (sm_fld 7 8 (sm_at w s0)) (fun v => sm_R X 71 117 [.ref x0, .int x1, .int x2, sm_J] [v, .ref s1] w Q) := sm_q_getf d71_114 rfl (by decide)
theorem d71_117 : decode (sm_code 71) 117 = .ok (.iload_n 1, 1) := by decide +kernel
theorem r71_117 {X : sm_X} {w : sm_W} {Q : Option Value → sm_W → Prop} {x0 : Nat} {x1 : Int32} {x2 : Int32} {s0 : Nat} {s1 : Nat} : sm_R X 71 117 [.ref x0, .int x1, .int x2, sm_J] [.ref s0, .ref s1] w Q ↔ sm_R X 71 118 [.ref x0, .int x1, .int x2, sm_J] [.int x1, .ref s0, .ref s1] w Q := sm_R_go d71_117 rfl
theorem d71_118 : decode (sm_code 71) 118 = .ok (.iaload, 1) := by decide +kernel
theorem r71_118 {X : sm_X} {w : sm_W} {Q : Option Value → sm_W → Prop} {x0 : Nat} {x1 : Int32} {x2 : Int32} {s0 : Int32} {s1 : Nat} {s2 : Nat} : sm_R X 71 118 [.ref x0, .int x1, .int x2, sm_J] [.int s0, .ref s1, .ref s2] w Q ↔ sm_wp (sm_ai s0 (sm_get X w s1)) (fun v => sm_R X 71 119 [.ref x0, .int x1, .int x2, sm_J] [.int v, .ref s2] w Q) := sm_q_iald d71_118
theorem d71_119 : decode (sm_code 71) 119 = .ok (.laload, 1) := by decide +kernel
theorem r71_119 {X : sm_X} {w : sm_W} {Q : Option Value → sm_W → Prop} {x0 : Nat} {x1 : Int32} {x2 : Int32} {s0 : Int32} {s1 : Nat} : sm_R X 71 119 [.ref x0, .int x1, .int x2, sm_J] [.int s0, .ref s1] w Q ↔ sm_wp (sm_al s0 (sm_at w s1)) (fun v => sm_R X 71 120 [.ref x0, .int x1, .int x2, sm_J] [.long v] w Q) := sm_q_lald d71_119
theorem d71_120 : decode (sm_code 71) 120 = .ok (.aload_n 0, 1) := by decide +kernel
theorem r71_120 {X : sm_X} {w : sm_W} {Q : Option Value → sm_W → Prop} {x0 : Nat} {x1 : Int32} {x2 : Int32} {s0 : Int64} : sm_R X 71 120 [.ref x0, .int x1, .int x2, sm_J] [.long s0] w Q ↔ sm_R X 71 121 [.ref x0, .int x1, .int x2, sm_J] [.ref x0, .long s0] w Q := sm_R_go d71_120 rfl
theorem d71_121 : decode (sm_code 71) 121 = .ok (.aload_n 0, 1) := by decide +kernel
theorem r71_121 {X : sm_X} {w : sm_W} {Q : Option Value → sm_W → Prop} {x0 : Nat} {x1 : Int32} {x2 : Int32} {s0 : Nat} {s1 : Int64} : sm_R X 71 121 [.ref x0, .int x1, .int x2, sm_J] [.ref s0, .long s1] w Q ↔ sm_R X 71 122 [.ref x0, .int x1, .int x2, sm_J] [.ref x0, .ref s0, .long s1] w Q := sm_R_go d71_121 rfl
theorem d71_122 : decode (sm_code 71) 122 = .ok (.getfield 36, 3) := by decide +kernel
theorem r71_122 {X : sm_X} {w : sm_W} {Q : Option Value → sm_W → Prop} {x0 : Nat} {x1 : Int32} {x2 : Int32} {s0 : Nat} {s1 : Nat} {s2 : Int64} : sm_R X 71 122 [.ref x0, .int x1, .int x2, sm_J] [.ref s0, .ref s1, .long s2] w Q ↔ sm_wp (sm_fld 7 8 (sm_at w s0)) (fun v => sm_R X 71 125 [.ref x0, .int x1, .int x2, sm_J] [v, .ref s1, .long s2] w Q) := sm_q_getf d71_122 rfl (by decide)
theorem d71_125 : decode (sm_code 71) 125 = .ok (.iload_n 1, 1) := by decide +kernel
theorem r71_125 {X : sm_X} {w : sm_W} {Q : Option Value → sm_W → Prop} {x0 : Nat} {x1 : Int32} {x2 : Int32} {s0 : Nat} {s1 : Nat} {s2 : Int64} : sm_R X 71 125 [.ref x0, .int x1, .int x2, sm_J] [.ref s0, .ref s1, .long s2] w Q ↔ sm_R X 71 126 [.ref x0, .int x1, .int x2, sm_J] [.int x1, .ref s0, .ref s1, .long s2] w Q := sm_R_go d71_125 rfl
theorem d71_126 : decode (sm_code 71) 126 = .ok (.iaload, 1) := by decide +kernel
theorem r71_126 {X : sm_X} {w : sm_W} {Q : Option Value → sm_W → Prop} {x0 : Nat} {x1 : Int32} {x2 : Int32} {s0 : Int32} {s1 : Nat} {s2 : Nat} {s3 : Int64} : sm_R X 71 126 [.ref x0, .int x1, .int x2, sm_J] [.int s0, .ref s1, .ref s2, .long s3] w Q ↔ sm_wp (sm_ai s0 (sm_get X w s1)) (fun v => sm_R X 71 127 [.ref x0, .int x1, .int x2, sm_J] [.int v, .ref s2, .long s3] w Q) := sm_q_iald d71_126
theorem d71_127 : decode (sm_code 71) 127 = .ok (.invokevirtual 153, 3) := by decide +kernel
theorem r71_127 {X : sm_X} {w : sm_W} {Q : Option Value → sm_W → Prop} {x0 : Nat} {x1 : Int32} {x2 : Int32} {s0 : Int32} {s1 : Nat} {s2 : Int64} : sm_R X 71 127 [.ref x0, .int x1, .int x2, sm_J] [.int s0, .ref s1, .long s2] w Q ↔ (sm_cN (sm_at w s1) = some 7 ∧ sm_R X 84 0 [.ref s1, .int s0, sm_J] [] w (fun v w => sm_R X 71 130 [.ref x0, .int x1, .int x2, sm_J] (v.toList ++ [.long s2]) w Q)) := sm_q_vir (k := 84) (as := [.ref s1, .int s0]) (rest := [.long s2]) d71_127 rfl rfl rfl rfl rfl
theorem d71_130 : decode (sm_code 71) 130 = .ok (.lcmp, 1) := by decide +kernel
theorem r71_130 {X : sm_X} {w : sm_W} {Q : Option Value → sm_W → Prop} {x0 : Nat} {x1 : Int32} {x2 : Int32} {s0 : Int64} {s1 : Int64} : sm_R X 71 130 [.ref x0, .int x1, .int x2, sm_J] [.long s0, .long s1] w Q ↔ sm_R X 71 131 [.ref x0, .int x1, .int x2, sm_J] [.int (lg_cmp s1 s0)] w Q := sm_R_go d71_130 rfl
theorem d71_131 : decode (sm_code 71) 131 = .ok (.ifCond .ge 7, 3) := by decide +kernel
theorem r71_131 {X : sm_X} {w : sm_W} {Q : Option Value → sm_W → Prop} {x0 : Nat} {x1 : Int32} {x2 : Int32} {s0 : Int32} : sm_R X 71 131 [.ref x0, .int x1, .int x2, sm_J] [.int s0] w Q ↔ (if 0 ≤ s0 then sm_R X 71 138 [.ref x0, .int x1, .int x2, sm_J] [] w Q else sm_R X 71 134 [.ref x0, .int x1, .int x2, sm_J] [] w Q) := sm_q_br d71_131 rfl
theorem d71_134 : decode (sm_code 71) 134 = .ok (.iconst 1, 1) := by decide +kernel
theorem r71_134 {X : sm_X} {w : sm_W} {Q : Option Value → sm_W → Prop} {x0 : Nat} {x1 : Int32} {x2 : Int32} : sm_R X 71 134 [.ref x0, .int x1, .int x2, sm_J] [] w Q ↔ sm_R X 71 135 [.ref x0, .int x1, .int x2, sm_J] [.int 1] w Q := sm_R_go d71_134 rfl
theorem d71_135 : decode (sm_code 71) 135 = .ok (.goto 4, 3) := by decide +kernel
theorem r71_135 {X : sm_X} {w : sm_W} {Q : Option Value → sm_W → Prop} {x0 : Nat} {x1 : Int32} {x2 : Int32} {s0 : Int32} : sm_R X 71 135 [.ref x0, .int x1, .int x2, sm_J] [.int s0] w Q ↔ sm_R X 71 139 [.ref x0, .int x1, .int x2, sm_J] [.int s0] w Q := sm_R_go d71_135 rfl
theorem d71_138 : decode (sm_code 71) 138 = .ok (.iconst 0, 1) := by decide +kernel
theorem r71_138 {X : sm_X} {w : sm_W} {Q : Option Value → sm_W → Prop} {x0 : Nat} {x1 : Int32} {x2 : Int32} : sm_R X 71 138 [.ref x0, .int x1, .int x2, sm_J] [] w Q ↔ sm_R X 71 139 [.ref x0, .int x1, .int x2, sm_J] [.int 0] w Q := sm_R_go d71_138 rfl
theorem d71_139 : decode (sm_code 71) 139 = .ok (.istore_n 3, 1) := by decide +kernel
theorem r71_139 {X : sm_X} {w : sm_W} {Q : Option Value → sm_W → Prop} {x0 : Nat} {x1 : Int32} {x2 : Int32} {s0 : Int32} : sm_R X 71 139 [.ref x0, .int x1, .int x2, sm_J] [.int s0] w Q ↔ sm_R X 71 140 [.ref x0, .int x1, .int x2, .int s0] [] w Q := sm_R_go d71_139 rfl
theorem d71_140 : decode (sm_code 71) 140 = .ok (.iload_n 3, 1) := by decide +kernel
theorem r71_140 {X : sm_X} {w : sm_W} {Q : Option Value → sm_W → Prop} {x0 : Nat} {x1 : Int32} {x2 : Int32} {x3 : Int32} : sm_R X 71 140 [.ref x0, .int x1, .int x2, .int x3] [] w Q ↔ sm_R X 71 141 [.ref x0, .int x1, .int x2, .int x3] [.int x3] w Q := sm_R_go d71_140 rfl
theorem d71_141 : decode (sm_code 71) 141 = .ok (.ifCond .eq 8, 3) := by decide +kernel
theorem r71_141 {X : sm_X} {w : sm_W} {Q : Option Value → sm_W → Prop} {x0 : Nat} {x1 : Int32} {x2 : Int32} {x3 : Int32} {s0 : Int32} : sm_R X 71 141 [.ref x0, .int x1, .int x2, .int x3] [.int s0] w Q ↔ (if s0 = 0 then sm_R X 71 149 [.ref x0, .int x1, .int x2, .int x3] [] w Q else sm_R X 71 144 [.ref x0, .int x1, .int x2, .int x3] [] w Q) := sm_q_br d71_141 rfl
theorem d71_144 : decode (sm_code 71) 144 = .ok (.bipush 10, 2) := by decide +kernel
theorem r71_144 {X : sm_X} {w : sm_W} {Q : Option Value → sm_W → Prop} {x0 : Nat} {x1 : Int32} {x2 : Int32} {x3 : Int32} : sm_R X 71 144 [.ref x0, .int x1, .int x2, .int x3] [] w Q ↔ sm_R X 71 146 [.ref x0, .int x1, .int x2, .int x3] [.int 10] w Q := sm_R_go d71_144 rfl
theorem d71_146 : decode (sm_code 71) 146 = .ok (.goto 4, 3) := by decide +kernel
theorem r71_146 {X : sm_X} {w : sm_W} {Q : Option Value → sm_W → Prop} {x0 : Nat} {x1 : Int32} {x2 : Int32} {x3 : Int32} {s0 : Int32} : sm_R X 71 146 [.ref x0, .int x1, .int x2, .int x3] [.int s0] w Q ↔ sm_R X 71 150 [.ref x0, .int x1, .int x2, .int x3] [.int s0] w Q := sm_R_go d71_146 rfl
theorem d71_149 : decode (sm_code 71) 149 = .ok (.iconst 0, 1) := by decide +kernel
theorem r71_149 {X : sm_X} {w : sm_W} {Q : Option Value → sm_W → Prop} {x0 : Nat} {x1 : Int32} {x2 : Int32} {x3 : Int32} : sm_R X 71 149 [.ref x0, .int x1, .int x2, .int x3] [] w Q ↔ sm_R X 71 150 [.ref x0, .int x1, .int x2, .int x3] [.int 0] w Q := sm_R_go d71_149 rfl
theorem d71_150 : decode (sm_code 71) 150 = .ok (.ireturn, 1) := by decide +kernel
theorem r71_150 {X : sm_X} {w : sm_W} {Q : Option Value → sm_W → Prop} {x0 : Nat} {x1 : Int32} {x2 : Int32} {x3 : Int32} {s0 : Int32} : sm_R X 71 150 [.ref x0, .int x1, .int x2, .int x3] [.int s0] w Q ↔ Q (some (.int s0)) w := sm_q_iret d71_150 rfl
-- GroupLedgerModel.payment(I)I
theorem d72_0 : decode (sm_code 72) 0 = .ok (.aload_n 0, 1) := by decide +kernel
theorem r72_0 {X : sm_X} {w : sm_W} {Q : Option Value → sm_W → Prop} {x0 : Nat} {x1 : Int32} : sm_R X 72 0 [.ref x0, .int x1] [] w Q ↔ sm_R X 72 1 [.ref x0, .int x1] [.ref x0] w Q := sm_R_go d72_0 rfl
theorem d72_1 : decode (sm_code 72) 1 = .ok (.getfield 7, 3) := by decide +kernel
theorem r72_1 {X : sm_X} {w : sm_W} {Q : Option Value → sm_W → Prop} {x0 : Nat} {x1 : Int32} {s0 : Nat} : sm_R X 72 1 [.ref x0, .int x1] [.ref s0] w Q ↔ sm_wp (sm_fld 7 0 (sm_at w s0)) (fun v => sm_R X 72 4 [.ref x0, .int x1] [v] w Q) := sm_q_getf d72_1 rfl (by decide)
theorem d72_4 : decode (sm_code 72) 4 = .ok (.aload_n 0, 1) := by decide +kernel
theorem r72_4 {X : sm_X} {w : sm_W} {Q : Option Value → sm_W → Prop} {x0 : Nat} {x1 : Int32} {s0 : Nat} : sm_R X 72 4 [.ref x0, .int x1] [.ref s0] w Q ↔ sm_R X 72 5 [.ref x0, .int x1] [.ref x0, .ref s0] w Q := sm_R_go d72_4 rfl
theorem d72_5 : decode (sm_code 72) 5 = .ok (.getfield 33, 3) := by decide +kernel
theorem r72_5 {X : sm_X} {w : sm_W} {Q : Option Value → sm_W → Prop} {x0 : Nat} {x1 : Int32} {s0 : Nat} {s1 : Nat} : sm_R X 72 5 [.ref x0, .int x1] [.ref s0, .ref s1] w Q ↔ sm_wp (sm_fld 7 7 (sm_at w s0)) (fun v => sm_R X 72 8 [.ref x0, .int x1] [v, .ref s1] w Q) := sm_q_getf d72_5 rfl (by decide)
theorem d72_8 : decode (sm_code 72) 8 = .ok (.iload_n 1, 1) := by decide +kernel
theorem r72_8 {X : sm_X} {w : sm_W} {Q : Option Value → sm_W → Prop} {x0 : Nat} {x1 : Int32} {s0 : Nat} {s1 : Nat} : sm_R X 72 8 [.ref x0, .int x1] [.ref s0, .ref s1] w Q ↔ sm_R X 72 9 [.ref x0, .int x1] [.int x1, .ref s0, .ref s1] w Q := sm_R_go d72_8 rfl
theorem d72_9 : decode (sm_code 72) 9 = .ok (.iaload, 1) := by decide +kernel
theorem r72_9 {X : sm_X} {w : sm_W} {Q : Option Value → sm_W → Prop} {x0 : Nat} {x1 : Int32} {s0 : Int32} {s1 : Nat} {s2 : Nat} : sm_R X 72 9 [.ref x0, .int x1] [.int s0, .ref s1, .ref s2] w Q ↔ sm_wp (sm_ai s0 (sm_get X w s1)) (fun v => sm_R X 72 10 [.ref x0, .int x1] [.int v, .ref s2] w Q) := sm_q_iald d72_9
theorem d72_10 : decode (sm_code 72) 10 = .ok (.laload, 1) := by decide +kernel
theorem r72_10 {X : sm_X} {w : sm_W} {Q : Option Value → sm_W → Prop} {x0 : Nat} {x1 : Int32} {s0 : Int32} {s1 : Nat} : sm_R X 72 10 [.ref x0, .int x1] [.int s0, .ref s1] w Q ↔ sm_wp (sm_al s0 (sm_at w s1)) (fun v => sm_R X 72 11 [.ref x0, .int x1] [.long v] w Q) := sm_q_lald d72_10
theorem d72_11 : decode (sm_code 72) 11 = .ok (.aload_n 0, 1) := by decide +kernel
theorem r72_11 {X : sm_X} {w : sm_W} {Q : Option Value → sm_W → Prop} {x0 : Nat} {x1 : Int32} {s0 : Int64} : sm_R X 72 11 [.ref x0, .int x1] [.long s0] w Q ↔ sm_R X 72 12 [.ref x0, .int x1] [.ref x0, .long s0] w Q := sm_R_go d72_11 rfl
theorem d72_12 : decode (sm_code 72) 12 = .ok (.getfield 39, 3) := by decide +kernel
theorem r72_12 {X : sm_X} {w : sm_W} {Q : Option Value → sm_W → Prop} {x0 : Nat} {x1 : Int32} {s0 : Nat} {s1 : Int64} : sm_R X 72 12 [.ref x0, .int x1] [.ref s0, .long s1] w Q ↔ sm_wp (sm_fld 7 9 (sm_at w s0)) (fun v => sm_R X 72 15 [.ref x0, .int x1] [v, .long s1] w Q) := sm_q_getf d72_12 rfl (by decide)
theorem d72_15 : decode (sm_code 72) 15 = .ok (.iload_n 1, 1) := by decide +kernel
theorem r72_15 {X : sm_X} {w : sm_W} {Q : Option Value → sm_W → Prop} {x0 : Nat} {x1 : Int32} {s0 : Nat} {s1 : Int64} : sm_R X 72 15 [.ref x0, .int x1] [.ref s0, .long s1] w Q ↔ sm_R X 72 16 [.ref x0, .int x1] [.int x1, .ref s0, .long s1] w Q := sm_R_go d72_15 rfl
theorem d72_16 : decode (sm_code 72) 16 = .ok (.iaload, 1) := by decide +kernel
theorem r72_16 {X : sm_X} {w : sm_W} {Q : Option Value → sm_W → Prop} {x0 : Nat} {x1 : Int32} {s0 : Int32} {s1 : Nat} {s2 : Int64} : sm_R X 72 16 [.ref x0, .int x1] [.int s0, .ref s1, .long s2] w Q ↔ sm_wp (sm_ai s0 (sm_get X w s1)) (fun v => sm_R X 72 17 [.ref x0, .int x1] [.int v, .long s2] w Q) := sm_q_iald d72_16
theorem d72_17 : decode (sm_code 72) 17 = .ok (.i2l, 1) := by decide +kernel
theorem r72_17 {X : sm_X} {w : sm_W} {Q : Option Value → sm_W → Prop} {x0 : Nat} {x1 : Int32} {s0 : Int32} {s1 : Int64} : sm_R X 72 17 [.ref x0, .int x1] [.int s0, .long s1] w Q ↔ sm_R X 72 18 [.ref x0, .int x1] [.long s0.toInt64, .long s1] w Q := sm_R_go d72_17 rfl
theorem d72_18 : decode (sm_code 72) 18 = .ok (.lcmp, 1) := by decide +kernel
theorem r72_18 {X : sm_X} {w : sm_W} {Q : Option Value → sm_W → Prop} {x0 : Nat} {x1 : Int32} {s0 : Int64} {s1 : Int64} : sm_R X 72 18 [.ref x0, .int x1] [.long s0, .long s1] w Q ↔ sm_R X 72 19 [.ref x0, .int x1] [.int (lg_cmp s1 s0)] w Q := sm_R_go d72_18 rfl
theorem d72_19 : decode (sm_code 72) 19 = .ok (.ifCond .ge 6, 3) := by decide +kernel
theorem r72_19 {X : sm_X} {w : sm_W} {Q : Option Value → sm_W → Prop} {x0 : Nat} {x1 : Int32} {s0 : Int32} : sm_R X 72 19 [.ref x0, .int x1] [.int s0] w Q ↔ (if 0 ≤ s0 then sm_R X 72 25 [.ref x0, .int x1] [] w Q else sm_R X 72 22 [.ref x0, .int x1] [] w Q) := sm_q_br d72_19 rfl
theorem d72_22 : decode (sm_code 72) 22 = .ok (.bipush 6, 2) := by decide +kernel
theorem r72_22 {X : sm_X} {w : sm_W} {Q : Option Value → sm_W → Prop} {x0 : Nat} {x1 : Int32} : sm_R X 72 22 [.ref x0, .int x1] [] w Q ↔ sm_R X 72 24 [.ref x0, .int x1] [.int 6] w Q := sm_R_go d72_22 rfl
theorem d72_24 : decode (sm_code 72) 24 = .ok (.ireturn, 1) := by decide +kernel
theorem r72_24 {X : sm_X} {w : sm_W} {Q : Option Value → sm_W → Prop} {x0 : Nat} {x1 : Int32} {s0 : Int32} : sm_R X 72 24 [.ref x0, .int x1] [.int s0] w Q ↔ Q (some (.int s0)) w := sm_q_iret d72_24 rfl
theorem d72_25 : decode (sm_code 72) 25 = .ok (.aload_n 0, 1) := by decide +kernel
theorem r72_25 {X : sm_X} {w : sm_W} {Q : Option Value → sm_W → Prop} {x0 : Nat} {x1 : Int32} : sm_R X 72 25 [.ref x0, .int x1] [] w Q ↔ sm_R X 72 26 [.ref x0, .int x1] [.ref x0] w Q := sm_R_go d72_25 rfl
theorem d72_26 : decode (sm_code 72) 26 = .ok (.getfield 33, 3) := by decide +kernel
theorem r72_26 {X : sm_X} {w : sm_W} {Q : Option Value → sm_W → Prop} {x0 : Nat} {x1 : Int32} {s0 : Nat} : sm_R X 72 26 [.ref x0, .int x1] [.ref s0] w Q ↔ sm_wp (sm_fld 7 7 (sm_at w s0)) (fun v => sm_R X 72 29 [.ref x0, .int x1] [v] w Q) := sm_q_getf d72_26 rfl (by decide)
theorem d72_29 : decode (sm_code 72) 29 = .ok (.iload_n 1, 1) := by decide +kernel
theorem r72_29 {X : sm_X} {w : sm_W} {Q : Option Value → sm_W → Prop} {x0 : Nat} {x1 : Int32} {s0 : Nat} : sm_R X 72 29 [.ref x0, .int x1] [.ref s0] w Q ↔ sm_R X 72 30 [.ref x0, .int x1] [.int x1, .ref s0] w Q := sm_R_go d72_29 rfl
theorem d72_30 : decode (sm_code 72) 30 = .ok (.iaload, 1) := by decide +kernel
theorem r72_30 {X : sm_X} {w : sm_W} {Q : Option Value → sm_W → Prop} {x0 : Nat} {x1 : Int32} {s0 : Int32} {s1 : Nat} : sm_R X 72 30 [.ref x0, .int x1] [.int s0, .ref s1] w Q ↔ sm_wp (sm_ai s0 (sm_get X w s1)) (fun v => sm_R X 72 31 [.ref x0, .int x1] [.int v] w Q) := sm_q_iald d72_30
theorem d72_31 : decode (sm_code 72) 31 = .ok (.aload_n 0, 1) := by decide +kernel
theorem r72_31 {X : sm_X} {w : sm_W} {Q : Option Value → sm_W → Prop} {x0 : Nat} {x1 : Int32} {s0 : Int32} : sm_R X 72 31 [.ref x0, .int x1] [.int s0] w Q ↔ sm_R X 72 32 [.ref x0, .int x1] [.ref x0, .int s0] w Q := sm_R_go d72_31 rfl
theorem d72_32 : decode (sm_code 72) 32 = .ok (.getfield 36, 3) := by decide +kernel
theorem r72_32 {X : sm_X} {w : sm_W} {Q : Option Value → sm_W → Prop} {x0 : Nat} {x1 : Int32} {s0 : Nat} {s1 : Int32} : sm_R X 72 32 [.ref x0, .int x1] [.ref s0, .int s1] w Q ↔ sm_wp (sm_fld 7 8 (sm_at w s0)) (fun v => sm_R X 72 35 [.ref x0, .int x1] [v, .int s1] w Q) := sm_q_getf d72_32 rfl (by decide)
theorem d72_35 : decode (sm_code 72) 35 = .ok (.iload_n 1, 1) := by decide +kernel
theorem r72_35 {X : sm_X} {w : sm_W} {Q : Option Value → sm_W → Prop} {x0 : Nat} {x1 : Int32} {s0 : Nat} {s1 : Int32} : sm_R X 72 35 [.ref x0, .int x1] [.ref s0, .int s1] w Q ↔ sm_R X 72 36 [.ref x0, .int x1] [.int x1, .ref s0, .int s1] w Q := sm_R_go d72_35 rfl
theorem d72_36 : decode (sm_code 72) 36 = .ok (.iaload, 1) := by decide +kernel
theorem r72_36 {X : sm_X} {w : sm_W} {Q : Option Value → sm_W → Prop} {x0 : Nat} {x1 : Int32} {s0 : Int32} {s1 : Nat} {s2 : Int32} : sm_R X 72 36 [.ref x0, .int x1] [.int s0, .ref s1, .int s2] w Q ↔ sm_wp (sm_ai s0 (sm_get X w s1)) (fun v => sm_R X 72 37 [.ref x0, .int x1] [.int v, .int s2] w Q) := sm_q_iald d72_36
theorem d72_37 : decode (sm_code 72) 37 = .ok (.if_icmp .eq 32, 3) := by decide +kernel
theorem r72_37 {X : sm_X} {w : sm_W} {Q : Option Value → sm_W → Prop} {x0 : Nat} {x1 : Int32} {s0 : Int32} {s1 : Int32} : sm_R X 72 37 [.ref x0, .int x1] [.int s0, .int s1] w Q ↔ (if s1 = s0 then sm_R X 72 69 [.ref x0, .int x1] [] w Q else sm_R X 72 40 [.ref x0, .int x1] [] w Q) := sm_q_br d72_37 rfl
theorem d72_40 : decode (sm_code 72) 40 = .ok (.aload_n 0, 1) := by decide +kernel
theorem r72_40 {X : sm_X} {w : sm_W} {Q : Option Value → sm_W → Prop} {x0 : Nat} {x1 : Int32} : sm_R X 72 40 [.ref x0, .int x1] [] w Q ↔ sm_R X 72 41 [.ref x0, .int x1] [.ref x0] w Q := sm_R_go d72_40 rfl
theorem d72_41 : decode (sm_code 72) 41 = .ok (.getfield 7, 3) := by decide +kernel
theorem r72_41 {X : sm_X} {w : sm_W} {Q : Option Value → sm_W → Prop} {x0 : Nat} {x1 : Int32} {s0 : Nat} : sm_R X 72 41 [.ref x0, .int x1] [.ref s0] w Q ↔ sm_wp (sm_fld 7 0 (sm_at w s0)) (fun v => sm_R X 72 44 [.ref x0, .int x1] [v] w Q) := sm_q_getf d72_41 rfl (by decide)
theorem d72_44 : decode (sm_code 72) 44 = .ok (.aload_n 0, 1) := by decide +kernel
theorem r72_44 {X : sm_X} {w : sm_W} {Q : Option Value → sm_W → Prop} {x0 : Nat} {x1 : Int32} {s0 : Nat} : sm_R X 72 44 [.ref x0, .int x1] [.ref s0] w Q ↔ sm_R X 72 45 [.ref x0, .int x1] [.ref x0, .ref s0] w Q := sm_R_go d72_44 rfl
theorem d72_45 : decode (sm_code 72) 45 = .ok (.getfield 36, 3) := by decide +kernel
theorem r72_45 {X : sm_X} {w : sm_W} {Q : Option Value → sm_W → Prop} {x0 : Nat} {x1 : Int32} {s0 : Nat} {s1 : Nat} : sm_R X 72 45 [.ref x0, .int x1] [.ref s0, .ref s1] w Q ↔ sm_wp (sm_fld 7 8 (sm_at w s0)) (fun v => sm_R X 72 48 [.ref x0, .int x1] [v, .ref s1] w Q) := sm_q_getf d72_45 rfl (by decide)
theorem d72_48 : decode (sm_code 72) 48 = .ok (.iload_n 1, 1) := by decide +kernel
theorem r72_48 {X : sm_X} {w : sm_W} {Q : Option Value → sm_W → Prop} {x0 : Nat} {x1 : Int32} {s0 : Nat} {s1 : Nat} : sm_R X 72 48 [.ref x0, .int x1] [.ref s0, .ref s1] w Q ↔ sm_R X 72 49 [.ref x0, .int x1] [.int x1, .ref s0, .ref s1] w Q := sm_R_go d72_48 rfl
theorem d72_49 : decode (sm_code 72) 49 = .ok (.iaload, 1) := by decide +kernel
theorem r72_49 {X : sm_X} {w : sm_W} {Q : Option Value → sm_W → Prop} {x0 : Nat} {x1 : Int32} {s0 : Int32} {s1 : Nat} {s2 : Nat} : sm_R X 72 49 [.ref x0, .int x1] [.int s0, .ref s1, .ref s2] w Q ↔ sm_wp (sm_ai s0 (sm_get X w s1)) (fun v => sm_R X 72 50 [.ref x0, .int x1] [.int v, .ref s2] w Q) := sm_q_iald d72_49
theorem d72_50 : decode (sm_code 72) 50 = .ok (.laload, 1) := by decide +kernel
theorem r72_50 {X : sm_X} {w : sm_W} {Q : Option Value → sm_W → Prop} {x0 : Nat} {x1 : Int32} {s0 : Int32} {s1 : Nat} : sm_R X 72 50 [.ref x0, .int x1] [.int s0, .ref s1] w Q ↔ sm_wp (sm_al s0 (sm_at w s1)) (fun v => sm_R X 72 51 [.ref x0, .int x1] [.long v] w Q) := sm_q_lald d72_50
theorem d72_51 : decode (sm_code 72) 51 = .ok (.aload_n 0, 1) := by decide +kernel
theorem r72_51 {X : sm_X} {w : sm_W} {Q : Option Value → sm_W → Prop} {x0 : Nat} {x1 : Int32} {s0 : Int64} : sm_R X 72 51 [.ref x0, .int x1] [.long s0] w Q ↔ sm_R X 72 52 [.ref x0, .int x1] [.ref x0, .long s0] w Q := sm_R_go d72_51 rfl
theorem d72_52 : decode (sm_code 72) 52 = .ok (.getfield 39, 3) := by decide +kernel
theorem r72_52 {X : sm_X} {w : sm_W} {Q : Option Value → sm_W → Prop} {x0 : Nat} {x1 : Int32} {s0 : Nat} {s1 : Int64} : sm_R X 72 52 [.ref x0, .int x1] [.ref s0, .long s1] w Q ↔ sm_wp (sm_fld 7 9 (sm_at w s0)) (fun v => sm_R X 72 55 [.ref x0, .int x1] [v, .long s1] w Q) := sm_q_getf d72_52 rfl (by decide)
theorem d72_55 : decode (sm_code 72) 55 = .ok (.iload_n 1, 1) := by decide +kernel
theorem r72_55 {X : sm_X} {w : sm_W} {Q : Option Value → sm_W → Prop} {x0 : Nat} {x1 : Int32} {s0 : Nat} {s1 : Int64} : sm_R X 72 55 [.ref x0, .int x1] [.ref s0, .long s1] w Q ↔ sm_R X 72 56 [.ref x0, .int x1] [.int x1, .ref s0, .long s1] w Q := sm_R_go d72_55 rfl
theorem d72_56 : decode (sm_code 72) 56 = .ok (.iaload, 1) := by decide +kernel
theorem r72_56 {X : sm_X} {w : sm_W} {Q : Option Value → sm_W → Prop} {x0 : Nat} {x1 : Int32} {s0 : Int32} {s1 : Nat} {s2 : Int64} : sm_R X 72 56 [.ref x0, .int x1] [.int s0, .ref s1, .long s2] w Q ↔ sm_wp (sm_ai s0 (sm_get X w s1)) (fun v => sm_R X 72 57 [.ref x0, .int x1] [.int v, .long s2] w Q) := sm_q_iald d72_56
theorem d72_57 : decode (sm_code 72) 57 = .ok (.i2l, 1) := by decide +kernel
theorem r72_57 {X : sm_X} {w : sm_W} {Q : Option Value → sm_W → Prop} {x0 : Nat} {x1 : Int32} {s0 : Int32} {s1 : Int64} : sm_R X 72 57 [.ref x0, .int x1] [.int s0, .long s1] w Q ↔ sm_R X 72 58 [.ref x0, .int x1] [.long s0.toInt64, .long s1] w Q := sm_R_go d72_57 rfl
theorem d72_58 : decode (sm_code 72) 58 = .ok (.ladd, 1) := by decide +kernel
theorem r72_58 {X : sm_X} {w : sm_W} {Q : Option Value → sm_W → Prop} {x0 : Nat} {x1 : Int32} {s0 : Int64} {s1 : Int64} : sm_R X 72 58 [.ref x0, .int x1] [.long s0, .long s1] w Q ↔ sm_R X 72 59 [.ref x0, .int x1] [.long (s1 + s0)] w Q := sm_R_go d72_58 rfl
theorem d72_59 : decode (sm_code 72) 59 = .ok (.ldc2_w 94, 3) := by decide +kernel
theorem r72_59 {X : sm_X} {w : sm_W} {Q : Option Value → sm_W → Prop} {x0 : Nat} {x1 : Int32} {s0 : Int64} : sm_R X 72 59 [.ref x0, .int x1] [.long s0] w Q ↔ sm_R X 72 62 [.ref x0, .int x1] [.long 2147483647, .long s0] w Q := sm_R_go d72_59 rfl
theorem d72_62 : decode (sm_code 72) 62 = .ok (.lcmp, 1) := by decide +kernel
theorem r72_62 {X : sm_X} {w : sm_W} {Q : Option Value → sm_W → Prop} {x0 : Nat} {x1 : Int32} {s0 : Int64} {s1 : Int64} : sm_R X 72 62 [.ref x0, .int x1] [.long s0, .long s1] w Q ↔ sm_R X 72 63 [.ref x0, .int x1] [.int (lg_cmp s1 s0)] w Q := sm_R_go d72_62 rfl
theorem d72_63 : decode (sm_code 72) 63 = .ok (.ifCond .le 6, 3) := by decide +kernel
theorem r72_63 {X : sm_X} {w : sm_W} {Q : Option Value → sm_W → Prop} {x0 : Nat} {x1 : Int32} {s0 : Int32} : sm_R X 72 63 [.ref x0, .int x1] [.int s0] w Q ↔ (if s0 ≤ 0 then sm_R X 72 69 [.ref x0, .int x1] [] w Q else sm_R X 72 66 [.ref x0, .int x1] [] w Q) := sm_q_br d72_63 rfl
theorem d72_66 : decode (sm_code 72) 66 = .ok (.bipush 7, 2) := by decide +kernel
theorem r72_66 {X : sm_X} {w : sm_W} {Q : Option Value → sm_W → Prop} {x0 : Nat} {x1 : Int32} : sm_R X 72 66 [.ref x0, .int x1] [] w Q ↔ sm_R X 72 68 [.ref x0, .int x1] [.int 7] w Q := sm_R_go d72_66 rfl
theorem d72_68 : decode (sm_code 72) 68 = .ok (.ireturn, 1) := by decide +kernel
theorem r72_68 {X : sm_X} {w : sm_W} {Q : Option Value → sm_W → Prop} {x0 : Nat} {x1 : Int32} {s0 : Int32} : sm_R X 72 68 [.ref x0, .int x1] [.int s0] w Q ↔ Q (some (.int s0)) w := sm_q_iret d72_68 rfl
theorem d72_69 : decode (sm_code 72) 69 = .ok (.aload_n 0, 1) := by decide +kernel
theorem r72_69 {X : sm_X} {w : sm_W} {Q : Option Value → sm_W → Prop} {x0 : Nat} {x1 : Int32} : sm_R X 72 69 [.ref x0, .int x1] [] w Q ↔ sm_R X 72 70 [.ref x0, .int x1] [.ref x0] w Q := sm_R_go d72_69 rfl
theorem d72_70 : decode (sm_code 72) 70 = .ok (.getfield 7, 3) := by decide +kernel
theorem r72_70 {X : sm_X} {w : sm_W} {Q : Option Value → sm_W → Prop} {x0 : Nat} {x1 : Int32} {s0 : Nat} : sm_R X 72 70 [.ref x0, .int x1] [.ref s0] w Q ↔ sm_wp (sm_fld 7 0 (sm_at w s0)) (fun v => sm_R X 72 73 [.ref x0, .int x1] [v] w Q) := sm_q_getf d72_70 rfl (by decide)
theorem d72_73 : decode (sm_code 72) 73 = .ok (.aload_n 0, 1) := by decide +kernel
theorem r72_73 {X : sm_X} {w : sm_W} {Q : Option Value → sm_W → Prop} {x0 : Nat} {x1 : Int32} {s0 : Nat} : sm_R X 72 73 [.ref x0, .int x1] [.ref s0] w Q ↔ sm_R X 72 74 [.ref x0, .int x1] [.ref x0, .ref s0] w Q := sm_R_go d72_73 rfl
theorem d72_74 : decode (sm_code 72) 74 = .ok (.getfield 33, 3) := by decide +kernel
theorem r72_74 {X : sm_X} {w : sm_W} {Q : Option Value → sm_W → Prop} {x0 : Nat} {x1 : Int32} {s0 : Nat} {s1 : Nat} : sm_R X 72 74 [.ref x0, .int x1] [.ref s0, .ref s1] w Q ↔ sm_wp (sm_fld 7 7 (sm_at w s0)) (fun v => sm_R X 72 77 [.ref x0, .int x1] [v, .ref s1] w Q) := sm_q_getf d72_74 rfl (by decide)
theorem d72_77 : decode (sm_code 72) 77 = .ok (.iload_n 1, 1) := by decide +kernel
theorem r72_77 {X : sm_X} {w : sm_W} {Q : Option Value → sm_W → Prop} {x0 : Nat} {x1 : Int32} {s0 : Nat} {s1 : Nat} : sm_R X 72 77 [.ref x0, .int x1] [.ref s0, .ref s1] w Q ↔ sm_R X 72 78 [.ref x0, .int x1] [.int x1, .ref s0, .ref s1] w Q := sm_R_go d72_77 rfl
theorem d72_78 : decode (sm_code 72) 78 = .ok (.iaload, 1) := by decide +kernel
theorem r72_78 {X : sm_X} {w : sm_W} {Q : Option Value → sm_W → Prop} {x0 : Nat} {x1 : Int32} {s0 : Int32} {s1 : Nat} {s2 : Nat} : sm_R X 72 78 [.ref x0, .int x1] [.int s0, .ref s1, .ref s2] w Q ↔ sm_wp (sm_ai s0 (sm_get X w s1)) (fun v => sm_R X 72 79 [.ref x0, .int x1] [.int v, .ref s2] w Q) := sm_q_iald d72_78
theorem d72_79 : decode (sm_code 72) 79 = .ok (.dup2, 1) := by decide +kernel
theorem r72_79 {X : sm_X} {w : sm_W} {Q : Option Value → sm_W → Prop} {x0 : Nat} {x1 : Int32} {s0 : Int32} {s1 : Nat} : sm_R X 72 79 [.ref x0, .int x1] [.int s0, .ref s1] w Q ↔ sm_R X 72 80 [.ref x0, .int x1] [.int s0, .ref s1, .int s0, .ref s1] w Q := sm_R_go d72_79 rfl
theorem d72_80 : decode (sm_code 72) 80 = .ok (.laload, 1) := by decide +kernel
theorem r72_80 {X : sm_X} {w : sm_W} {Q : Option Value → sm_W → Prop} {x0 : Nat} {x1 : Int32} {s0 : Int32} {s1 : Nat} {s2 : Int32} {s3 : Nat} : sm_R X 72 80 [.ref x0, .int x1] [.int s0, .ref s1, .int s2, .ref s3] w Q ↔ sm_wp (sm_al s0 (sm_at w s1)) (fun v => sm_R X 72 81 [.ref x0, .int x1] [.long v, .int s2, .ref s3] w Q) := sm_q_lald d72_80
theorem d72_81 : decode (sm_code 72) 81 = .ok (.aload_n 0, 1) := by decide +kernel
theorem r72_81 {X : sm_X} {w : sm_W} {Q : Option Value → sm_W → Prop} {x0 : Nat} {x1 : Int32} {s0 : Int64} {s1 : Int32} {s2 : Nat} : sm_R X 72 81 [.ref x0, .int x1] [.long s0, .int s1, .ref s2] w Q ↔ sm_R X 72 82 [.ref x0, .int x1] [.ref x0, .long s0, .int s1, .ref s2] w Q := sm_R_go d72_81 rfl
theorem d72_82 : decode (sm_code 72) 82 = .ok (.getfield 39, 3) := by decide +kernel
theorem r72_82 {X : sm_X} {w : sm_W} {Q : Option Value → sm_W → Prop} {x0 : Nat} {x1 : Int32} {s0 : Nat} {s1 : Int64} {s2 : Int32} {s3 : Nat} : sm_R X 72 82 [.ref x0, .int x1] [.ref s0, .long s1, .int s2, .ref s3] w Q ↔ sm_wp (sm_fld 7 9 (sm_at w s0)) (fun v => sm_R X 72 85 [.ref x0, .int x1] [v, .long s1, .int s2, .ref s3] w Q) := sm_q_getf d72_82 rfl (by decide)
theorem d72_85 : decode (sm_code 72) 85 = .ok (.iload_n 1, 1) := by decide +kernel
theorem r72_85 {X : sm_X} {w : sm_W} {Q : Option Value → sm_W → Prop} {x0 : Nat} {x1 : Int32} {s0 : Nat} {s1 : Int64} {s2 : Int32} {s3 : Nat} : sm_R X 72 85 [.ref x0, .int x1] [.ref s0, .long s1, .int s2, .ref s3] w Q ↔ sm_R X 72 86 [.ref x0, .int x1] [.int x1, .ref s0, .long s1, .int s2, .ref s3] w Q := sm_R_go d72_85 rfl
theorem d72_86 : decode (sm_code 72) 86 = .ok (.iaload, 1) := by decide +kernel
theorem r72_86 {X : sm_X} {w : sm_W} {Q : Option Value → sm_W → Prop} {x0 : Nat} {x1 : Int32} {s0 : Int32} {s1 : Nat} {s2 : Int64} {s3 : Int32} {s4 : Nat} : sm_R X 72 86 [.ref x0, .int x1] [.int s0, .ref s1, .long s2, .int s3, .ref s4] w Q ↔ sm_wp (sm_ai s0 (sm_get X w s1)) (fun v => sm_R X 72 87 [.ref x0, .int x1] [.int v, .long s2, .int s3, .ref s4] w Q) := sm_q_iald d72_86
theorem d72_87 : decode (sm_code 72) 87 = .ok (.i2l, 1) := by decide +kernel
theorem r72_87 {X : sm_X} {w : sm_W} {Q : Option Value → sm_W → Prop} {x0 : Nat} {x1 : Int32} {s0 : Int32} {s1 : Int64} {s2 : Int32} {s3 : Nat} : sm_R X 72 87 [.ref x0, .int x1] [.int s0, .long s1, .int s2, .ref s3] w Q ↔ sm_R X 72 88 [.ref x0, .int x1] [.long s0.toInt64, .long s1, .int s2, .ref s3] w Q := sm_R_go d72_87 rfl
theorem d72_88 : decode (sm_code 72) 88 = .ok (.lsub, 1) := by decide +kernel
theorem r72_88 {X : sm_X} {w : sm_W} {Q : Option Value → sm_W → Prop} {x0 : Nat} {x1 : Int32} {s0 : Int64} {s1 : Int64} {s2 : Int32} {s3 : Nat} : sm_R X 72 88 [.ref x0, .int x1] [.long s0, .long s1, .int s2, .ref s3] w Q ↔ sm_R X 72 89 [.ref x0, .int x1] [.long (s1 - s0), .int s2, .ref s3] w Q := sm_R_go d72_88 rfl
theorem d72_89 : decode (sm_code 72) 89 = .ok (.lastore, 1) := by decide +kernel
theorem r72_89 {X : sm_X} {w : sm_W} {Q : Option Value → sm_W → Prop} {x0 : Nat} {x1 : Int32} {s0 : Int64} {s1 : Int32} {s2 : Nat} : sm_R X 72 89 [.ref x0, .int x1] [.long s0, .int s1, .ref s2] w Q ↔ sm_wp (sm_slg s1 s0 (sm_at w s2)) (fun c => sm_R X 72 90 [.ref x0, .int x1] [] (w.set (s2 - 100) c) Q) := sm_q_last d72_89
theorem d72_90 : decode (sm_code 72) 90 = .ok (.aload_n 0, 1) := by decide +kernel
theorem r72_90 {X : sm_X} {w : sm_W} {Q : Option Value → sm_W → Prop} {x0 : Nat} {x1 : Int32} : sm_R X 72 90 [.ref x0, .int x1] [] w Q ↔ sm_R X 72 91 [.ref x0, .int x1] [.ref x0] w Q := sm_R_go d72_90 rfl
theorem d72_91 : decode (sm_code 72) 91 = .ok (.getfield 7, 3) := by decide +kernel
theorem r72_91 {X : sm_X} {w : sm_W} {Q : Option Value → sm_W → Prop} {x0 : Nat} {x1 : Int32} {s0 : Nat} : sm_R X 72 91 [.ref x0, .int x1] [.ref s0] w Q ↔ sm_wp (sm_fld 7 0 (sm_at w s0)) (fun v => sm_R X 72 94 [.ref x0, .int x1] [v] w Q) := sm_q_getf d72_91 rfl (by decide)
theorem d72_94 : decode (sm_code 72) 94 = .ok (.aload_n 0, 1) := by decide +kernel
theorem r72_94 {X : sm_X} {w : sm_W} {Q : Option Value → sm_W → Prop} {x0 : Nat} {x1 : Int32} {s0 : Nat} : sm_R X 72 94 [.ref x0, .int x1] [.ref s0] w Q ↔ sm_R X 72 95 [.ref x0, .int x1] [.ref x0, .ref s0] w Q := sm_R_go d72_94 rfl
theorem d72_95 : decode (sm_code 72) 95 = .ok (.getfield 36, 3) := by decide +kernel
theorem r72_95 {X : sm_X} {w : sm_W} {Q : Option Value → sm_W → Prop} {x0 : Nat} {x1 : Int32} {s0 : Nat} {s1 : Nat} : sm_R X 72 95 [.ref x0, .int x1] [.ref s0, .ref s1] w Q ↔ sm_wp (sm_fld 7 8 (sm_at w s0)) (fun v => sm_R X 72 98 [.ref x0, .int x1] [v, .ref s1] w Q) := sm_q_getf d72_95 rfl (by decide)
theorem d72_98 : decode (sm_code 72) 98 = .ok (.iload_n 1, 1) := by decide +kernel
theorem r72_98 {X : sm_X} {w : sm_W} {Q : Option Value → sm_W → Prop} {x0 : Nat} {x1 : Int32} {s0 : Nat} {s1 : Nat} : sm_R X 72 98 [.ref x0, .int x1] [.ref s0, .ref s1] w Q ↔ sm_R X 72 99 [.ref x0, .int x1] [.int x1, .ref s0, .ref s1] w Q := sm_R_go d72_98 rfl
theorem d72_99 : decode (sm_code 72) 99 = .ok (.iaload, 1) := by decide +kernel
theorem r72_99 {X : sm_X} {w : sm_W} {Q : Option Value → sm_W → Prop} {x0 : Nat} {x1 : Int32} {s0 : Int32} {s1 : Nat} {s2 : Nat} : sm_R X 72 99 [.ref x0, .int x1] [.int s0, .ref s1, .ref s2] w Q ↔ sm_wp (sm_ai s0 (sm_get X w s1)) (fun v => sm_R X 72 100 [.ref x0, .int x1] [.int v, .ref s2] w Q) := sm_q_iald d72_99
theorem d72_100 : decode (sm_code 72) 100 = .ok (.dup2, 1) := by decide +kernel
theorem r72_100 {X : sm_X} {w : sm_W} {Q : Option Value → sm_W → Prop} {x0 : Nat} {x1 : Int32} {s0 : Int32} {s1 : Nat} : sm_R X 72 100 [.ref x0, .int x1] [.int s0, .ref s1] w Q ↔ sm_R X 72 101 [.ref x0, .int x1] [.int s0, .ref s1, .int s0, .ref s1] w Q := sm_R_go d72_100 rfl
theorem d72_101 : decode (sm_code 72) 101 = .ok (.laload, 1) := by decide +kernel
theorem r72_101 {X : sm_X} {w : sm_W} {Q : Option Value → sm_W → Prop} {x0 : Nat} {x1 : Int32} {s0 : Int32} {s1 : Nat} {s2 : Int32} {s3 : Nat} : sm_R X 72 101 [.ref x0, .int x1] [.int s0, .ref s1, .int s2, .ref s3] w Q ↔ sm_wp (sm_al s0 (sm_at w s1)) (fun v => sm_R X 72 102 [.ref x0, .int x1] [.long v, .int s2, .ref s3] w Q) := sm_q_lald d72_101
theorem d72_102 : decode (sm_code 72) 102 = .ok (.aload_n 0, 1) := by decide +kernel
theorem r72_102 {X : sm_X} {w : sm_W} {Q : Option Value → sm_W → Prop} {x0 : Nat} {x1 : Int32} {s0 : Int64} {s1 : Int32} {s2 : Nat} : sm_R X 72 102 [.ref x0, .int x1] [.long s0, .int s1, .ref s2] w Q ↔ sm_R X 72 103 [.ref x0, .int x1] [.ref x0, .long s0, .int s1, .ref s2] w Q := sm_R_go d72_102 rfl
theorem d72_103 : decode (sm_code 72) 103 = .ok (.getfield 39, 3) := by decide +kernel
theorem r72_103 {X : sm_X} {w : sm_W} {Q : Option Value → sm_W → Prop} {x0 : Nat} {x1 : Int32} {s0 : Nat} {s1 : Int64} {s2 : Int32} {s3 : Nat} : sm_R X 72 103 [.ref x0, .int x1] [.ref s0, .long s1, .int s2, .ref s3] w Q ↔ sm_wp (sm_fld 7 9 (sm_at w s0)) (fun v => sm_R X 72 106 [.ref x0, .int x1] [v, .long s1, .int s2, .ref s3] w Q) := sm_q_getf d72_103 rfl (by decide)
theorem d72_106 : decode (sm_code 72) 106 = .ok (.iload_n 1, 1) := by decide +kernel
theorem r72_106 {X : sm_X} {w : sm_W} {Q : Option Value → sm_W → Prop} {x0 : Nat} {x1 : Int32} {s0 : Nat} {s1 : Int64} {s2 : Int32} {s3 : Nat} : sm_R X 72 106 [.ref x0, .int x1] [.ref s0, .long s1, .int s2, .ref s3] w Q ↔ sm_R X 72 107 [.ref x0, .int x1] [.int x1, .ref s0, .long s1, .int s2, .ref s3] w Q := sm_R_go d72_106 rfl
theorem d72_107 : decode (sm_code 72) 107 = .ok (.iaload, 1) := by decide +kernel
theorem r72_107 {X : sm_X} {w : sm_W} {Q : Option Value → sm_W → Prop} {x0 : Nat} {x1 : Int32} {s0 : Int32} {s1 : Nat} {s2 : Int64} {s3 : Int32} {s4 : Nat} : sm_R X 72 107 [.ref x0, .int x1] [.int s0, .ref s1, .long s2, .int s3, .ref s4] w Q ↔ sm_wp (sm_ai s0 (sm_get X w s1)) (fun v => sm_R X 72 108 [.ref x0, .int x1] [.int v, .long s2, .int s3, .ref s4] w Q) := sm_q_iald d72_107
theorem d72_108 : decode (sm_code 72) 108 = .ok (.i2l, 1) := by decide +kernel
theorem r72_108 {X : sm_X} {w : sm_W} {Q : Option Value → sm_W → Prop} {x0 : Nat} {x1 : Int32} {s0 : Int32} {s1 : Int64} {s2 : Int32} {s3 : Nat} : sm_R X 72 108 [.ref x0, .int x1] [.int s0, .long s1, .int s2, .ref s3] w Q ↔ sm_R X 72 109 [.ref x0, .int x1] [.long s0.toInt64, .long s1, .int s2, .ref s3] w Q := sm_R_go d72_108 rfl
theorem d72_109 : decode (sm_code 72) 109 = .ok (.ladd, 1) := by decide +kernel
theorem r72_109 {X : sm_X} {w : sm_W} {Q : Option Value → sm_W → Prop} {x0 : Nat} {x1 : Int32} {s0 : Int64} {s1 : Int64} {s2 : Int32} {s3 : Nat} : sm_R X 72 109 [.ref x0, .int x1] [.long s0, .long s1, .int s2, .ref s3] w Q ↔ sm_R X 72 110 [.ref x0, .int x1] [.long (s1 + s0), .int s2, .ref s3] w Q := sm_R_go d72_109 rfl
theorem d72_110 : decode (sm_code 72) 110 = .ok (.lastore, 1) := by decide +kernel
theorem r72_110 {X : sm_X} {w : sm_W} {Q : Option Value → sm_W → Prop} {x0 : Nat} {x1 : Int32} {s0 : Int64} {s1 : Int32} {s2 : Nat} : sm_R X 72 110 [.ref x0, .int x1] [.long s0, .int s1, .ref s2] w Q ↔ sm_wp (sm_slg s1 s0 (sm_at w s2)) (fun c => sm_R X 72 111 [.ref x0, .int x1] [] (w.set (s2 - 100) c) Q) := sm_q_last d72_110
theorem d72_111 : decode (sm_code 72) 111 = .ok (.iconst 0, 1) := by decide +kernel
theorem r72_111 {X : sm_X} {w : sm_W} {Q : Option Value → sm_W → Prop} {x0 : Nat} {x1 : Int32} : sm_R X 72 111 [.ref x0, .int x1] [] w Q ↔ sm_R X 72 112 [.ref x0, .int x1] [.int 0] w Q := sm_R_go d72_111 rfl
theorem d72_112 : decode (sm_code 72) 112 = .ok (.ireturn, 1) := by decide +kernel
theorem r72_112 {X : sm_X} {w : sm_W} {Q : Option Value → sm_W → Prop} {x0 : Nat} {x1 : Int32} {s0 : Int32} : sm_R X 72 112 [.ref x0, .int x1] [.int s0] w Q ↔ Q (some (.int s0)) w := sm_q_iret d72_112 rfl
