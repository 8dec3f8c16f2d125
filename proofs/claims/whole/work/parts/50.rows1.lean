-- GroupLedger.<init>()V
theorem d0_0 : decode (sm_code 0) 0 = .ok (.aload_n 0, 1) := by decide +kernel
theorem r0_0 {X : sm_X} {w : sm_W} {Q : Option Value → sm_W → Prop} {x0 : Nat} : sm_R X 0 0 [.ref x0, sm_J] [] w Q ↔ sm_R X 0 1 [.ref x0, sm_J] [.ref x0] w Q := sm_R_go d0_0 rfl
theorem d0_1 : decode (sm_code 0) 1 = .ok (.invokespecial 1, 3) := by decide +kernel
theorem r0_1 {X : sm_X} {w : sm_W} {Q : Option Value → sm_W → Prop} {x0 : Nat} {s0 : Nat} (h : ¬ s0 < 100) : sm_R X 0 1 [.ref x0, sm_J] [.ref s0] w Q ↔ sm_R X 0 4 [.ref x0, sm_J] [] w Q := sm_q_obj d0_1 rfl (by decide) (by decide) h
theorem d0_4 : decode (sm_code 0) 4 = .ok (.aload_n 0, 1) := by decide +kernel
theorem r0_4 {X : sm_X} {w : sm_W} {Q : Option Value → sm_W → Prop} {x0 : Nat} : sm_R X 0 4 [.ref x0, sm_J] [] w Q ↔ sm_R X 0 5 [.ref x0, sm_J] [.ref x0] w Q := sm_R_go d0_4 rfl
theorem d0_5 : decode (sm_code 0) 5 = .ok (.new 7, 3) := by decide +kernel
theorem r0_5 {X : sm_X} {w : sm_W} {Q : Option Value → sm_W → Prop} {x0 : Nat} {s0 : Nat} : sm_R X 0 5 [.ref x0, sm_J] [.ref s0] w Q ↔ sm_R X 0 8 [.ref x0, sm_J] [.ref (100 + w.length), .ref s0] (w ++ [.inr (0, sm_def 0)]) Q := sm_R_go d0_5 rfl
theorem d0_8 : decode (sm_code 0) 8 = .ok (.dup, 1) := by decide +kernel
theorem r0_8 {X : sm_X} {w : sm_W} {Q : Option Value → sm_W → Prop} {x0 : Nat} {s0 : Nat} {s1 : Nat} : sm_R X 0 8 [.ref x0, sm_J] [.ref s0, .ref s1] w Q ↔ sm_R X 0 9 [.ref x0, sm_J] [.ref s0, .ref s0, .ref s1] w Q := sm_R_go d0_8 rfl
theorem d0_9 : decode (sm_code 0) 9 = .ok (.invokespecial 9, 3) := by decide +kernel
theorem r0_9 {X : sm_X} {w : sm_W} {Q : Option Value → sm_W → Prop} {x0 : Nat} {s0 : Nat} {s1 : Nat} {s2 : Nat} : sm_R X 0 9 [.ref x0, sm_J] [.ref s0, .ref s1, .ref s2] w Q ↔ sm_R X 1 0 [.ref s0] [] w (fun v w => sm_R X 0 12 [.ref x0, sm_J] (v.toList ++ [.ref s1, .ref s2]) w Q) := sm_q_call (k := 1) (as := [.ref s0]) (rest := [.ref s1, .ref s2]) d0_9 rfl rfl
theorem d0_12 : decode (sm_code 0) 12 = .ok (.putfield 10, 3) := by decide +kernel
theorem r0_12 {X : sm_X} {w : sm_W} {Q : Option Value → sm_W → Prop} {x0 : Nat} {s0 : Nat} {s1 : Nat} : sm_R X 0 12 [.ref x0, sm_J] [.ref s0, .ref s1] w Q ↔ sm_wp (sm_pfl 6 0 (.ref s0) (sm_at w s1)) (fun c => sm_R X 0 15 [.ref x0, sm_J] [] (w.set (s1 - 100) c) Q) := sm_q_putf d0_12 rfl rfl rfl (by decide)
theorem d0_15 : decode (sm_code 0) 15 = .ok (.aload_n 0, 1) := by decide +kernel
theorem r0_15 {X : sm_X} {w : sm_W} {Q : Option Value → sm_W → Prop} {x0 : Nat} : sm_R X 0 15 [.ref x0, sm_J] [] w Q ↔ sm_R X 0 16 [.ref x0, sm_J] [.ref x0] w Q := sm_R_go d0_15 rfl
theorem d0_16 : decode (sm_code 0) 16 = .ok (.new 7, 3) := by decide +kernel
theorem r0_16 {X : sm_X} {w : sm_W} {Q : Option Value → sm_W → Prop} {x0 : Nat} {s0 : Nat} : sm_R X 0 16 [.ref x0, sm_J] [.ref s0] w Q ↔ sm_R X 0 19 [.ref x0, sm_J] [.ref (100 + w.length), .ref s0] (w ++ [.inr (0, sm_def 0)]) Q := sm_R_go d0_16 rfl
theorem d0_19 : decode (sm_code 0) 19 = .ok (.dup, 1) := by decide +kernel
theorem r0_19 {X : sm_X} {w : sm_W} {Q : Option Value → sm_W → Prop} {x0 : Nat} {s0 : Nat} {s1 : Nat} : sm_R X 0 19 [.ref x0, sm_J] [.ref s0, .ref s1] w Q ↔ sm_R X 0 20 [.ref x0, sm_J] [.ref s0, .ref s0, .ref s1] w Q := sm_R_go d0_19 rfl
theorem d0_20 : decode (sm_code 0) 20 = .ok (.invokespecial 9, 3) := by decide +kernel
theorem r0_20 {X : sm_X} {w : sm_W} {Q : Option Value → sm_W → Prop} {x0 : Nat} {s0 : Nat} {s1 : Nat} {s2 : Nat} : sm_R X 0 20 [.ref x0, sm_J] [.ref s0, .ref s1, .ref s2] w Q ↔ sm_R X 1 0 [.ref s0] [] w (fun v w => sm_R X 0 23 [.ref x0, sm_J] (v.toList ++ [.ref s1, .ref s2]) w Q) := sm_q_call (k := 1) (as := [.ref s0]) (rest := [.ref s1, .ref s2]) d0_20 rfl rfl
theorem d0_23 : decode (sm_code 0) 23 = .ok (.putfield 16, 3) := by decide +kernel
theorem r0_23 {X : sm_X} {w : sm_W} {Q : Option Value → sm_W → Prop} {x0 : Nat} {s0 : Nat} {s1 : Nat} : sm_R X 0 23 [.ref x0, sm_J] [.ref s0, .ref s1] w Q ↔ sm_wp (sm_pfl 6 1 (.ref s0) (sm_at w s1)) (fun c => sm_R X 0 26 [.ref x0, sm_J] [] (w.set (s1 - 100) c) Q) := sm_q_putf d0_23 rfl rfl rfl (by decide)
theorem d0_26 : decode (sm_code 0) 26 = .ok (.aload_n 0, 1) := by decide +kernel
theorem r0_26 {X : sm_X} {w : sm_W} {Q : Option Value → sm_W → Prop} {x0 : Nat} : sm_R X 0 26 [.ref x0, sm_J] [] w Q ↔ sm_R X 0 27 [.ref x0, sm_J] [.ref x0] w Q := sm_R_go d0_26 rfl
theorem d0_27 : decode (sm_code 0) 27 = .ok (.new 19, 3) := by decide +kernel
theorem r0_27 {X : sm_X} {w : sm_W} {Q : Option Value → sm_W → Prop} {x0 : Nat} {s0 : Nat} : sm_R X 0 27 [.ref x0, sm_J] [.ref s0] w Q ↔ sm_R X 0 30 [.ref x0, sm_J] [.ref (100 + w.length), .ref s0] (w ++ [.inr (3, sm_def 3)]) Q := sm_R_go d0_27 rfl
theorem d0_30 : decode (sm_code 0) 30 = .ok (.dup, 1) := by decide +kernel
theorem r0_30 {X : sm_X} {w : sm_W} {Q : Option Value → sm_W → Prop} {x0 : Nat} {s0 : Nat} {s1 : Nat} : sm_R X 0 30 [.ref x0, sm_J] [.ref s0, .ref s1] w Q ↔ sm_R X 0 31 [.ref x0, sm_J] [.ref s0, .ref s0, .ref s1] w Q := sm_R_go d0_30 rfl
theorem d0_31 : decode (sm_code 0) 31 = .ok (.invokespecial 21, 3) := by decide +kernel
theorem r0_31 {X : sm_X} {w : sm_W} {Q : Option Value → sm_W → Prop} {x0 : Nat} {s0 : Nat} {s1 : Nat} {s2 : Nat} : sm_R X 0 31 [.ref x0, sm_J] [.ref s0, .ref s1, .ref s2] w Q ↔ sm_R X 2 0 [.ref s0] [] w (fun v w => sm_R X 0 34 [.ref x0, sm_J] (v.toList ++ [.ref s1, .ref s2]) w Q) := sm_q_call (k := 2) (as := [.ref s0]) (rest := [.ref s1, .ref s2]) d0_31 rfl rfl
theorem d0_34 : decode (sm_code 0) 34 = .ok (.putfield 22, 3) := by decide +kernel
theorem r0_34 {X : sm_X} {w : sm_W} {Q : Option Value → sm_W → Prop} {x0 : Nat} {s0 : Nat} {s1 : Nat} : sm_R X 0 34 [.ref x0, sm_J] [.ref s0, .ref s1] w Q ↔ sm_wp (sm_pfl 6 2 (.ref s0) (sm_at w s1)) (fun c => sm_R X 0 37 [.ref x0, sm_J] [] (w.set (s1 - 100) c) Q) := sm_q_putf d0_34 rfl rfl rfl (by decide)
theorem d0_37 : decode (sm_code 0) 37 = .ok (.aload_n 0, 1) := by decide +kernel
theorem r0_37 {X : sm_X} {w : sm_W} {Q : Option Value → sm_W → Prop} {x0 : Nat} : sm_R X 0 37 [.ref x0, sm_J] [] w Q ↔ sm_R X 0 38 [.ref x0, sm_J] [.ref x0] w Q := sm_R_go d0_37 rfl
theorem d0_38 : decode (sm_code 0) 38 = .ok (.iconst 4, 1) := by decide +kernel
theorem r0_38 {X : sm_X} {w : sm_W} {Q : Option Value → sm_W → Prop} {x0 : Nat} {s0 : Nat} : sm_R X 0 38 [.ref x0, sm_J] [.ref s0] w Q ↔ sm_R X 0 39 [.ref x0, sm_J] [.int 4, .ref s0] w Q := sm_R_go d0_38 rfl
theorem d0_39 : decode (sm_code 0) 39 = .ok (.anewarray 19, 3) := by decide +kernel
theorem r0_39 {X : sm_X} {w : sm_W} {Q : Option Value → sm_W → Prop} {x0 : Nat} {s0 : Int32} {s1 : Nat} (h : ¬ (s0 < 0 ∨ 65536 < s0.toNatClampNeg)) : sm_R X 0 39 [.ref x0, sm_J] [.int s0, .ref s1] w Q ↔ sm_R X 0 42 [.ref x0, sm_J] [.ref (100 + w.length), .ref s1] (w ++ [.inl (3, s0.toNatClampNeg, .inr (.inr (.inr (.inr (fun _ => none)))))]) Q := sm_R_go d0_39 (if_neg h)
theorem d0_42 : decode (sm_code 0) 42 = .ok (.putfield 26, 3) := by decide +kernel
theorem r0_42 {X : sm_X} {w : sm_W} {Q : Option Value → sm_W → Prop} {x0 : Nat} {s0 : Nat} {s1 : Nat} : sm_R X 0 42 [.ref x0, sm_J] [.ref s0, .ref s1] w Q ↔ sm_wp (sm_pfl 6 3 (.ref s0) (sm_at w s1)) (fun c => sm_R X 0 45 [.ref x0, sm_J] [] (w.set (s1 - 100) c) Q) := sm_q_putf d0_42 rfl rfl rfl (by decide)
theorem d0_45 : decode (sm_code 0) 45 = .ok (.iconst 0, 1) := by decide +kernel
theorem r0_45 {X : sm_X} {w : sm_W} {Q : Option Value → sm_W → Prop} {x0 : Nat} : sm_R X 0 45 [.ref x0, sm_J] [] w Q ↔ sm_R X 0 46 [.ref x0, sm_J] [.int 0] w Q := sm_R_go d0_45 rfl
theorem d0_46 : decode (sm_code 0) 46 = .ok (.istore_n 1, 1) := by decide +kernel
theorem r0_46 {X : sm_X} {w : sm_W} {Q : Option Value → sm_W → Prop} {x0 : Nat} {s0 : Int32} : sm_R X 0 46 [.ref x0, sm_J] [.int s0] w Q ↔ sm_R X 0 47 [.ref x0, .int s0] [] w Q := sm_R_go d0_46 rfl
theorem d0_47 : decode (sm_code 0) 47 = .ok (.iload_n 1, 1) := by decide +kernel
theorem r0_47 {X : sm_X} {w : sm_W} {Q : Option Value → sm_W → Prop} {x0 : Nat} {x1 : Int32} : sm_R X 0 47 [.ref x0, .int x1] [] w Q ↔ sm_R X 0 48 [.ref x0, .int x1] [.int x1] w Q := sm_R_go d0_47 rfl
theorem d0_48 : decode (sm_code 0) 48 = .ok (.iconst 4, 1) := by decide +kernel
theorem r0_48 {X : sm_X} {w : sm_W} {Q : Option Value → sm_W → Prop} {x0 : Nat} {x1 : Int32} {s0 : Int32} : sm_R X 0 48 [.ref x0, .int x1] [.int s0] w Q ↔ sm_R X 0 49 [.ref x0, .int x1] [.int 4, .int s0] w Q := sm_R_go d0_48 rfl
theorem d0_49 : decode (sm_code 0) 49 = .ok (.if_icmp .ge 22, 3) := by decide +kernel
theorem r0_49 {X : sm_X} {w : sm_W} {Q : Option Value → sm_W → Prop} {x0 : Nat} {x1 : Int32} {s0 : Int32} {s1 : Int32} : sm_R X 0 49 [.ref x0, .int x1] [.int s0, .int s1] w Q ↔ (if s0 ≤ s1 then sm_R X 0 71 [.ref x0, .int x1] [] w Q else sm_R X 0 52 [.ref x0, .int x1] [] w Q) := sm_q_br d0_49 rfl
theorem d0_52 : decode (sm_code 0) 52 = .ok (.aload_n 0, 1) := by decide +kernel
theorem r0_52 {X : sm_X} {w : sm_W} {Q : Option Value → sm_W → Prop} {x0 : Nat} {x1 : Int32} : sm_R X 0 52 [.ref x0, .int x1] [] w Q ↔ sm_R X 0 53 [.ref x0, .int x1] [.ref x0] w Q := sm_R_go d0_52 rfl
theorem d0_53 : decode (sm_code 0) 53 = .ok (.getfield 26, 3) := by decide +kernel
theorem r0_53 {X : sm_X} {w : sm_W} {Q : Option Value → sm_W → Prop} {x0 : Nat} {x1 : Int32} {s0 : Nat} : sm_R X 0 53 [.ref x0, .int x1] [.ref s0] w Q ↔ sm_wp (sm_fld 6 3 (sm_at w s0)) (fun v => sm_R X 0 56 [.ref x0, .int x1] [v] w Q) := sm_q_getf d0_53 rfl (by decide)
theorem d0_56 : decode (sm_code 0) 56 = .ok (.iload_n 1, 1) := by decide +kernel
theorem r0_56 {X : sm_X} {w : sm_W} {Q : Option Value → sm_W → Prop} {x0 : Nat} {x1 : Int32} {s0 : Nat} : sm_R X 0 56 [.ref x0, .int x1] [.ref s0] w Q ↔ sm_R X 0 57 [.ref x0, .int x1] [.int x1, .ref s0] w Q := sm_R_go d0_56 rfl
theorem d0_57 : decode (sm_code 0) 57 = .ok (.new 19, 3) := by decide +kernel
theorem r0_57 {X : sm_X} {w : sm_W} {Q : Option Value → sm_W → Prop} {x0 : Nat} {x1 : Int32} {s0 : Int32} {s1 : Nat} : sm_R X 0 57 [.ref x0, .int x1] [.int s0, .ref s1] w Q ↔ sm_R X 0 60 [.ref x0, .int x1] [.ref (100 + w.length), .int s0, .ref s1] (w ++ [.inr (3, sm_def 3)]) Q := sm_R_go d0_57 rfl
theorem d0_60 : decode (sm_code 0) 60 = .ok (.dup, 1) := by decide +kernel
theorem r0_60 {X : sm_X} {w : sm_W} {Q : Option Value → sm_W → Prop} {x0 : Nat} {x1 : Int32} {s0 : Nat} {s1 : Int32} {s2 : Nat} : sm_R X 0 60 [.ref x0, .int x1] [.ref s0, .int s1, .ref s2] w Q ↔ sm_R X 0 61 [.ref x0, .int x1] [.ref s0, .ref s0, .int s1, .ref s2] w Q := sm_R_go d0_60 rfl
theorem d0_61 : decode (sm_code 0) 61 = .ok (.invokespecial 21, 3) := by decide +kernel
theorem r0_61 {X : sm_X} {w : sm_W} {Q : Option Value → sm_W → Prop} {x0 : Nat} {x1 : Int32} {s0 : Nat} {s1 : Nat} {s2 : Int32} {s3 : Nat} : sm_R X 0 61 [.ref x0, .int x1] [.ref s0, .ref s1, .int s2, .ref s3] w Q ↔ sm_R X 2 0 [.ref s0] [] w (fun v w => sm_R X 0 64 [.ref x0, .int x1] (v.toList ++ [.ref s1, .int s2, .ref s3]) w Q) := sm_q_call (k := 2) (as := [.ref s0]) (rest := [.ref s1, .int s2, .ref s3]) d0_61 rfl rfl
theorem d0_64 : decode (sm_code 0) 64 = .ok (.aastore, 1) := by decide +kernel
theorem r0_64 {X : sm_X} {w : sm_W} {Q : Option Value → sm_W → Prop} {x0 : Nat} {x1 : Int32} {s0 : Nat} {s1 : Int32} {s2 : Nat} : sm_R X 0 64 [.ref x0, .int x1] [.ref s0, .int s1, .ref s2] w Q ↔ sm_wp (sm_sa s1 s0 (sm_at w s2) (sm_at w s0)) (fun c => sm_R X 0 65 [.ref x0, .int x1] [] (w.set (s2 - 100) c) Q) := sm_q_aast d0_64
theorem d0_65 : decode (sm_code 0) 65 = .ok (.iinc 1 1, 3) := by decide +kernel
theorem r0_65 {X : sm_X} {w : sm_W} {Q : Option Value → sm_W → Prop} {x0 : Nat} {x1 : Int32} : sm_R X 0 65 [.ref x0, .int x1] [] w Q ↔ sm_R X 0 68 [.ref x0, .int (x1 + 1)] [] w Q := sm_R_go d0_65 rfl
theorem d0_68 : decode (sm_code 0) 68 = .ok (.goto (-21), 3) := by decide +kernel
theorem r0_68 {X : sm_X} {w : sm_W} {Q : Option Value → sm_W → Prop} {x0 : Nat} {x1 : Int32} : sm_R X 0 68 [.ref x0, .int x1] [] w Q ↔ sm_R X 0 47 [.ref x0, .int x1] [] w Q := sm_R_go d0_68 rfl
theorem d0_71 : decode (sm_code 0) 71 = .ok (.aload_n 0, 1) := by decide +kernel
theorem r0_71 {X : sm_X} {w : sm_W} {Q : Option Value → sm_W → Prop} {x0 : Nat} {x1 : Int32} : sm_R X 0 71 [.ref x0, .int x1] [] w Q ↔ sm_R X 0 72 [.ref x0, .int x1] [.ref x0] w Q := sm_R_go d0_71 rfl
theorem d0_72 : decode (sm_code 0) 72 = .ok (.new 30, 3) := by decide +kernel
theorem r0_72 {X : sm_X} {w : sm_W} {Q : Option Value → sm_W → Prop} {x0 : Nat} {x1 : Int32} {s0 : Nat} : sm_R X 0 72 [.ref x0, .int x1] [.ref s0] w Q ↔ sm_R X 0 75 [.ref x0, .int x1] [.ref (100 + w.length), .ref s0] (w ++ [.inr (1, sm_def 1)]) Q := sm_R_go d0_72 rfl
theorem d0_75 : decode (sm_code 0) 75 = .ok (.dup, 1) := by decide +kernel
theorem r0_75 {X : sm_X} {w : sm_W} {Q : Option Value → sm_W → Prop} {x0 : Nat} {x1 : Int32} {s0 : Nat} {s1 : Nat} : sm_R X 0 75 [.ref x0, .int x1] [.ref s0, .ref s1] w Q ↔ sm_R X 0 76 [.ref x0, .int x1] [.ref s0, .ref s0, .ref s1] w Q := sm_R_go d0_75 rfl
theorem d0_76 : decode (sm_code 0) 76 = .ok (.invokespecial 32, 3) := by decide +kernel
theorem r0_76 {X : sm_X} {w : sm_W} {Q : Option Value → sm_W → Prop} {x0 : Nat} {x1 : Int32} {s0 : Nat} {s1 : Nat} {s2 : Nat} : sm_R X 0 76 [.ref x0, .int x1] [.ref s0, .ref s1, .ref s2] w Q ↔ sm_R X 3 0 [.ref s0, sm_J] [] w (fun v w => sm_R X 0 79 [.ref x0, .int x1] (v.toList ++ [.ref s1, .ref s2]) w Q) := sm_q_call (k := 3) (as := [.ref s0]) (rest := [.ref s1, .ref s2]) d0_76 rfl rfl
theorem d0_79 : decode (sm_code 0) 79 = .ok (.putfield 33, 3) := by decide +kernel
theorem r0_79 {X : sm_X} {w : sm_W} {Q : Option Value → sm_W → Prop} {x0 : Nat} {x1 : Int32} {s0 : Nat} {s1 : Nat} : sm_R X 0 79 [.ref x0, .int x1] [.ref s0, .ref s1] w Q ↔ sm_wp (sm_pfl 6 4 (.ref s0) (sm_at w s1)) (fun c => sm_R X 0 82 [.ref x0, .int x1] [] (w.set (s1 - 100) c) Q) := sm_q_putf d0_79 rfl rfl rfl (by decide)
theorem d0_82 : decode (sm_code 0) 82 = .ok (.aload_n 0, 1) := by decide +kernel
theorem r0_82 {X : sm_X} {w : sm_W} {Q : Option Value → sm_W → Prop} {x0 : Nat} {x1 : Int32} : sm_R X 0 82 [.ref x0, .int x1] [] w Q ↔ sm_R X 0 83 [.ref x0, .int x1] [.ref x0] w Q := sm_R_go d0_82 rfl
theorem d0_83 : decode (sm_code 0) 83 = .ok (.new 37, 3) := by decide +kernel
theorem r0_83 {X : sm_X} {w : sm_W} {Q : Option Value → sm_W → Prop} {x0 : Nat} {x1 : Int32} {s0 : Nat} : sm_R X 0 83 [.ref x0, .int x1] [.ref s0] w Q ↔ sm_R X 0 86 [.ref x0, .int x1] [.ref (100 + w.length), .ref s0] (w ++ [.inr (2, sm_def 2)]) Q := sm_R_go d0_83 rfl
theorem d0_86 : decode (sm_code 0) 86 = .ok (.dup, 1) := by decide +kernel
theorem r0_86 {X : sm_X} {w : sm_W} {Q : Option Value → sm_W → Prop} {x0 : Nat} {x1 : Int32} {s0 : Nat} {s1 : Nat} : sm_R X 0 86 [.ref x0, .int x1] [.ref s0, .ref s1] w Q ↔ sm_R X 0 87 [.ref x0, .int x1] [.ref s0, .ref s0, .ref s1] w Q := sm_R_go d0_86 rfl
theorem d0_87 : decode (sm_code 0) 87 = .ok (.aload_n 0, 1) := by decide +kernel
theorem r0_87 {X : sm_X} {w : sm_W} {Q : Option Value → sm_W → Prop} {x0 : Nat} {x1 : Int32} {s0 : Nat} {s1 : Nat} {s2 : Nat} : sm_R X 0 87 [.ref x0, .int x1] [.ref s0, .ref s1, .ref s2] w Q ↔ sm_R X 0 88 [.ref x0, .int x1] [.ref x0, .ref s0, .ref s1, .ref s2] w Q := sm_R_go d0_87 rfl
theorem d0_88 : decode (sm_code 0) 88 = .ok (.getfield 10, 3) := by decide +kernel
theorem r0_88 {X : sm_X} {w : sm_W} {Q : Option Value → sm_W → Prop} {x0 : Nat} {x1 : Int32} {s0 : Nat} {s1 : Nat} {s2 : Nat} {s3 : Nat} : sm_R X 0 88 [.ref x0, .int x1] [.ref s0, .ref s1, .ref s2, .ref s3] w Q ↔ sm_wp (sm_fld 6 0 (sm_at w s0)) (fun v => sm_R X 0 91 [.ref x0, .int x1] [v, .ref s1, .ref s2, .ref s3] w Q) := sm_q_getf d0_88 rfl (by decide)
theorem d0_91 : decode (sm_code 0) 91 = .ok (.aload_n 0, 1) := by decide +kernel
theorem r0_91 {X : sm_X} {w : sm_W} {Q : Option Value → sm_W → Prop} {x0 : Nat} {x1 : Int32} {s0 : Nat} {s1 : Nat} {s2 : Nat} {s3 : Nat} : sm_R X 0 91 [.ref x0, .int x1] [.ref s0, .ref s1, .ref s2, .ref s3] w Q ↔ sm_R X 0 92 [.ref x0, .int x1] [.ref x0, .ref s0, .ref s1, .ref s2, .ref s3] w Q := sm_R_go d0_91 rfl
theorem d0_92 : decode (sm_code 0) 92 = .ok (.getfield 33, 3) := by decide +kernel
theorem r0_92 {X : sm_X} {w : sm_W} {Q : Option Value → sm_W → Prop} {x0 : Nat} {x1 : Int32} {s0 : Nat} {s1 : Nat} {s2 : Nat} {s3 : Nat} {s4 : Nat} : sm_R X 0 92 [.ref x0, .int x1] [.ref s0, .ref s1, .ref s2, .ref s3, .ref s4] w Q ↔ sm_wp (sm_fld 6 4 (sm_at w s0)) (fun v => sm_R X 0 95 [.ref x0, .int x1] [v, .ref s1, .ref s2, .ref s3, .ref s4] w Q) := sm_q_getf d0_92 rfl (by decide)
theorem d0_95 : decode (sm_code 0) 95 = .ok (.invokespecial 39, 3) := by decide +kernel
theorem r0_95 {X : sm_X} {w : sm_W} {Q : Option Value → sm_W → Prop} {x0 : Nat} {x1 : Int32} {s0 : Nat} {s1 : Nat} {s2 : Nat} {s3 : Nat} {s4 : Nat} : sm_R X 0 95 [.ref x0, .int x1] [.ref s0, .ref s1, .ref s2, .ref s3, .ref s4] w Q ↔ sm_R X 5 0 [.ref s2, .ref s1, .ref s0] [] w (fun v w => sm_R X 0 98 [.ref x0, .int x1] (v.toList ++ [.ref s3, .ref s4]) w Q) := sm_q_call (k := 5) (as := [.ref s2, .ref s1, .ref s0]) (rest := [.ref s3, .ref s4]) d0_95 rfl rfl
theorem d0_98 : decode (sm_code 0) 98 = .ok (.putfield 42, 3) := by decide +kernel
theorem r0_98 {X : sm_X} {w : sm_W} {Q : Option Value → sm_W → Prop} {x0 : Nat} {x1 : Int32} {s0 : Nat} {s1 : Nat} : sm_R X 0 98 [.ref x0, .int x1] [.ref s0, .ref s1] w Q ↔ sm_wp (sm_pfl 6 5 (.ref s0) (sm_at w s1)) (fun c => sm_R X 0 101 [.ref x0, .int x1] [] (w.set (s1 - 100) c) Q) := sm_q_putf d0_98 rfl rfl rfl (by decide)
theorem d0_101 : decode (sm_code 0) 101 = .ok (.aload_n 0, 1) := by decide +kernel
theorem r0_101 {X : sm_X} {w : sm_W} {Q : Option Value → sm_W → Prop} {x0 : Nat} {x1 : Int32} : sm_R X 0 101 [.ref x0, .int x1] [] w Q ↔ sm_R X 0 102 [.ref x0, .int x1] [.ref x0] w Q := sm_R_go d0_101 rfl
theorem d0_102 : decode (sm_code 0) 102 = .ok (.bipush (-3), 2) := by decide +kernel
theorem r0_102 {X : sm_X} {w : sm_W} {Q : Option Value → sm_W → Prop} {x0 : Nat} {x1 : Int32} {s0 : Nat} : sm_R X 0 102 [.ref x0, .int x1] [.ref s0] w Q ↔ sm_R X 0 104 [.ref x0, .int x1] [.int (-3), .ref s0] w Q := sm_R_go d0_102 rfl
theorem d0_104 : decode (sm_code 0) 104 = .ok (.putfield 46, 3) := by decide +kernel
theorem r0_104 {X : sm_X} {w : sm_W} {Q : Option Value → sm_W → Prop} {x0 : Nat} {x1 : Int32} {s0 : Int32} {s1 : Nat} : sm_R X 0 104 [.ref x0, .int x1] [.int s0, .ref s1] w Q ↔ sm_wp (sm_pfl 6 6 (.int s0) (sm_at w s1)) (fun c => sm_R X 0 107 [.ref x0, .int x1] [] (w.set (s1 - 100) c) Q) := sm_q_putf d0_104 rfl rfl rfl (by decide)
theorem d0_107 : decode (sm_code 0) 107 = .ok (.return_, 1) := by decide +kernel
theorem r0_107 {X : sm_X} {w : sm_W} {Q : Option Value → sm_W → Prop} {x0 : Nat} {x1 : Int32} : sm_R X 0 107 [.ref x0, .int x1] [] w Q ↔ Q none w := sm_R_ret d0_107 rfl
-- GroupLedger$Books.<init>()V
theorem d1_0 : decode (sm_code 1) 0 = .ok (.aload_n 0, 1) := by decide +kernel
theorem r1_0 {X : sm_X} {w : sm_W} {Q : Option Value → sm_W → Prop} {x0 : Nat} : sm_R X 1 0 [.ref x0] [] w Q ↔ sm_R X 1 1 [.ref x0] [.ref x0] w Q := sm_R_go d1_0 rfl
theorem d1_1 : decode (sm_code 1) 1 = .ok (.invokespecial 3, 3) := by decide +kernel
theorem r1_1 {X : sm_X} {w : sm_W} {Q : Option Value → sm_W → Prop} {x0 : Nat} {s0 : Nat} (h : ¬ s0 < 100) : sm_R X 1 1 [.ref x0] [.ref s0] w Q ↔ sm_R X 1 4 [.ref x0] [] w Q := sm_q_obj d1_1 rfl (by decide) (by decide) h
theorem d1_4 : decode (sm_code 1) 4 = .ok (.aload_n 0, 1) := by decide +kernel
theorem r1_4 {X : sm_X} {w : sm_W} {Q : Option Value → sm_W → Prop} {x0 : Nat} : sm_R X 1 4 [.ref x0] [] w Q ↔ sm_R X 1 5 [.ref x0] [.ref x0] w Q := sm_R_go d1_4 rfl
theorem d1_5 : decode (sm_code 1) 5 = .ok (.bipush 6, 2) := by decide +kernel
theorem r1_5 {X : sm_X} {w : sm_W} {Q : Option Value → sm_W → Prop} {x0 : Nat} {s0 : Nat} : sm_R X 1 5 [.ref x0] [.ref s0] w Q ↔ sm_R X 1 7 [.ref x0] [.int 6, .ref s0] w Q := sm_R_go d1_5 rfl
theorem d1_7 : decode (sm_code 1) 7 = .ok (.newarray .int, 2) := by decide +kernel
theorem r1_7 {X : sm_X} {w : sm_W} {Q : Option Value → sm_W → Prop} {x0 : Nat} {s0 : Int32} {s1 : Nat} (h : ¬ (s0 < 0 ∨ 65536 < s0.toNatClampNeg)) : sm_R X 1 7 [.ref x0] [.int s0, .ref s1] w Q ↔ sm_R X 1 9 [.ref x0] [.ref (100 + w.length), .ref s1] (w ++ [.inl (0, s0.toNatClampNeg, .inl (fun _ => 0))]) Q := sm_R_go d1_7 (if_neg h)
theorem d1_9 : decode (sm_code 1) 9 = .ok (.putfield 9, 3) := by decide +kernel
theorem r1_9 {X : sm_X} {w : sm_W} {Q : Option Value → sm_W → Prop} {x0 : Nat} {s0 : Nat} {s1 : Nat} : sm_R X 1 9 [.ref x0] [.ref s0, .ref s1] w Q ↔ sm_wp (sm_pfl 0 0 (.ref s0) (sm_at w s1)) (fun c => sm_R X 1 12 [.ref x0] [] (w.set (s1 - 100) c) Q) := sm_q_putf d1_9 rfl rfl rfl (by decide)
theorem d1_12 : decode (sm_code 1) 12 = .ok (.aload_n 0, 1) := by decide +kernel
theorem r1_12 {X : sm_X} {w : sm_W} {Q : Option Value → sm_W → Prop} {x0 : Nat} : sm_R X 1 12 [.ref x0] [] w Q ↔ sm_R X 1 13 [.ref x0] [.ref x0] w Q := sm_R_go d1_12 rfl
theorem d1_13 : decode (sm_code 1) 13 = .ok (.iconst 4, 1) := by decide +kernel
theorem r1_13 {X : sm_X} {w : sm_W} {Q : Option Value → sm_W → Prop} {x0 : Nat} {s0 : Nat} : sm_R X 1 13 [.ref x0] [.ref s0] w Q ↔ sm_R X 1 14 [.ref x0] [.int 4, .ref s0] w Q := sm_R_go d1_13 rfl
theorem d1_14 : decode (sm_code 1) 14 = .ok (.iconst 4, 1) := by decide +kernel
theorem r1_14 {X : sm_X} {w : sm_W} {Q : Option Value → sm_W → Prop} {x0 : Nat} {s0 : Int32} {s1 : Nat} : sm_R X 1 14 [.ref x0] [.int s0, .ref s1] w Q ↔ sm_R X 1 15 [.ref x0] [.int 4, .int s0, .ref s1] w Q := sm_R_go d1_14 rfl
theorem d1_15 : decode (sm_code 1) 15 = .ok (.multianewarray 15 2, 4) := by decide +kernel
theorem r1_15 {X : sm_X} {w : sm_W} {Q : Option Value → sm_W → Prop} {x0 : Nat} {s0 : Int32} {s1 : Int32} {s2 : Nat} (h : ¬ (s1 < 0 ∨ 65536 < s1.toNatClampNeg ∨ s0 < 0 ∨ 65536 < s0.toNatClampNeg)) : sm_R X 1 15 [.ref x0] [.int s0, .int s1, .ref s2] w Q ↔ sm_R X 1 19 [.ref x0] [.ref (100 + w.length), .ref s2] (w ++ .inl (2, s1.toNatClampNeg, .inr (.inr (.inr (.inr (fun i => if i < s1.toNatClampNeg then some (100 + w.length + 1 + i) else none))))) :: List.replicate s1.toNatClampNeg (.inl (0, s0.toNatClampNeg, .inl (fun _ => 0)))) Q := sm_R_go d1_15 (if_neg (fun q => q.elim (fun q => by cases q) h))
theorem d1_19 : decode (sm_code 1) 19 = .ok (.putfield 17, 3) := by decide +kernel
theorem r1_19 {X : sm_X} {w : sm_W} {Q : Option Value → sm_W → Prop} {x0 : Nat} {s0 : Nat} {s1 : Nat} : sm_R X 1 19 [.ref x0] [.ref s0, .ref s1] w Q ↔ sm_wp (sm_pfl 0 1 (.ref s0) (sm_at w s1)) (fun c => sm_R X 1 22 [.ref x0] [] (w.set (s1 - 100) c) Q) := sm_q_putf d1_19 rfl rfl rfl (by decide)
theorem d1_22 : decode (sm_code 1) 22 = .ok (.aload_n 0, 1) := by decide +kernel
theorem r1_22 {X : sm_X} {w : sm_W} {Q : Option Value → sm_W → Prop} {x0 : Nat} : sm_R X 1 22 [.ref x0] [] w Q ↔ sm_R X 1 23 [.ref x0] [.ref x0] w Q := sm_R_go d1_22 rfl
theorem d1_23 : decode (sm_code 1) 23 = .ok (.iconst 4, 1) := by decide +kernel
theorem r1_23 {X : sm_X} {w : sm_W} {Q : Option Value → sm_W → Prop} {x0 : Nat} {s0 : Nat} : sm_R X 1 23 [.ref x0] [.ref s0] w Q ↔ sm_R X 1 24 [.ref x0] [.int 4, .ref s0] w Q := sm_R_go d1_23 rfl
theorem d1_24 : decode (sm_code 1) 24 = .ok (.bipush 12, 2) := by decide +kernel
theorem r1_24 {X : sm_X} {w : sm_W} {Q : Option Value → sm_W → Prop} {x0 : Nat} {s0 : Int32} {s1 : Nat} : sm_R X 1 24 [.ref x0] [.int s0, .ref s1] w Q ↔ sm_R X 1 26 [.ref x0] [.int 12, .int s0, .ref s1] w Q := sm_R_go d1_24 rfl
theorem d1_26 : decode (sm_code 1) 26 = .ok (.multianewarray 15 2, 4) := by decide +kernel
theorem r1_26 {X : sm_X} {w : sm_W} {Q : Option Value → sm_W → Prop} {x0 : Nat} {s0 : Int32} {s1 : Int32} {s2 : Nat} (h : ¬ (s1 < 0 ∨ 65536 < s1.toNatClampNeg ∨ s0 < 0 ∨ 65536 < s0.toNatClampNeg)) : sm_R X 1 26 [.ref x0] [.int s0, .int s1, .ref s2] w Q ↔ sm_R X 1 30 [.ref x0] [.ref (100 + w.length), .ref s2] (w ++ .inl (2, s1.toNatClampNeg, .inr (.inr (.inr (.inr (fun i => if i < s1.toNatClampNeg then some (100 + w.length + 1 + i) else none))))) :: List.replicate s1.toNatClampNeg (.inl (0, s0.toNatClampNeg, .inl (fun _ => 0)))) Q := sm_R_go d1_26 (if_neg (fun q => q.elim (fun q => by cases q) h))
theorem d1_30 : decode (sm_code 1) 30 = .ok (.putfield 20, 3) := by decide +kernel
theorem r1_30 {X : sm_X} {w : sm_W} {Q : Option Value → sm_W → Prop} {x0 : Nat} {s0 : Nat} {s1 : Nat} : sm_R X 1 30 [.ref x0] [.ref s0, .ref s1] w Q ↔ sm_wp (sm_pfl 0 2 (.ref s0) (sm_at w s1)) (fun c => sm_R X 1 33 [.ref x0] [] (w.set (s1 - 100) c) Q) := sm_q_putf d1_30 rfl rfl rfl (by decide)
theorem d1_33 : decode (sm_code 1) 33 = .ok (.aload_n 0, 1) := by decide +kernel
theorem r1_33 {X : sm_X} {w : sm_W} {Q : Option Value → sm_W → Prop} {x0 : Nat} : sm_R X 1 33 [.ref x0] [] w Q ↔ sm_R X 1 34 [.ref x0] [.ref x0] w Q := sm_R_go d1_33 rfl
theorem d1_34 : decode (sm_code 1) 34 = .ok (.bipush 6, 2) := by decide +kernel
theorem r1_34 {X : sm_X} {w : sm_W} {Q : Option Value → sm_W → Prop} {x0 : Nat} {s0 : Nat} : sm_R X 1 34 [.ref x0] [.ref s0] w Q ↔ sm_R X 1 36 [.ref x0] [.int 6, .ref s0] w Q := sm_R_go d1_34 rfl
theorem d1_36 : decode (sm_code 1) 36 = .ok (.newarray .int, 2) := by decide +kernel
theorem r1_36 {X : sm_X} {w : sm_W} {Q : Option Value → sm_W → Prop} {x0 : Nat} {s0 : Int32} {s1 : Nat} (h : ¬ (s0 < 0 ∨ 65536 < s0.toNatClampNeg)) : sm_R X 1 36 [.ref x0] [.int s0, .ref s1] w Q ↔ sm_R X 1 38 [.ref x0] [.ref (100 + w.length), .ref s1] (w ++ [.inl (0, s0.toNatClampNeg, .inl (fun _ => 0))]) Q := sm_R_go d1_36 (if_neg h)
theorem d1_38 : decode (sm_code 1) 38 = .ok (.putfield 23, 3) := by decide +kernel
theorem r1_38 {X : sm_X} {w : sm_W} {Q : Option Value → sm_W → Prop} {x0 : Nat} {s0 : Nat} {s1 : Nat} : sm_R X 1 38 [.ref x0] [.ref s0, .ref s1] w Q ↔ sm_wp (sm_pfl 0 3 (.ref s0) (sm_at w s1)) (fun c => sm_R X 1 41 [.ref x0] [] (w.set (s1 - 100) c) Q) := sm_q_putf d1_38 rfl rfl rfl (by decide)
theorem d1_41 : decode (sm_code 1) 41 = .ok (.aload_n 0, 1) := by decide +kernel
theorem r1_41 {X : sm_X} {w : sm_W} {Q : Option Value → sm_W → Prop} {x0 : Nat} : sm_R X 1 41 [.ref x0] [] w Q ↔ sm_R X 1 42 [.ref x0] [.ref x0] w Q := sm_R_go d1_41 rfl
theorem d1_42 : decode (sm_code 1) 42 = .ok (.bipush 8, 2) := by decide +kernel
theorem r1_42 {X : sm_X} {w : sm_W} {Q : Option Value → sm_W → Prop} {x0 : Nat} {s0 : Nat} : sm_R X 1 42 [.ref x0] [.ref s0] w Q ↔ sm_R X 1 44 [.ref x0] [.int 8, .ref s0] w Q := sm_R_go d1_42 rfl
theorem d1_44 : decode (sm_code 1) 44 = .ok (.newarray .int, 2) := by decide +kernel
theorem r1_44 {X : sm_X} {w : sm_W} {Q : Option Value → sm_W → Prop} {x0 : Nat} {s0 : Int32} {s1 : Nat} (h : ¬ (s0 < 0 ∨ 65536 < s0.toNatClampNeg)) : sm_R X 1 44 [.ref x0] [.int s0, .ref s1] w Q ↔ sm_R X 1 46 [.ref x0] [.ref (100 + w.length), .ref s1] (w ++ [.inl (0, s0.toNatClampNeg, .inl (fun _ => 0))]) Q := sm_R_go d1_44 (if_neg h)
theorem d1_46 : decode (sm_code 1) 46 = .ok (.putfield 26, 3) := by decide +kernel
theorem r1_46 {X : sm_X} {w : sm_W} {Q : Option Value → sm_W → Prop} {x0 : Nat} {s0 : Nat} {s1 : Nat} : sm_R X 1 46 [.ref x0] [.ref s0, .ref s1] w Q ↔ sm_wp (sm_pfl 0 4 (.ref s0) (sm_at w s1)) (fun c => sm_R X 1 49 [.ref x0] [] (w.set (s1 - 100) c) Q) := sm_q_putf d1_46 rfl rfl rfl (by decide)
theorem d1_49 : decode (sm_code 1) 49 = .ok (.return_, 1) := by decide +kernel
theorem r1_49 {X : sm_X} {w : sm_W} {Q : Option Value → sm_W → Prop} {x0 : Nat} : sm_R X 1 49 [.ref x0] [] w Q ↔ Q none w := sm_R_ret d1_49 rfl
-- GroupLedger$Program.<init>()V
theorem d2_0 : decode (sm_code 2) 0 = .ok (.aload_n 0, 1) := by decide +kernel
theorem r2_0 {X : sm_X} {w : sm_W} {Q : Option Value → sm_W → Prop} {x0 : Nat} : sm_R X 2 0 [.ref x0] [] w Q ↔ sm_R X 2 1 [.ref x0] [.ref x0] w Q := sm_R_go d2_0 rfl
theorem d2_1 : decode (sm_code 2) 1 = .ok (.invokespecial 3, 3) := by decide +kernel
theorem r2_1 {X : sm_X} {w : sm_W} {Q : Option Value → sm_W → Prop} {x0 : Nat} {s0 : Nat} (h : ¬ s0 < 100) : sm_R X 2 1 [.ref x0] [.ref s0] w Q ↔ sm_R X 2 4 [.ref x0] [] w Q := sm_q_obj d2_1 rfl (by decide) (by decide) h
theorem d2_4 : decode (sm_code 2) 4 = .ok (.aload_n 0, 1) := by decide +kernel
theorem r2_4 {X : sm_X} {w : sm_W} {Q : Option Value → sm_W → Prop} {x0 : Nat} : sm_R X 2 4 [.ref x0] [] w Q ↔ sm_R X 2 5 [.ref x0] [.ref x0] w Q := sm_R_go d2_4 rfl
theorem d2_5 : decode (sm_code 2) 5 = .ok (.bipush 32, 2) := by decide +kernel
theorem r2_5 {X : sm_X} {w : sm_W} {Q : Option Value → sm_W → Prop} {x0 : Nat} {s0 : Nat} : sm_R X 2 5 [.ref x0] [.ref s0] w Q ↔ sm_R X 2 7 [.ref x0] [.int 32, .ref s0] w Q := sm_R_go d2_5 rfl
theorem d2_7 : decode (sm_code 2) 7 = .ok (.newarray .int, 2) := by decide +kernel
theorem r2_7 {X : sm_X} {w : sm_W} {Q : Option Value → sm_W → Prop} {x0 : Nat} {s0 : Int32} {s1 : Nat} (h : ¬ (s0 < 0 ∨ 65536 < s0.toNatClampNeg)) : sm_R X 2 7 [.ref x0] [.int s0, .ref s1] w Q ↔ sm_R X 2 9 [.ref x0] [.ref (100 + w.length), .ref s1] (w ++ [.inl (0, s0.toNatClampNeg, .inl (fun _ => 0))]) Q := sm_R_go d2_7 (if_neg h)
theorem d2_9 : decode (sm_code 2) 9 = .ok (.putfield 9, 3) := by decide +kernel
theorem r2_9 {X : sm_X} {w : sm_W} {Q : Option Value → sm_W → Prop} {x0 : Nat} {s0 : Nat} {s1 : Nat} : sm_R X 2 9 [.ref x0] [.ref s0, .ref s1] w Q ↔ sm_wp (sm_pfl 3 0 (.ref s0) (sm_at w s1)) (fun c => sm_R X 2 12 [.ref x0] [] (w.set (s1 - 100) c) Q) := sm_q_putf d2_9 rfl rfl rfl (by decide)
theorem d2_12 : decode (sm_code 2) 12 = .ok (.aload_n 0, 1) := by decide +kernel
theorem r2_12 {X : sm_X} {w : sm_W} {Q : Option Value → sm_W → Prop} {x0 : Nat} : sm_R X 2 12 [.ref x0] [] w Q ↔ sm_R X 2 13 [.ref x0] [.ref x0] w Q := sm_R_go d2_12 rfl
theorem d2_13 : decode (sm_code 2) 13 = .ok (.bipush 32, 2) := by decide +kernel
theorem r2_13 {X : sm_X} {w : sm_W} {Q : Option Value → sm_W → Prop} {x0 : Nat} {s0 : Nat} : sm_R X 2 13 [.ref x0] [.ref s0] w Q ↔ sm_R X 2 15 [.ref x0] [.int 32, .ref s0] w Q := sm_R_go d2_13 rfl
theorem d2_15 : decode (sm_code 2) 15 = .ok (.newarray .int, 2) := by decide +kernel
theorem r2_15 {X : sm_X} {w : sm_W} {Q : Option Value → sm_W → Prop} {x0 : Nat} {s0 : Int32} {s1 : Nat} (h : ¬ (s0 < 0 ∨ 65536 < s0.toNatClampNeg)) : sm_R X 2 15 [.ref x0] [.int s0, .ref s1] w Q ↔ sm_R X 2 17 [.ref x0] [.ref (100 + w.length), .ref s1] (w ++ [.inl (0, s0.toNatClampNeg, .inl (fun _ => 0))]) Q := sm_R_go d2_15 (if_neg h)
theorem d2_17 : decode (sm_code 2) 17 = .ok (.putfield 15, 3) := by decide +kernel
theorem r2_17 {X : sm_X} {w : sm_W} {Q : Option Value → sm_W → Prop} {x0 : Nat} {s0 : Nat} {s1 : Nat} : sm_R X 2 17 [.ref x0] [.ref s0, .ref s1] w Q ↔ sm_wp (sm_pfl 3 1 (.ref s0) (sm_at w s1)) (fun c => sm_R X 2 20 [.ref x0] [] (w.set (s1 - 100) c) Q) := sm_q_putf d2_17 rfl rfl rfl (by decide)
theorem d2_20 : decode (sm_code 2) 20 = .ok (.return_, 1) := by decide +kernel
theorem r2_20 {X : sm_X} {w : sm_W} {Q : Option Value → sm_W → Prop} {x0 : Nat} : sm_R X 2 20 [.ref x0] [] w Q ↔ Q none w := sm_R_ret d2_20 rfl
-- GroupLedger$Group.<init>()V
theorem d3_0 : decode (sm_code 3) 0 = .ok (.aload_n 0, 1) := by decide +kernel
theorem r3_0 {X : sm_X} {w : sm_W} {Q : Option Value → sm_W → Prop} {x0 : Nat} : sm_R X 3 0 [.ref x0, sm_J] [] w Q ↔ sm_R X 3 1 [.ref x0, sm_J] [.ref x0] w Q := sm_R_go d3_0 rfl
theorem d3_1 : decode (sm_code 3) 1 = .ok (.invokespecial 3, 3) := by decide +kernel
theorem r3_1 {X : sm_X} {w : sm_W} {Q : Option Value → sm_W → Prop} {x0 : Nat} {s0 : Nat} (h : ¬ s0 < 100) : sm_R X 3 1 [.ref x0, sm_J] [.ref s0] w Q ↔ sm_R X 3 4 [.ref x0, sm_J] [] w Q := sm_q_obj d3_1 rfl (by decide) (by decide) h
theorem d3_4 : decode (sm_code 3) 4 = .ok (.aload_n 0, 1) := by decide +kernel
theorem r3_4 {X : sm_X} {w : sm_W} {Q : Option Value → sm_W → Prop} {x0 : Nat} : sm_R X 3 4 [.ref x0, sm_J] [] w Q ↔ sm_R X 3 5 [.ref x0, sm_J] [.ref x0] w Q := sm_R_go d3_4 rfl
theorem d3_5 : decode (sm_code 3) 5 = .ok (.iconst 4, 1) := by decide +kernel
theorem r3_5 {X : sm_X} {w : sm_W} {Q : Option Value → sm_W → Prop} {x0 : Nat} {s0 : Nat} : sm_R X 3 5 [.ref x0, sm_J] [.ref s0] w Q ↔ sm_R X 3 6 [.ref x0, sm_J] [.int 4, .ref s0] w Q := sm_R_go d3_5 rfl
theorem d3_6 : decode (sm_code 3) 6 = .ok (.anewarray 9, 3) := by decide +kernel
theorem r3_6 {X : sm_X} {w : sm_W} {Q : Option Value → sm_W → Prop} {x0 : Nat} {s0 : Int32} {s1 : Nat} (h : ¬ (s0 < 0 ∨ 65536 < s0.toNatClampNeg)) : sm_R X 3 6 [.ref x0, sm_J] [.int s0, .ref s1] w Q ↔ sm_R X 3 9 [.ref x0, sm_J] [.ref (100 + w.length), .ref s1] (w ++ [.inl (4, s0.toNatClampNeg, .inr (.inr (.inr (.inr (fun _ => none)))))]) Q := sm_R_go d3_6 (if_neg h)
theorem d3_9 : decode (sm_code 3) 9 = .ok (.putfield 11, 3) := by decide +kernel
theorem r3_9 {X : sm_X} {w : sm_W} {Q : Option Value → sm_W → Prop} {x0 : Nat} {s0 : Nat} {s1 : Nat} : sm_R X 3 9 [.ref x0, sm_J] [.ref s0, .ref s1] w Q ↔ sm_wp (sm_pfl 1 0 (.ref s0) (sm_at w s1)) (fun c => sm_R X 3 12 [.ref x0, sm_J] [] (w.set (s1 - 100) c) Q) := sm_q_putf d3_9 rfl rfl rfl (by decide)
theorem d3_12 : decode (sm_code 3) 12 = .ok (.iconst 0, 1) := by decide +kernel
theorem r3_12 {X : sm_X} {w : sm_W} {Q : Option Value → sm_W → Prop} {x0 : Nat} : sm_R X 3 12 [.ref x0, sm_J] [] w Q ↔ sm_R X 3 13 [.ref x0, sm_J] [.int 0] w Q := sm_R_go d3_12 rfl
theorem d3_13 : decode (sm_code 3) 13 = .ok (.istore_n 1, 1) := by decide +kernel
theorem r3_13 {X : sm_X} {w : sm_W} {Q : Option Value → sm_W → Prop} {x0 : Nat} {s0 : Int32} : sm_R X 3 13 [.ref x0, sm_J] [.int s0] w Q ↔ sm_R X 3 14 [.ref x0, .int s0] [] w Q := sm_R_go d3_13 rfl
theorem d3_14 : decode (sm_code 3) 14 = .ok (.iload_n 1, 1) := by decide +kernel
theorem r3_14 {X : sm_X} {w : sm_W} {Q : Option Value → sm_W → Prop} {x0 : Nat} {x1 : Int32} : sm_R X 3 14 [.ref x0, .int x1] [] w Q ↔ sm_R X 3 15 [.ref x0, .int x1] [.int x1] w Q := sm_R_go d3_14 rfl
theorem d3_15 : decode (sm_code 3) 15 = .ok (.iconst 4, 1) := by decide +kernel
theorem r3_15 {X : sm_X} {w : sm_W} {Q : Option Value → sm_W → Prop} {x0 : Nat} {x1 : Int32} {s0 : Int32} : sm_R X 3 15 [.ref x0, .int x1] [.int s0] w Q ↔ sm_R X 3 16 [.ref x0, .int x1] [.int 4, .int s0] w Q := sm_R_go d3_15 rfl
theorem d3_16 : decode (sm_code 3) 16 = .ok (.if_icmp .ge 22, 3) := by decide +kernel
theorem r3_16 {X : sm_X} {w : sm_W} {Q : Option Value → sm_W → Prop} {x0 : Nat} {x1 : Int32} {s0 : Int32} {s1 : Int32} : sm_R X 3 16 [.ref x0, .int x1] [.int s0, .int s1] w Q ↔ (if s0 ≤ s1 then sm_R X 3 38 [.ref x0, .int x1] [] w Q else sm_R X 3 19 [.ref x0, .int x1] [] w Q) := sm_q_br d3_16 rfl
theorem d3_19 : decode (sm_code 3) 19 = .ok (.aload_n 0, 1) := by decide +kernel
theorem r3_19 {X : sm_X} {w : sm_W} {Q : Option Value → sm_W → Prop} {x0 : Nat} {x1 : Int32} : sm_R X 3 19 [.ref x0, .int x1] [] w Q ↔ sm_R X 3 20 [.ref x0, .int x1] [.ref x0] w Q := sm_R_go d3_19 rfl
theorem d3_20 : decode (sm_code 3) 20 = .ok (.getfield 11, 3) := by decide +kernel
theorem r3_20 {X : sm_X} {w : sm_W} {Q : Option Value → sm_W → Prop} {x0 : Nat} {x1 : Int32} {s0 : Nat} : sm_R X 3 20 [.ref x0, .int x1] [.ref s0] w Q ↔ sm_wp (sm_fld 1 0 (sm_at w s0)) (fun v => sm_R X 3 23 [.ref x0, .int x1] [v] w Q) := sm_q_getf d3_20 rfl (by decide)
theorem d3_23 : decode (sm_code 3) 23 = .ok (.iload_n 1, 1) := by decide +kernel
theorem r3_23 {X : sm_X} {w : sm_W} {Q : Option Value → sm_W → Prop} {x0 : Nat} {x1 : Int32} {s0 : Nat} : sm_R X 3 23 [.ref x0, .int x1] [.ref s0] w Q ↔ sm_R X 3 24 [.ref x0, .int x1] [.int x1, .ref s0] w Q := sm_R_go d3_23 rfl
theorem d3_24 : decode (sm_code 3) 24 = .ok (.new 9, 3) := by decide +kernel
theorem r3_24 {X : sm_X} {w : sm_W} {Q : Option Value → sm_W → Prop} {x0 : Nat} {x1 : Int32} {s0 : Int32} {s1 : Nat} : sm_R X 3 24 [.ref x0, .int x1] [.int s0, .ref s1] w Q ↔ sm_R X 3 27 [.ref x0, .int x1] [.ref (100 + w.length), .int s0, .ref s1] (w ++ [.inr (5, sm_def 5)]) Q := sm_R_go d3_24 rfl
theorem d3_27 : decode (sm_code 3) 27 = .ok (.dup, 1) := by decide +kernel
theorem r3_27 {X : sm_X} {w : sm_W} {Q : Option Value → sm_W → Prop} {x0 : Nat} {x1 : Int32} {s0 : Nat} {s1 : Int32} {s2 : Nat} : sm_R X 3 27 [.ref x0, .int x1] [.ref s0, .int s1, .ref s2] w Q ↔ sm_R X 3 28 [.ref x0, .int x1] [.ref s0, .ref s0, .int s1, .ref s2] w Q := sm_R_go d3_27 rfl
theorem d3_28 : decode (sm_code 3) 28 = .ok (.invokespecial 17, 3) := by decide +kernel
theorem r3_28 {X : sm_X} {w : sm_W} {Q : Option Value → sm_W → Prop} {x0 : Nat} {x1 : Int32} {s0 : Nat} {s1 : Nat} {s2 : Int32} {s3 : Nat} : sm_R X 3 28 [.ref x0, .int x1] [.ref s0, .ref s1, .int s2, .ref s3] w Q ↔ sm_R X 4 0 [.ref s0] [] w (fun v w => sm_R X 3 31 [.ref x0, .int x1] (v.toList ++ [.ref s1, .int s2, .ref s3]) w Q) := sm_q_call (k := 4) (as := [.ref s0]) (rest := [.ref s1, .int s2, .ref s3]) d3_28 rfl rfl
theorem d3_31 : decode (sm_code 3) 31 = .ok (.aastore, 1) := by decide +kernel
theorem r3_31 {X : sm_X} {w : sm_W} {Q : Option Value → sm_W → Prop} {x0 : Nat} {x1 : Int32} {s0 : Nat} {s1 : Int32} {s2 : Nat} : sm_R X 3 31 [.ref x0, .int x1] [.ref s0, .int s1, .ref s2] w Q ↔ sm_wp (sm_sa s1 s0 (sm_at w s2) (sm_at w s0)) (fun c => sm_R X 3 32 [.ref x0, .int x1] [] (w.set (s2 - 100) c) Q) := sm_q_aast d3_31
theorem d3_32 : decode (sm_code 3) 32 = .ok (.iinc 1 1, 3) := by decide +kernel
theorem r3_32 {X : sm_X} {w : sm_W} {Q : Option Value → sm_W → Prop} {x0 : Nat} {x1 : Int32} : sm_R X 3 32 [.ref x0, .int x1] [] w Q ↔ sm_R X 3 35 [.ref x0, .int (x1 + 1)] [] w Q := sm_R_go d3_32 rfl
theorem d3_35 : decode (sm_code 3) 35 = .ok (.goto (-21), 3) := by decide +kernel
theorem r3_35 {X : sm_X} {w : sm_W} {Q : Option Value → sm_W → Prop} {x0 : Nat} {x1 : Int32} : sm_R X 3 35 [.ref x0, .int x1] [] w Q ↔ sm_R X 3 14 [.ref x0, .int x1] [] w Q := sm_R_go d3_35 rfl
theorem d3_38 : decode (sm_code 3) 38 = .ok (.return_, 1) := by decide +kernel
theorem r3_38 {X : sm_X} {w : sm_W} {Q : Option Value → sm_W → Prop} {x0 : Nat} {x1 : Int32} : sm_R X 3 38 [.ref x0, .int x1] [] w Q ↔ Q none w := sm_R_ret d3_38 rfl
-- GroupLedger$Transaction.<init>()V
theorem d4_0 : decode (sm_code 4) 0 = .ok (.aload_n 0, 1) := by decide +kernel
theorem r4_0 {X : sm_X} {w : sm_W} {Q : Option Value → sm_W → Prop} {x0 : Nat} : sm_R X 4 0 [.ref x0] [] w Q ↔ sm_R X 4 1 [.ref x0] [.ref x0] w Q := sm_R_go d4_0 rfl
theorem d4_1 : decode (sm_code 4) 1 = .ok (.invokespecial 3, 3) := by decide +kernel
theorem r4_1 {X : sm_X} {w : sm_W} {Q : Option Value → sm_W → Prop} {x0 : Nat} {s0 : Nat} (h : ¬ s0 < 100) : sm_R X 4 1 [.ref x0] [.ref s0] w Q ↔ sm_R X 4 4 [.ref x0] [] w Q := sm_q_obj d4_1 rfl (by decide) (by decide) h
theorem d4_4 : decode (sm_code 4) 4 = .ok (.aload_n 0, 1) := by decide +kernel
theorem r4_4 {X : sm_X} {w : sm_W} {Q : Option Value → sm_W → Prop} {x0 : Nat} : sm_R X 4 4 [.ref x0] [] w Q ↔ sm_R X 4 5 [.ref x0] [.ref x0] w Q := sm_R_go d4_4 rfl
theorem d4_5 : decode (sm_code 4) 5 = .ok (.iconst 4, 1) := by decide +kernel
theorem r4_5 {X : sm_X} {w : sm_W} {Q : Option Value → sm_W → Prop} {x0 : Nat} {s0 : Nat} : sm_R X 4 5 [.ref x0] [.ref s0] w Q ↔ sm_R X 4 6 [.ref x0] [.int 4, .ref s0] w Q := sm_R_go d4_5 rfl
theorem d4_6 : decode (sm_code 4) 6 = .ok (.newarray .int, 2) := by decide +kernel
theorem r4_6 {X : sm_X} {w : sm_W} {Q : Option Value → sm_W → Prop} {x0 : Nat} {s0 : Int32} {s1 : Nat} (h : ¬ (s0 < 0 ∨ 65536 < s0.toNatClampNeg)) : sm_R X 4 6 [.ref x0] [.int s0, .ref s1] w Q ↔ sm_R X 4 8 [.ref x0] [.ref (100 + w.length), .ref s1] (w ++ [.inl (0, s0.toNatClampNeg, .inl (fun _ => 0))]) Q := sm_R_go d4_6 (if_neg h)
theorem d4_8 : decode (sm_code 4) 8 = .ok (.putfield 9, 3) := by decide +kernel
theorem r4_8 {X : sm_X} {w : sm_W} {Q : Option Value → sm_W → Prop} {x0 : Nat} {s0 : Nat} {s1 : Nat} : sm_R X 4 8 [.ref x0] [.ref s0, .ref s1] w Q ↔ sm_wp (sm_pfl 5 8 (.ref s0) (sm_at w s1)) (fun c => sm_R X 4 11 [.ref x0] [] (w.set (s1 - 100) c) Q) := sm_q_putf d4_8 rfl rfl rfl (by decide)
theorem d4_11 : decode (sm_code 4) 11 = .ok (.return_, 1) := by decide +kernel
theorem r4_11 {X : sm_X} {w : sm_W} {Q : Option Value → sm_W → Prop} {x0 : Nat} : sm_R X 4 11 [.ref x0] [] w Q ↔ Q none w := sm_R_ret d4_11 rfl
-- GroupLedger$Machine.<init>(LGroupLedger$Books;LGroupLedger$Group;)V
theorem d5_0 : decode (sm_code 5) 0 = .ok (.aload_n 0, 1) := by decide +kernel
theorem r5_0 {X : sm_X} {w : sm_W} {Q : Option Value → sm_W → Prop} {x0 : Nat} {x1 : Nat} {x2 : Nat} : sm_R X 5 0 [.ref x0, .ref x1, .ref x2] [] w Q ↔ sm_R X 5 1 [.ref x0, .ref x1, .ref x2] [.ref x0] w Q := sm_R_go d5_0 rfl
theorem d5_1 : decode (sm_code 5) 1 = .ok (.invokespecial 3, 3) := by decide +kernel
theorem r5_1 {X : sm_X} {w : sm_W} {Q : Option Value → sm_W → Prop} {x0 : Nat} {x1 : Nat} {x2 : Nat} {s0 : Nat} (h : ¬ s0 < 100) : sm_R X 5 1 [.ref x0, .ref x1, .ref x2] [.ref s0] w Q ↔ sm_R X 5 4 [.ref x0, .ref x1, .ref x2] [] w Q := sm_q_obj d5_1 rfl (by decide) (by decide) h
theorem d5_4 : decode (sm_code 5) 4 = .ok (.aload_n 0, 1) := by decide +kernel
theorem r5_4 {X : sm_X} {w : sm_W} {Q : Option Value → sm_W → Prop} {x0 : Nat} {x1 : Nat} {x2 : Nat} : sm_R X 5 4 [.ref x0, .ref x1, .ref x2] [] w Q ↔ sm_R X 5 5 [.ref x0, .ref x1, .ref x2] [.ref x0] w Q := sm_R_go d5_4 rfl
theorem d5_5 : decode (sm_code 5) 5 = .ok (.new 9, 3) := by decide +kernel
theorem r5_5 {X : sm_X} {w : sm_W} {Q : Option Value → sm_W → Prop} {x0 : Nat} {x1 : Nat} {x2 : Nat} {s0 : Nat} : sm_R X 5 5 [.ref x0, .ref x1, .ref x2] [.ref s0] w Q ↔ sm_R X 5 8 [.ref x0, .ref x1, .ref x2] [.ref (100 + w.length), .ref s0] (w ++ [.inr (4, sm_def 4)]) Q := sm_R_go d5_5 rfl
theorem d5_8 : decode (sm_code 5) 8 = .ok (.dup, 1) := by decide +kernel
theorem r5_8 {X : sm_X} {w : sm_W} {Q : Option Value → sm_W → Prop} {x0 : Nat} {x1 : Nat} {x2 : Nat} {s0 : Nat} {s1 : Nat} : sm_R X 5 8 [.ref x0, .ref x1, .ref x2] [.ref s0, .ref s1] w Q ↔ sm_R X 5 9 [.ref x0, .ref x1, .ref x2] [.ref s0, .ref s0, .ref s1] w Q := sm_R_go d5_8 rfl
theorem d5_9 : decode (sm_code 5) 9 = .ok (.invokespecial 11, 3) := by decide +kernel
theorem r5_9 {X : sm_X} {w : sm_W} {Q : Option Value → sm_W → Prop} {x0 : Nat} {x1 : Nat} {x2 : Nat} {s0 : Nat} {s1 : Nat} {s2 : Nat} : sm_R X 5 9 [.ref x0, .ref x1, .ref x2] [.ref s0, .ref s1, .ref s2] w Q ↔ sm_R X 6 0 [.ref s0] [] w (fun v w => sm_R X 5 12 [.ref x0, .ref x1, .ref x2] (v.toList ++ [.ref s1, .ref s2]) w Q) := sm_q_call (k := 6) (as := [.ref s0]) (rest := [.ref s1, .ref s2]) d5_9 rfl rfl
theorem d5_12 : decode (sm_code 5) 12 = .ok (.putfield 12, 3) := by decide +kernel
theorem r5_12 {X : sm_X} {w : sm_W} {Q : Option Value → sm_W → Prop} {x0 : Nat} {x1 : Nat} {x2 : Nat} {s0 : Nat} {s1 : Nat} : sm_R X 5 12 [.ref x0, .ref x1, .ref x2] [.ref s0, .ref s1] w Q ↔ sm_wp (sm_pfl 2 2 (.ref s0) (sm_at w s1)) (fun c => sm_R X 5 15 [.ref x0, .ref x1, .ref x2] [] (w.set (s1 - 100) c) Q) := sm_q_putf d5_12 rfl rfl rfl (by decide)
theorem d5_15 : decode (sm_code 5) 15 = .ok (.aload_n 0, 1) := by decide +kernel
theorem r5_15 {X : sm_X} {w : sm_W} {Q : Option Value → sm_W → Prop} {x0 : Nat} {x1 : Nat} {x2 : Nat} : sm_R X 5 15 [.ref x0, .ref x1, .ref x2] [] w Q ↔ sm_R X 5 16 [.ref x0, .ref x1, .ref x2] [.ref x0] w Q := sm_R_go d5_15 rfl
theorem d5_16 : decode (sm_code 5) 16 = .ok (.bipush (-3), 2) := by decide +kernel
theorem r5_16 {X : sm_X} {w : sm_W} {Q : Option Value → sm_W → Prop} {x0 : Nat} {x1 : Nat} {x2 : Nat} {s0 : Nat} : sm_R X 5 16 [.ref x0, .ref x1, .ref x2] [.ref s0] w Q ↔ sm_R X 5 18 [.ref x0, .ref x1, .ref x2] [.int (-3), .ref s0] w Q := sm_R_go d5_16 rfl
theorem d5_18 : decode (sm_code 5) 18 = .ok (.putfield 18, 3) := by decide +kernel
theorem r5_18 {X : sm_X} {w : sm_W} {Q : Option Value → sm_W → Prop} {x0 : Nat} {x1 : Nat} {x2 : Nat} {s0 : Int32} {s1 : Nat} : sm_R X 5 18 [.ref x0, .ref x1, .ref x2] [.int s0, .ref s1] w Q ↔ sm_wp (sm_pfl 2 6 (.int s0) (sm_at w s1)) (fun c => sm_R X 5 21 [.ref x0, .ref x1, .ref x2] [] (w.set (s1 - 100) c) Q) := sm_q_putf d5_18 rfl rfl rfl (by decide)
theorem d5_21 : decode (sm_code 5) 21 = .ok (.aload_n 0, 1) := by decide +kernel
theorem r5_21 {X : sm_X} {w : sm_W} {Q : Option Value → sm_W → Prop} {x0 : Nat} {x1 : Nat} {x2 : Nat} : sm_R X 5 21 [.ref x0, .ref x1, .ref x2] [] w Q ↔ sm_R X 5 22 [.ref x0, .ref x1, .ref x2] [.ref x0] w Q := sm_R_go d5_21 rfl
theorem d5_22 : decode (sm_code 5) 22 = .ok (.aload_n 1, 1) := by decide +kernel
theorem r5_22 {X : sm_X} {w : sm_W} {Q : Option Value → sm_W → Prop} {x0 : Nat} {x1 : Nat} {x2 : Nat} {s0 : Nat} : sm_R X 5 22 [.ref x0, .ref x1, .ref x2] [.ref s0] w Q ↔ sm_R X 5 23 [.ref x0, .ref x1, .ref x2] [.ref x1, .ref s0] w Q := sm_R_go d5_22 rfl
theorem d5_23 : decode (sm_code 5) 23 = .ok (.putfield 22, 3) := by decide +kernel
theorem r5_23 {X : sm_X} {w : sm_W} {Q : Option Value → sm_W → Prop} {x0 : Nat} {x1 : Nat} {x2 : Nat} {s0 : Nat} {s1 : Nat} : sm_R X 5 23 [.ref x0, .ref x1, .ref x2] [.ref s0, .ref s1] w Q ↔ sm_wp (sm_pfl 2 0 (.ref s0) (sm_at w s1)) (fun c => sm_R X 5 26 [.ref x0, .ref x1, .ref x2] [] (w.set (s1 - 100) c) Q) := sm_q_putf d5_23 rfl rfl rfl (by decide)
theorem d5_26 : decode (sm_code 5) 26 = .ok (.aload_n 0, 1) := by decide +kernel
theorem r5_26 {X : sm_X} {w : sm_W} {Q : Option Value → sm_W → Prop} {x0 : Nat} {x1 : Nat} {x2 : Nat} : sm_R X 5 26 [.ref x0, .ref x1, .ref x2] [] w Q ↔ sm_R X 5 27 [.ref x0, .ref x1, .ref x2] [.ref x0] w Q := sm_R_go d5_26 rfl
theorem d5_27 : decode (sm_code 5) 27 = .ok (.aload_n 2, 1) := by decide +kernel
theorem r5_27 {X : sm_X} {w : sm_W} {Q : Option Value → sm_W → Prop} {x0 : Nat} {x1 : Nat} {x2 : Nat} {s0 : Nat} : sm_R X 5 27 [.ref x0, .ref x1, .ref x2] [.ref s0] w Q ↔ sm_R X 5 28 [.ref x0, .ref x1, .ref x2] [.ref x2, .ref s0] w Q := sm_R_go d5_27 rfl
theorem d5_28 : decode (sm_code 5) 28 = .ok (.putfield 26, 3) := by decide +kernel
theorem r5_28 {X : sm_X} {w : sm_W} {Q : Option Value → sm_W → Prop} {x0 : Nat} {x1 : Nat} {x2 : Nat} {s0 : Nat} {s1 : Nat} : sm_R X 5 28 [.ref x0, .ref x1, .ref x2] [.ref s0, .ref s1] w Q ↔ sm_wp (sm_pfl 2 1 (.ref s0) (sm_at w s1)) (fun c => sm_R X 5 31 [.ref x0, .ref x1, .ref x2] [] (w.set (s1 - 100) c) Q) := sm_q_putf d5_28 rfl rfl rfl (by decide)
theorem d5_31 : decode (sm_code 5) 31 = .ok (.aload_n 0, 1) := by decide +kernel
theorem r5_31 {X : sm_X} {w : sm_W} {Q : Option Value → sm_W → Prop} {x0 : Nat} {x1 : Nat} {x2 : Nat} : sm_R X 5 31 [.ref x0, .ref x1, .ref x2] [] w Q ↔ sm_R X 5 32 [.ref x0, .ref x1, .ref x2] [.ref x0] w Q := sm_R_go d5_31 rfl
theorem d5_32 : decode (sm_code 5) 32 = .ok (.aload_n 2, 1) := by decide +kernel
theorem r5_32 {X : sm_X} {w : sm_W} {Q : Option Value → sm_W → Prop} {x0 : Nat} {x1 : Nat} {x2 : Nat} {s0 : Nat} : sm_R X 5 32 [.ref x0, .ref x1, .ref x2] [.ref s0] w Q ↔ sm_R X 5 33 [.ref x0, .ref x1, .ref x2] [.ref x2, .ref s0] w Q := sm_R_go d5_32 rfl
theorem d5_33 : decode (sm_code 5) 33 = .ok (.getfield 30, 3) := by decide +kernel
theorem r5_33 {X : sm_X} {w : sm_W} {Q : Option Value → sm_W → Prop} {x0 : Nat} {x1 : Nat} {x2 : Nat} {s0 : Nat} {s1 : Nat} : sm_R X 5 33 [.ref x0, .ref x1, .ref x2] [.ref s0, .ref s1] w Q ↔ sm_wp (sm_fld 1 0 (sm_at w s0)) (fun v => sm_R X 5 36 [.ref x0, .ref x1, .ref x2] [v, .ref s1] w Q) := sm_q_getf d5_33 rfl (by decide)
theorem d5_36 : decode (sm_code 5) 36 = .ok (.iconst 0, 1) := by decide +kernel
theorem r5_36 {X : sm_X} {w : sm_W} {Q : Option Value → sm_W → Prop} {x0 : Nat} {x1 : Nat} {x2 : Nat} {s0 : Nat} {s1 : Nat} : sm_R X 5 36 [.ref x0, .ref x1, .ref x2] [.ref s0, .ref s1] w Q ↔ sm_R X 5 37 [.ref x0, .ref x1, .ref x2] [.int 0, .ref s0, .ref s1] w Q := sm_R_go d5_36 rfl
theorem d5_37 : decode (sm_code 5) 37 = .ok (.aaload, 1) := by decide +kernel
theorem r5_37 {X : sm_X} {w : sm_W} {Q : Option Value → sm_W → Prop} {x0 : Nat} {x1 : Nat} {x2 : Nat} {s0 : Int32} {s1 : Nat} {s2 : Nat} : sm_R X 5 37 [.ref x0, .ref x1, .ref x2] [.int s0, .ref s1, .ref s2] w Q ↔ sm_wp (sm_aa s1 s0 (sm_get X w s1)) (fun v => sm_R X 5 38 [.ref x0, .ref x1, .ref x2] [.ref v, .ref s2] w Q) := sm_q_aald d5_37
theorem d5_38 : decode (sm_code 5) 38 = .ok (.putfield 36, 3) := by decide +kernel
theorem r5_38 {X : sm_X} {w : sm_W} {Q : Option Value → sm_W → Prop} {x0 : Nat} {x1 : Nat} {x2 : Nat} {s0 : Nat} {s1 : Nat} : sm_R X 5 38 [.ref x0, .ref x1, .ref x2] [.ref s0, .ref s1] w Q ↔ sm_wp (sm_pfl 2 7 (.ref s0) (sm_at w s1)) (fun c => sm_R X 5 41 [.ref x0, .ref x1, .ref x2] [] (w.set (s1 - 100) c) Q) := sm_q_putf d5_38 rfl rfl rfl (by decide)
theorem d5_41 : decode (sm_code 5) 41 = .ok (.return_, 1) := by decide +kernel
theorem r5_41 {X : sm_X} {w : sm_W} {Q : Option Value → sm_W → Prop} {x0 : Nat} {x1 : Nat} {x2 : Nat} : sm_R X 5 41 [.ref x0, .ref x1, .ref x2] [] w Q ↔ Q none w := sm_R_ret d5_41 rfl
-- GroupLedger$Stack.<init>()V
theorem d6_0 : decode (sm_code 6) 0 = .ok (.aload_n 0, 1) := by decide +kernel
theorem r6_0 {X : sm_X} {w : sm_W} {Q : Option Value → sm_W → Prop} {x0 : Nat} : sm_R X 6 0 [.ref x0] [] w Q ↔ sm_R X 6 1 [.ref x0] [.ref x0] w Q := sm_R_go d6_0 rfl
theorem d6_1 : decode (sm_code 6) 1 = .ok (.invokespecial 3, 3) := by decide +kernel
theorem r6_1 {X : sm_X} {w : sm_W} {Q : Option Value → sm_W → Prop} {x0 : Nat} {s0 : Nat} (h : ¬ s0 < 100) : sm_R X 6 1 [.ref x0] [.ref s0] w Q ↔ sm_R X 6 4 [.ref x0] [] w Q := sm_q_obj d6_1 rfl (by decide) (by decide) h
theorem d6_4 : decode (sm_code 6) 4 = .ok (.aload_n 0, 1) := by decide +kernel
theorem r6_4 {X : sm_X} {w : sm_W} {Q : Option Value → sm_W → Prop} {x0 : Nat} : sm_R X 6 4 [.ref x0] [] w Q ↔ sm_R X 6 5 [.ref x0] [.ref x0] w Q := sm_R_go d6_4 rfl
theorem d6_5 : decode (sm_code 6) 5 = .ok (.bipush 8, 2) := by decide +kernel
theorem r6_5 {X : sm_X} {w : sm_W} {Q : Option Value → sm_W → Prop} {x0 : Nat} {s0 : Nat} : sm_R X 6 5 [.ref x0] [.ref s0] w Q ↔ sm_R X 6 7 [.ref x0] [.int 8, .ref s0] w Q := sm_R_go d6_5 rfl
theorem d6_7 : decode (sm_code 6) 7 = .ok (.newarray .int, 2) := by decide +kernel
theorem r6_7 {X : sm_X} {w : sm_W} {Q : Option Value → sm_W → Prop} {x0 : Nat} {s0 : Int32} {s1 : Nat} (h : ¬ (s0 < 0 ∨ 65536 < s0.toNatClampNeg)) : sm_R X 6 7 [.ref x0] [.int s0, .ref s1] w Q ↔ sm_R X 6 9 [.ref x0] [.ref (100 + w.length), .ref s1] (w ++ [.inl (0, s0.toNatClampNeg, .inl (fun _ => 0))]) Q := sm_R_go d6_7 (if_neg h)
theorem d6_9 : decode (sm_code 6) 9 = .ok (.putfield 9, 3) := by decide +kernel
theorem r6_9 {X : sm_X} {w : sm_W} {Q : Option Value → sm_W → Prop} {x0 : Nat} {s0 : Nat} {s1 : Nat} : sm_R X 6 9 [.ref x0] [.ref s0, .ref s1] w Q ↔ sm_wp (sm_pfl 4 0 (.ref s0) (sm_at w s1)) (fun c => sm_R X 6 12 [.ref x0] [] (w.set (s1 - 100) c) Q) := sm_q_putf d6_9 rfl rfl rfl (by decide)
theorem d6_12 : decode (sm_code 6) 12 = .ok (.aload_n 0, 1) := by decide +kernel
theorem r6_12 {X : sm_X} {w : sm_W} {Q : Option Value → sm_W → Prop} {x0 : Nat} : sm_R X 6 12 [.ref x0] [] w Q ↔ sm_R X 6 13 [.ref x0] [.ref x0] w Q := sm_R_go d6_12 rfl
theorem d6_13 : decode (sm_code 6) 13 = .ok (.bipush 8, 2) := by decide +kernel
theorem r6_13 {X : sm_X} {w : sm_W} {Q : Option Value → sm_W → Prop} {x0 : Nat} {s0 : Nat} : sm_R X 6 13 [.ref x0] [.ref s0] w Q ↔ sm_R X 6 15 [.ref x0] [.int 8, .ref s0] w Q := sm_R_go d6_13 rfl
theorem d6_15 : decode (sm_code 6) 15 = .ok (.newarray .int, 2) := by decide +kernel
theorem r6_15 {X : sm_X} {w : sm_W} {Q : Option Value → sm_W → Prop} {x0 : Nat} {s0 : Int32} {s1 : Nat} (h : ¬ (s0 < 0 ∨ 65536 < s0.toNatClampNeg)) : sm_R X 6 15 [.ref x0] [.int s0, .ref s1] w Q ↔ sm_R X 6 17 [.ref x0] [.ref (100 + w.length), .ref s1] (w ++ [.inl (0, s0.toNatClampNeg, .inl (fun _ => 0))]) Q := sm_R_go d6_15 (if_neg h)
theorem d6_17 : decode (sm_code 6) 17 = .ok (.putfield 15, 3) := by decide +kernel
theorem r6_17 {X : sm_X} {w : sm_W} {Q : Option Value → sm_W → Prop} {x0 : Nat} {s0 : Nat} {s1 : Nat} : sm_R X 6 17 [.ref x0] [.ref s0, .ref s1] w Q ↔ sm_wp (sm_pfl 4 1 (.ref s0) (sm_at w s1)) (fun c => sm_R X 6 20 [.ref x0] [] (w.set (s1 - 100) c) Q) := sm_q_putf d6_17 rfl rfl rfl (by decide)
theorem d6_20 : decode (sm_code 6) 20 = .ok (.return_, 1) := by decide +kernel
theorem r6_20 {X : sm_X} {w : sm_W} {Q : Option Value → sm_W → Prop} {x0 : Nat} : sm_R X 6 20 [.ref x0] [] w Q ↔ Q none w := sm_R_ret d6_20 rfl
-- GroupLedger.mint(II)I
theorem d7_0 : decode (sm_code 7) 0 = .ok (.iload_n 1, 1) := by decide +kernel
theorem r7_0 {X : sm_X} {w : sm_W} {Q : Option Value → sm_W → Prop} {x0 : Nat} {x1 : Int32} {x2 : Int32} : sm_R X 7 0 [.ref x0, .int x1, .int x2] [] w Q ↔ sm_R X 7 1 [.ref x0, .int x1, .int x2] [.int x1] w Q := sm_R_go d7_0 rfl
theorem d7_1 : decode (sm_code 7) 1 = .ok (.bipush 6, 2) := by decide +kernel
theorem r7_1 {X : sm_X} {w : sm_W} {Q : Option Value → sm_W → Prop} {x0 : Nat} {x1 : Int32} {x2 : Int32} {s0 : Int32} : sm_R X 7 1 [.ref x0, .int x1, .int x2] [.int s0] w Q ↔ sm_R X 7 3 [.ref x0, .int x1, .int x2] [.int 6, .int s0] w Q := sm_R_go d7_1 rfl
theorem d7_3 : decode (sm_code 7) 3 = .ok (.invokestatic 50, 3) := by decide +kernel
theorem r7_3 {X : sm_X} {w : sm_W} {Q : Option Value → sm_W → Prop} {x0 : Nat} {x1 : Int32} {x2 : Int32} {s0 : Int32} {s1 : Int32} : sm_R X 7 3 [.ref x0, .int x1, .int x2] [.int s0, .int s1] w Q ↔ sm_R X 8 0 [.int s1, .int s0] [] w (fun v w => sm_R X 7 6 [.ref x0, .int x1, .int x2] (v.toList ++ []) w Q) := sm_q_call (k := 8) (as := [.int s1, .int s0]) (rest := []) d7_3 rfl rfl
theorem d7_6 : decode (sm_code 7) 6 = .ok (.ifCond .eq 19, 3) := by decide +kernel
theorem r7_6 {X : sm_X} {w : sm_W} {Q : Option Value → sm_W → Prop} {x0 : Nat} {x1 : Int32} {x2 : Int32} {s0 : Int32} : sm_R X 7 6 [.ref x0, .int x1, .int x2] [.int s0] w Q ↔ (if s0 = 0 then sm_R X 7 25 [.ref x0, .int x1, .int x2] [] w Q else sm_R X 7 9 [.ref x0, .int x1, .int x2] [] w Q) := sm_q_br d7_6 rfl
theorem d7_9 : decode (sm_code 7) 9 = .ok (.iload_n 2, 1) := by decide +kernel
theorem r7_9 {X : sm_X} {w : sm_W} {Q : Option Value → sm_W → Prop} {x0 : Nat} {x1 : Int32} {x2 : Int32} : sm_R X 7 9 [.ref x0, .int x1, .int x2] [] w Q ↔ sm_R X 7 10 [.ref x0, .int x1, .int x2] [.int x2] w Q := sm_R_go d7_9 rfl
theorem d7_10 : decode (sm_code 7) 10 = .ok (.ifCond .lt 15, 3) := by decide +kernel
theorem r7_10 {X : sm_X} {w : sm_W} {Q : Option Value → sm_W → Prop} {x0 : Nat} {x1 : Int32} {x2 : Int32} {s0 : Int32} : sm_R X 7 10 [.ref x0, .int x1, .int x2] [.int s0] w Q ↔ (if s0 < 0 then sm_R X 7 25 [.ref x0, .int x1, .int x2] [] w Q else sm_R X 7 13 [.ref x0, .int x1, .int x2] [] w Q) := sm_q_br d7_10 rfl
theorem d7_13 : decode (sm_code 7) 13 = .ok (.aload_n 0, 1) := by decide +kernel
theorem r7_13 {X : sm_X} {w : sm_W} {Q : Option Value → sm_W → Prop} {x0 : Nat} {x1 : Int32} {x2 : Int32} : sm_R X 7 13 [.ref x0, .int x1, .int x2] [] w Q ↔ sm_R X 7 14 [.ref x0, .int x1, .int x2] [.ref x0] w Q := sm_R_go d7_13 rfl
theorem d7_14 : decode (sm_code 7) 14 = .ok (.getfield 10, 3) := by decide +kernel
theorem r7_14 {X : sm_X} {w : sm_W} {Q : Option Value → sm_W → Prop} {x0 : Nat} {x1 : Int32} {x2 : Int32} {s0 : Nat} : sm_R X 7 14 [.ref x0, .int x1, .int x2] [.ref s0] w Q ↔ sm_wp (sm_fld 6 0 (sm_at w s0)) (fun v => sm_R X 7 17 [.ref x0, .int x1, .int x2] [v] w Q) := sm_q_getf d7_14 rfl (by decide)
theorem d7_17 : decode (sm_code 7) 17 = .ok (.iload_n 1, 1) := by decide +kernel
theorem r7_17 {X : sm_X} {w : sm_W} {Q : Option Value → sm_W → Prop} {x0 : Nat} {x1 : Int32} {x2 : Int32} {s0 : Nat} : sm_R X 7 17 [.ref x0, .int x1, .int x2] [.ref s0] w Q ↔ sm_R X 7 18 [.ref x0, .int x1, .int x2] [.int x1, .ref s0] w Q := sm_R_go d7_17 rfl
theorem d7_18 : decode (sm_code 7) 18 = .ok (.iload_n 2, 1) := by decide +kernel
theorem r7_18 {X : sm_X} {w : sm_W} {Q : Option Value → sm_W → Prop} {x0 : Nat} {x1 : Int32} {x2 : Int32} {s0 : Int32} {s1 : Nat} : sm_R X 7 18 [.ref x0, .int x1, .int x2] [.int s0, .ref s1] w Q ↔ sm_R X 7 19 [.ref x0, .int x1, .int x2] [.int x2, .int s0, .ref s1] w Q := sm_R_go d7_18 rfl
theorem d7_19 : decode (sm_code 7) 19 = .ok (.invokevirtual 54, 3) := by decide +kernel
theorem r7_19 {X : sm_X} {w : sm_W} {Q : Option Value → sm_W → Prop} {x0 : Nat} {x1 : Int32} {x2 : Int32} {s0 : Int32} {s1 : Int32} {s2 : Nat} : sm_R X 7 19 [.ref x0, .int x1, .int x2] [.int s0, .int s1, .ref s2] w Q ↔ (sm_cN (sm_at w s2) = some 0 ∧ sm_R X 9 0 [.ref s2, .int s1, .int s0] [] w (fun v w => sm_R X 7 22 [.ref x0, .int x1, .int x2] (v.toList ++ []) w Q)) := sm_q_vir (k := 9) (as := [.ref s2, .int s1, .int s0]) (rest := []) d7_19 rfl rfl rfl rfl rfl
theorem d7_22 : decode (sm_code 7) 22 = .ok (.ifCond .ne 5, 3) := by decide +kernel
theorem r7_22 {X : sm_X} {w : sm_W} {Q : Option Value → sm_W → Prop} {x0 : Nat} {x1 : Int32} {x2 : Int32} {s0 : Int32} : sm_R X 7 22 [.ref x0, .int x1, .int x2] [.int s0] w Q ↔ (if s0 = 0 then sm_R X 7 25 [.ref x0, .int x1, .int x2] [] w Q else sm_R X 7 27 [.ref x0, .int x1, .int x2] [] w Q) := sm_q_br d7_22 rfl
theorem d7_25 : decode (sm_code 7) 25 = .ok (.iconst (-1), 1) := by decide +kernel
theorem r7_25 {X : sm_X} {w : sm_W} {Q : Option Value → sm_W → Prop} {x0 : Nat} {x1 : Int32} {x2 : Int32} : sm_R X 7 25 [.ref x0, .int x1, .int x2] [] w Q ↔ sm_R X 7 26 [.ref x0, .int x1, .int x2] [.int (-1)] w Q := sm_R_go d7_25 rfl
theorem d7_26 : decode (sm_code 7) 26 = .ok (.ireturn, 1) := by decide +kernel
theorem r7_26 {X : sm_X} {w : sm_W} {Q : Option Value → sm_W → Prop} {x0 : Nat} {x1 : Int32} {x2 : Int32} {s0 : Int32} : sm_R X 7 26 [.ref x0, .int x1, .int x2] [.int s0] w Q ↔ Q (some (.int s0)) w := sm_q_iret d7_26 rfl
theorem d7_27 : decode (sm_code 7) 27 = .ok (.aload_n 0, 1) := by decide +kernel
theorem r7_27 {X : sm_X} {w : sm_W} {Q : Option Value → sm_W → Prop} {x0 : Nat} {x1 : Int32} {x2 : Int32} : sm_R X 7 27 [.ref x0, .int x1, .int x2] [] w Q ↔ sm_R X 7 28 [.ref x0, .int x1, .int x2] [.ref x0] w Q := sm_R_go d7_27 rfl
theorem d7_28 : decode (sm_code 7) 28 = .ok (.getfield 10, 3) := by decide +kernel
theorem r7_28 {X : sm_X} {w : sm_W} {Q : Option Value → sm_W → Prop} {x0 : Nat} {x1 : Int32} {x2 : Int32} {s0 : Nat} : sm_R X 7 28 [.ref x0, .int x1, .int x2] [.ref s0] w Q ↔ sm_wp (sm_fld 6 0 (sm_at w s0)) (fun v => sm_R X 7 31 [.ref x0, .int x1, .int x2] [v] w Q) := sm_q_getf d7_28 rfl (by decide)
theorem d7_31 : decode (sm_code 7) 31 = .ok (.getfield 57, 3) := by decide +kernel
theorem r7_31 {X : sm_X} {w : sm_W} {Q : Option Value → sm_W → Prop} {x0 : Nat} {x1 : Int32} {x2 : Int32} {s0 : Nat} : sm_R X 7 31 [.ref x0, .int x1, .int x2] [.ref s0] w Q ↔ sm_wp (sm_fld 0 0 (sm_at w s0)) (fun v => sm_R X 7 34 [.ref x0, .int x1, .int x2] [v] w Q) := sm_q_getf d7_31 rfl (by decide)
theorem d7_34 : decode (sm_code 7) 34 = .ok (.iload_n 1, 1) := by decide +kernel
theorem r7_34 {X : sm_X} {w : sm_W} {Q : Option Value → sm_W → Prop} {x0 : Nat} {x1 : Int32} {x2 : Int32} {s0 : Nat} : sm_R X 7 34 [.ref x0, .int x1, .int x2] [.ref s0] w Q ↔ sm_R X 7 35 [.ref x0, .int x1, .int x2] [.int x1, .ref s0] w Q := sm_R_go d7_34 rfl
theorem d7_35 : decode (sm_code 7) 35 = .ok (.dup2, 1) := by decide +kernel
theorem r7_35 {X : sm_X} {w : sm_W} {Q : Option Value → sm_W → Prop} {x0 : Nat} {x1 : Int32} {x2 : Int32} {s0 : Int32} {s1 : Nat} : sm_R X 7 35 [.ref x0, .int x1, .int x2] [.int s0, .ref s1] w Q ↔ sm_R X 7 36 [.ref x0, .int x1, .int x2] [.int s0, .ref s1, .int s0, .ref s1] w Q := sm_R_go d7_35 rfl
theorem d7_36 : decode (sm_code 7) 36 = .ok (.iaload, 1) := by decide +kernel
theorem r7_36 {X : sm_X} {w : sm_W} {Q : Option Value → sm_W → Prop} {x0 : Nat} {x1 : Int32} {x2 : Int32} {s0 : Int32} {s1 : Nat} {s2 : Int32} {s3 : Nat} : sm_R X 7 36 [.ref x0, .int x1, .int x2] [.int s0, .ref s1, .int s2, .ref s3] w Q ↔ sm_wp (sm_ai s0 (sm_get X w s1)) (fun v => sm_R X 7 37 [.ref x0, .int x1, .int x2] [.int v, .int s2, .ref s3] w Q) := sm_q_iald d7_36
theorem d7_37 : decode (sm_code 7) 37 = .ok (.iload_n 2, 1) := by decide +kernel
theorem r7_37 {X : sm_X} {w : sm_W} {Q : Option Value → sm_W → Prop} {x0 : Nat} {x1 : Int32} {x2 : Int32} {s0 : Int32} {s1 : Int32} {s2 : Nat} : sm_R X 7 37 [.ref x0, .int x1, .int x2] [.int s0, .int s1, .ref s2] w Q ↔ sm_R X 7 38 [.ref x0, .int x1, .int x2] [.int x2, .int s0, .int s1, .ref s2] w Q := sm_R_go d7_37 rfl
theorem d7_38 : decode (sm_code 7) 38 = .ok (.iadd, 1) := by decide +kernel
theorem r7_38 {X : sm_X} {w : sm_W} {Q : Option Value → sm_W → Prop} {x0 : Nat} {x1 : Int32} {x2 : Int32} {s0 : Int32} {s1 : Int32} {s2 : Int32} {s3 : Nat} : sm_R X 7 38 [.ref x0, .int x1, .int x2] [.int s0, .int s1, .int s2, .ref s3] w Q ↔ sm_R X 7 39 [.ref x0, .int x1, .int x2] [.int (s1 + s0), .int s2, .ref s3] w Q := sm_R_go d7_38 rfl
theorem d7_39 : decode (sm_code 7) 39 = .ok (.iastore, 1) := by decide +kernel
theorem r7_39 {X : sm_X} {w : sm_W} {Q : Option Value → sm_W → Prop} {x0 : Nat} {x1 : Int32} {x2 : Int32} {s0 : Int32} {s1 : Int32} {s2 : Nat} : sm_R X 7 39 [.ref x0, .int x1, .int x2] [.int s0, .int s1, .ref s2] w Q ↔ sm_wp (sm_si s1 s0 (sm_at w s2)) (fun c => sm_R X 7 40 [.ref x0, .int x1, .int x2] [] (w.set (s2 - 100) c) Q) := sm_q_iast d7_39
theorem d7_40 : decode (sm_code 7) 40 = .ok (.aload_n 0, 1) := by decide +kernel
theorem r7_40 {X : sm_X} {w : sm_W} {Q : Option Value → sm_W → Prop} {x0 : Nat} {x1 : Int32} {x2 : Int32} : sm_R X 7 40 [.ref x0, .int x1, .int x2] [] w Q ↔ sm_R X 7 41 [.ref x0, .int x1, .int x2] [.ref x0] w Q := sm_R_go d7_40 rfl
theorem d7_41 : decode (sm_code 7) 41 = .ok (.getfield 10, 3) := by decide +kernel
theorem r7_41 {X : sm_X} {w : sm_W} {Q : Option Value → sm_W → Prop} {x0 : Nat} {x1 : Int32} {x2 : Int32} {s0 : Nat} : sm_R X 7 41 [.ref x0, .int x1, .int x2] [.ref s0] w Q ↔ sm_wp (sm_fld 6 0 (sm_at w s0)) (fun v => sm_R X 7 44 [.ref x0, .int x1, .int x2] [v] w Q) := sm_q_getf d7_41 rfl (by decide)
theorem d7_44 : decode (sm_code 7) 44 = .ok (.getfield 57, 3) := by decide +kernel
theorem r7_44 {X : sm_X} {w : sm_W} {Q : Option Value → sm_W → Prop} {x0 : Nat} {x1 : Int32} {x2 : Int32} {s0 : Nat} : sm_R X 7 44 [.ref x0, .int x1, .int x2] [.ref s0] w Q ↔ sm_wp (sm_fld 0 0 (sm_at w s0)) (fun v => sm_R X 7 47 [.ref x0, .int x1, .int x2] [v] w Q) := sm_q_getf d7_44 rfl (by decide)
theorem d7_47 : decode (sm_code 7) 47 = .ok (.iload_n 1, 1) := by decide +kernel
theorem r7_47 {X : sm_X} {w : sm_W} {Q : Option Value → sm_W → Prop} {x0 : Nat} {x1 : Int32} {x2 : Int32} {s0 : Nat} : sm_R X 7 47 [.ref x0, .int x1, .int x2] [.ref s0] w Q ↔ sm_R X 7 48 [.ref x0, .int x1, .int x2] [.int x1, .ref s0] w Q := sm_R_go d7_47 rfl
theorem d7_48 : decode (sm_code 7) 48 = .ok (.iaload, 1) := by decide +kernel
theorem r7_48 {X : sm_X} {w : sm_W} {Q : Option Value → sm_W → Prop} {x0 : Nat} {x1 : Int32} {x2 : Int32} {s0 : Int32} {s1 : Nat} : sm_R X 7 48 [.ref x0, .int x1, .int x2] [.int s0, .ref s1] w Q ↔ sm_wp (sm_ai s0 (sm_get X w s1)) (fun v => sm_R X 7 49 [.ref x0, .int x1, .int x2] [.int v] w Q) := sm_q_iald d7_48
theorem d7_49 : decode (sm_code 7) 49 = .ok (.ireturn, 1) := by decide +kernel
theorem r7_49 {X : sm_X} {w : sm_W} {Q : Option Value → sm_W → Prop} {x0 : Nat} {x1 : Int32} {x2 : Int32} {s0 : Int32} : sm_R X 7 49 [.ref x0, .int x1, .int x2] [.int s0] w Q ↔ Q (some (.int s0)) w := sm_q_iret d7_49 rfl
-- GroupLedger.isBelow(II)Z
theorem d8_0 : decode (sm_code 8) 0 = .ok (.iload_n 0, 1) := by decide +kernel
theorem r8_0 {X : sm_X} {w : sm_W} {Q : Option Value → sm_W → Prop} {x0 : Int32} {x1 : Int32} : sm_R X 8 0 [.int x0, .int x1] [] w Q ↔ sm_R X 8 1 [.int x0, .int x1] [.int x0] w Q := sm_R_go d8_0 rfl
theorem d8_1 : decode (sm_code 8) 1 = .ok (.ifCond .lt 12, 3) := by decide +kernel
theorem r8_1 {X : sm_X} {w : sm_W} {Q : Option Value → sm_W → Prop} {x0 : Int32} {x1 : Int32} {s0 : Int32} : sm_R X 8 1 [.int x0, .int x1] [.int s0] w Q ↔ (if s0 < 0 then sm_R X 8 13 [.int x0, .int x1] [] w Q else sm_R X 8 4 [.int x0, .int x1] [] w Q) := sm_q_br d8_1 rfl
theorem d8_4 : decode (sm_code 8) 4 = .ok (.iload_n 0, 1) := by decide +kernel
theorem r8_4 {X : sm_X} {w : sm_W} {Q : Option Value → sm_W → Prop} {x0 : Int32} {x1 : Int32} : sm_R X 8 4 [.int x0, .int x1] [] w Q ↔ sm_R X 8 5 [.int x0, .int x1] [.int x0] w Q := sm_R_go d8_4 rfl
theorem d8_5 : decode (sm_code 8) 5 = .ok (.iload_n 1, 1) := by decide +kernel
theorem r8_5 {X : sm_X} {w : sm_W} {Q : Option Value → sm_W → Prop} {x0 : Int32} {x1 : Int32} {s0 : Int32} : sm_R X 8 5 [.int x0, .int x1] [.int s0] w Q ↔ sm_R X 8 6 [.int x0, .int x1] [.int x1, .int s0] w Q := sm_R_go d8_5 rfl
theorem d8_6 : decode (sm_code 8) 6 = .ok (.if_icmp .ge 7, 3) := by decide +kernel
theorem r8_6 {X : sm_X} {w : sm_W} {Q : Option Value → sm_W → Prop} {x0 : Int32} {x1 : Int32} {s0 : Int32} {s1 : Int32} : sm_R X 8 6 [.int x0, .int x1] [.int s0, .int s1] w Q ↔ (if s0 ≤ s1 then sm_R X 8 13 [.int x0, .int x1] [] w Q else sm_R X 8 9 [.int x0, .int x1] [] w Q) := sm_q_br d8_6 rfl
theorem d8_9 : decode (sm_code 8) 9 = .ok (.iconst 1, 1) := by decide +kernel
theorem r8_9 {X : sm_X} {w : sm_W} {Q : Option Value → sm_W → Prop} {x0 : Int32} {x1 : Int32} : sm_R X 8 9 [.int x0, .int x1] [] w Q ↔ sm_R X 8 10 [.int x0, .int x1] [.int 1] w Q := sm_R_go d8_9 rfl
theorem d8_10 : decode (sm_code 8) 10 = .ok (.goto 4, 3) := by decide +kernel
theorem r8_10 {X : sm_X} {w : sm_W} {Q : Option Value → sm_W → Prop} {x0 : Int32} {x1 : Int32} {s0 : Int32} : sm_R X 8 10 [.int x0, .int x1] [.int s0] w Q ↔ sm_R X 8 14 [.int x0, .int x1] [.int s0] w Q := sm_R_go d8_10 rfl
theorem d8_13 : decode (sm_code 8) 13 = .ok (.iconst 0, 1) := by decide +kernel
theorem r8_13 {X : sm_X} {w : sm_W} {Q : Option Value → sm_W → Prop} {x0 : Int32} {x1 : Int32} : sm_R X 8 13 [.int x0, .int x1] [] w Q ↔ sm_R X 8 14 [.int x0, .int x1] [.int 0] w Q := sm_R_go d8_13 rfl
theorem d8_14 : decode (sm_code 8) 14 = .ok (.ireturn, 1) := by decide +kernel
theorem r8_14 {X : sm_X} {w : sm_W} {Q : Option Value → sm_W → Prop} {x0 : Int32} {x1 : Int32} {s0 : Int32} (h : s0 = 0 ∨ s0 = 1) : sm_R X 8 14 [.int x0, .int x1] [.int s0] w Q ↔ Q (some (.int s0)) w := sm_q_zret d8_14 rfl h
-- GroupLedger$Books.hasRoomFor(II)Z
theorem d9_0 : decode (sm_code 9) 0 = .ok (.aload_n 0, 1) := by decide +kernel
theorem r9_0 {X : sm_X} {w : sm_W} {Q : Option Value → sm_W → Prop} {x0 : Nat} {x1 : Int32} {x2 : Int32} : sm_R X 9 0 [.ref x0, .int x1, .int x2] [] w Q ↔ sm_R X 9 1 [.ref x0, .int x1, .int x2] [.ref x0] w Q := sm_R_go d9_0 rfl
theorem d9_1 : decode (sm_code 9) 1 = .ok (.getfield 9, 3) := by decide +kernel
theorem r9_1 {X : sm_X} {w : sm_W} {Q : Option Value → sm_W → Prop} {x0 : Nat} {x1 : Int32} {x2 : Int32} {s0 : Nat} : sm_R X 9 1 [.ref x0, .int x1, .int x2] [.ref s0] w Q ↔ sm_wp (sm_fld 0 0 (sm_at w s0)) (fun v => sm_R X 9 4 [.ref x0, .int x1, .int x2] [v] w Q) := sm_q_getf d9_1 rfl (by decide)
theorem d9_4 : decode (sm_code 9) 4 = .ok (.iload_n 1, 1) := by decide +kernel
theorem r9_4 {X : sm_X} {w : sm_W} {Q : Option Value → sm_W → Prop} {x0 : Nat} {x1 : Int32} {x2 : Int32} {s0 : Nat} : sm_R X 9 4 [.ref x0, .int x1, .int x2] [.ref s0] w Q ↔ sm_R X 9 5 [.ref x0, .int x1, .int x2] [.int x1, .ref s0] w Q := sm_R_go d9_4 rfl
theorem d9_5 : decode (sm_code 9) 5 = .ok (.iaload, 1) := by decide +kernel
theorem r9_5 {X : sm_X} {w : sm_W} {Q : Option Value → sm_W → Prop} {x0 : Nat} {x1 : Int32} {x2 : Int32} {s0 : Int32} {s1 : Nat} : sm_R X 9 5 [.ref x0, .int x1, .int x2] [.int s0, .ref s1] w Q ↔ sm_wp (sm_ai s0 (sm_get X w s1)) (fun v => sm_R X 9 6 [.ref x0, .int x1, .int x2] [.int v] w Q) := sm_q_iald d9_5
theorem d9_6 : decode (sm_code 9) 6 = .ok (.ldc 39, 2) := by decide +kernel
theorem r9_6 {X : sm_X} {w : sm_W} {Q : Option Value → sm_W → Prop} {x0 : Nat} {x1 : Int32} {x2 : Int32} {s0 : Int32} : sm_R X 9 6 [.ref x0, .int x1, .int x2] [.int s0] w Q ↔ sm_R X 9 8 [.ref x0, .int x1, .int x2] [.int 2147483647, .int s0] w Q := sm_R_go d9_6 rfl
theorem d9_8 : decode (sm_code 9) 8 = .ok (.iload_n 2, 1) := by decide +kernel
theorem r9_8 {X : sm_X} {w : sm_W} {Q : Option Value → sm_W → Prop} {x0 : Nat} {x1 : Int32} {x2 : Int32} {s0 : Int32} {s1 : Int32} : sm_R X 9 8 [.ref x0, .int x1, .int x2] [.int s0, .int s1] w Q ↔ sm_R X 9 9 [.ref x0, .int x1, .int x2] [.int x2, .int s0, .int s1] w Q := sm_R_go d9_8 rfl
theorem d9_9 : decode (sm_code 9) 9 = .ok (.isub, 1) := by decide +kernel
theorem r9_9 {X : sm_X} {w : sm_W} {Q : Option Value → sm_W → Prop} {x0 : Nat} {x1 : Int32} {x2 : Int32} {s0 : Int32} {s1 : Int32} {s2 : Int32} : sm_R X 9 9 [.ref x0, .int x1, .int x2] [.int s0, .int s1, .int s2] w Q ↔ sm_R X 9 10 [.ref x0, .int x1, .int x2] [.int (s1 - s0), .int s2] w Q := sm_R_go d9_9 rfl
theorem d9_10 : decode (sm_code 9) 10 = .ok (.if_icmp .gt 7, 3) := by decide +kernel
theorem r9_10 {X : sm_X} {w : sm_W} {Q : Option Value → sm_W → Prop} {x0 : Nat} {x1 : Int32} {x2 : Int32} {s0 : Int32} {s1 : Int32} : sm_R X 9 10 [.ref x0, .int x1, .int x2] [.int s0, .int s1] w Q ↔ (if s0 < s1 then sm_R X 9 17 [.ref x0, .int x1, .int x2] [] w Q else sm_R X 9 13 [.ref x0, .int x1, .int x2] [] w Q) := sm_q_br d9_10 rfl
theorem d9_13 : decode (sm_code 9) 13 = .ok (.iconst 1, 1) := by decide +kernel
theorem r9_13 {X : sm_X} {w : sm_W} {Q : Option Value → sm_W → Prop} {x0 : Nat} {x1 : Int32} {x2 : Int32} : sm_R X 9 13 [.ref x0, .int x1, .int x2] [] w Q ↔ sm_R X 9 14 [.ref x0, .int x1, .int x2] [.int 1] w Q := sm_R_go d9_13 rfl
theorem d9_14 : decode (sm_code 9) 14 = .ok (.goto 4, 3) := by decide +kernel
theorem r9_14 {X : sm_X} {w : sm_W} {Q : Option Value → sm_W → Prop} {x0 : Nat} {x1 : Int32} {x2 : Int32} {s0 : Int32} : sm_R X 9 14 [.ref x0, .int x1, .int x2] [.int s0] w Q ↔ sm_R X 9 18 [.ref x0, .int x1, .int x2] [.int s0] w Q := sm_R_go d9_14 rfl
theorem d9_17 : decode (sm_code 9) 17 = .ok (.iconst 0, 1) := by decide +kernel
theorem r9_17 {X : sm_X} {w : sm_W} {Q : Option Value → sm_W → Prop} {x0 : Nat} {x1 : Int32} {x2 : Int32} : sm_R X 9 17 [.ref x0, .int x1, .int x2] [] w Q ↔ sm_R X 9 18 [.ref x0, .int x1, .int x2] [.int 0] w Q := sm_R_go d9_17 rfl
theorem d9_18 : decode (sm_code 9) 18 = .ok (.ireturn, 1) := by decide +kernel
theorem r9_18 {X : sm_X} {w : sm_W} {Q : Option Value → sm_W → Prop} {x0 : Nat} {x1 : Int32} {x2 : Int32} {s0 : Int32} (h : s0 = 0 ∨ s0 = 1) : sm_R X 9 18 [.ref x0, .int x1, .int x2] [.int s0] w Q ↔ Q (some (.int s0)) w := sm_q_zret d9_18 rfl h
-- GroupLedger.emit(II)I
theorem d10_0 : decode (sm_code 10) 0 = .ok (.iload_n 1, 1) := by decide +kernel
theorem r10_0 {X : sm_X} {w : sm_W} {Q : Option Value → sm_W → Prop} {x0 : Nat} {x1 : Int32} {x2 : Int32} : sm_R X 10 0 [.ref x0, .int x1, .int x2] [] w Q ↔ sm_R X 10 1 [.ref x0, .int x1, .int x2] [.int x1] w Q := sm_R_go d10_0 rfl
theorem d10_1 : decode (sm_code 10) 1 = .ok (.getstatic 61, 3) := by decide +kernel
theorem r10_1 {X : sm_X} {w : sm_W} {Q : Option Value → sm_W → Prop} {x0 : Nat} {x1 : Int32} {x2 : Int32} {s0 : Int32} : sm_R X 10 1 [.ref x0, .int x1, .int x2] [.int s0] w Q ↔ sm_R X 10 4 [.ref x0, .int x1, .int x2] [.ref 98, .int s0] w Q := sm_R_go d10_1 rfl
theorem d10_4 : decode (sm_code 10) 4 = .ok (.arraylength, 1) := by decide +kernel
theorem r10_4 {X : sm_X} {w : sm_W} {Q : Option Value → sm_W → Prop} {x0 : Nat} {x1 : Int32} {x2 : Int32} {s0 : Nat} {s1 : Int32} : sm_R X 10 4 [.ref x0, .int x1, .int x2] [.ref s0, .int s1] w Q ↔ sm_wp (sm_ln s0 (sm_get X w s0)) (fun v => sm_R X 10 5 [.ref x0, .int x1, .int x2] [.int v, .int s1] w Q) := sm_q_len d10_4
theorem d10_5 : decode (sm_code 10) 5 = .ok (.invokestatic 50, 3) := by decide +kernel
theorem r10_5 {X : sm_X} {w : sm_W} {Q : Option Value → sm_W → Prop} {x0 : Nat} {x1 : Int32} {x2 : Int32} {s0 : Int32} {s1 : Int32} : sm_R X 10 5 [.ref x0, .int x1, .int x2] [.int s0, .int s1] w Q ↔ sm_R X 8 0 [.int s1, .int s0] [] w (fun v w => sm_R X 10 8 [.ref x0, .int x1, .int x2] (v.toList ++ []) w Q) := sm_q_call (k := 8) (as := [.int s1, .int s0]) (rest := []) d10_5 rfl rfl
theorem d10_8 : decode (sm_code 10) 8 = .ok (.ifCond .eq 15, 3) := by decide +kernel
theorem r10_8 {X : sm_X} {w : sm_W} {Q : Option Value → sm_W → Prop} {x0 : Nat} {x1 : Int32} {x2 : Int32} {s0 : Int32} : sm_R X 10 8 [.ref x0, .int x1, .int x2] [.int s0] w Q ↔ (if s0 = 0 then sm_R X 10 23 [.ref x0, .int x1, .int x2] [] w Q else sm_R X 10 11 [.ref x0, .int x1, .int x2] [] w Q) := sm_q_br d10_8 rfl
theorem d10_11 : decode (sm_code 10) 11 = .ok (.getstatic 61, 3) := by decide +kernel
theorem r10_11 {X : sm_X} {w : sm_W} {Q : Option Value → sm_W → Prop} {x0 : Nat} {x1 : Int32} {x2 : Int32} : sm_R X 10 11 [.ref x0, .int x1, .int x2] [] w Q ↔ sm_R X 10 14 [.ref x0, .int x1, .int x2] [.ref 98] w Q := sm_R_go d10_11 rfl
theorem d10_14 : decode (sm_code 10) 14 = .ok (.iload_n 1, 1) := by decide +kernel
theorem r10_14 {X : sm_X} {w : sm_W} {Q : Option Value → sm_W → Prop} {x0 : Nat} {x1 : Int32} {x2 : Int32} {s0 : Nat} : sm_R X 10 14 [.ref x0, .int x1, .int x2] [.ref s0] w Q ↔ sm_R X 10 15 [.ref x0, .int x1, .int x2] [.int x1, .ref s0] w Q := sm_R_go d10_14 rfl
theorem d10_15 : decode (sm_code 10) 15 = .ok (.aaload, 1) := by decide +kernel
theorem r10_15 {X : sm_X} {w : sm_W} {Q : Option Value → sm_W → Prop} {x0 : Nat} {x1 : Int32} {x2 : Int32} {s0 : Int32} {s1 : Nat} : sm_R X 10 15 [.ref x0, .int x1, .int x2] [.int s0, .ref s1] w Q ↔ sm_wp (sm_aa s1 s0 (sm_get X w s1)) (fun v => sm_R X 10 16 [.ref x0, .int x1, .int x2] [.ref v] w Q) := sm_q_aald d10_15
theorem d10_16 : decode (sm_code 10) 16 = .ok (.iload_n 2, 1) := by decide +kernel
theorem r10_16 {X : sm_X} {w : sm_W} {Q : Option Value → sm_W → Prop} {x0 : Nat} {x1 : Int32} {x2 : Int32} {s0 : Nat} : sm_R X 10 16 [.ref x0, .int x1, .int x2] [.ref s0] w Q ↔ sm_R X 10 17 [.ref x0, .int x1, .int x2] [.int x2, .ref s0] w Q := sm_R_go d10_16 rfl
theorem d10_17 : decode (sm_code 10) 17 = .ok (.invokevirtual 65, 3) := by decide +kernel
theorem r10_17 {X : sm_X} {w : sm_W} {Q : Option Value → sm_W → Prop} {x0 : Nat} {x1 : Int32} {x2 : Int32} {s0 : Int32} {s1 : Nat} (h : s1 < 31) : sm_R X 10 17 [.ref x0, .int x1, .int x2] [.int s0, .ref s1] w Q ↔ sm_R X 11 0 [.ref s1, .int s0] [] w (fun v w => sm_R X 10 20 [.ref x0, .int x1, .int x2] (v.toList ++ []) w Q) := sm_q_virE (k := 11) (as := [.ref s1, .int s0]) (rest := []) d10_17 rfl rfl rfl h rfl rfl
theorem d10_20 : decode (sm_code 10) 20 = .ok (.ifCond .ne 5, 3) := by decide +kernel
theorem r10_20 {X : sm_X} {w : sm_W} {Q : Option Value → sm_W → Prop} {x0 : Nat} {x1 : Int32} {x2 : Int32} {s0 : Int32} : sm_R X 10 20 [.ref x0, .int x1, .int x2] [.int s0] w Q ↔ (if s0 = 0 then sm_R X 10 23 [.ref x0, .int x1, .int x2] [] w Q else sm_R X 10 25 [.ref x0, .int x1, .int x2] [] w Q) := sm_q_br d10_20 rfl
theorem d10_23 : decode (sm_code 10) 23 = .ok (.iconst (-1), 1) := by decide +kernel
theorem r10_23 {X : sm_X} {w : sm_W} {Q : Option Value → sm_W → Prop} {x0 : Nat} {x1 : Int32} {x2 : Int32} : sm_R X 10 23 [.ref x0, .int x1, .int x2] [] w Q ↔ sm_R X 10 24 [.ref x0, .int x1, .int x2] [.int (-1)] w Q := sm_R_go d10_23 rfl
theorem d10_24 : decode (sm_code 10) 24 = .ok (.ireturn, 1) := by decide +kernel
theorem r10_24 {X : sm_X} {w : sm_W} {Q : Option Value → sm_W → Prop} {x0 : Nat} {x1 : Int32} {x2 : Int32} {s0 : Int32} : sm_R X 10 24 [.ref x0, .int x1, .int x2] [.int s0] w Q ↔ Q (some (.int s0)) w := sm_q_iret d10_24 rfl
theorem d10_25 : decode (sm_code 10) 25 = .ok (.aload_n 0, 1) := by decide +kernel
theorem r10_25 {X : sm_X} {w : sm_W} {Q : Option Value → sm_W → Prop} {x0 : Nat} {x1 : Int32} {x2 : Int32} : sm_R X 10 25 [.ref x0, .int x1, .int x2] [] w Q ↔ sm_R X 10 26 [.ref x0, .int x1, .int x2] [.ref x0] w Q := sm_R_go d10_25 rfl
theorem d10_26 : decode (sm_code 10) 26 = .ok (.getfield 22, 3) := by decide +kernel
theorem r10_26 {X : sm_X} {w : sm_W} {Q : Option Value → sm_W → Prop} {x0 : Nat} {x1 : Int32} {x2 : Int32} {s0 : Nat} : sm_R X 10 26 [.ref x0, .int x1, .int x2] [.ref s0] w Q ↔ sm_wp (sm_fld 6 2 (sm_at w s0)) (fun v => sm_R X 10 29 [.ref x0, .int x1, .int x2] [v] w Q) := sm_q_getf d10_26 rfl (by decide)
theorem d10_29 : decode (sm_code 10) 29 = .ok (.getfield 71, 3) := by decide +kernel
theorem r10_29 {X : sm_X} {w : sm_W} {Q : Option Value → sm_W → Prop} {x0 : Nat} {x1 : Int32} {x2 : Int32} {s0 : Nat} : sm_R X 10 29 [.ref x0, .int x1, .int x2] [.ref s0] w Q ↔ sm_wp (sm_fld 3 2 (sm_at w s0)) (fun v => sm_R X 10 32 [.ref x0, .int x1, .int x2] [v] w Q) := sm_q_getf d10_29 rfl (by decide)
theorem d10_32 : decode (sm_code 10) 32 = .ok (.bipush 32, 2) := by decide +kernel
theorem r10_32 {X : sm_X} {w : sm_W} {Q : Option Value → sm_W → Prop} {x0 : Nat} {x1 : Int32} {x2 : Int32} {s0 : Int32} : sm_R X 10 32 [.ref x0, .int x1, .int x2] [.int s0] w Q ↔ sm_R X 10 34 [.ref x0, .int x1, .int x2] [.int 32, .int s0] w Q := sm_R_go d10_32 rfl
theorem d10_34 : decode (sm_code 10) 34 = .ok (.if_icmp .lt 6, 3) := by decide +kernel
theorem r10_34 {X : sm_X} {w : sm_W} {Q : Option Value → sm_W → Prop} {x0 : Nat} {x1 : Int32} {x2 : Int32} {s0 : Int32} {s1 : Int32} : sm_R X 10 34 [.ref x0, .int x1, .int x2] [.int s0, .int s1] w Q ↔ (if s1 < s0 then sm_R X 10 40 [.ref x0, .int x1, .int x2] [] w Q else sm_R X 10 37 [.ref x0, .int x1, .int x2] [] w Q) := sm_q_br d10_34 rfl
theorem d10_37 : decode (sm_code 10) 37 = .ok (.bipush (-2), 2) := by decide +kernel
theorem r10_37 {X : sm_X} {w : sm_W} {Q : Option Value → sm_W → Prop} {x0 : Nat} {x1 : Int32} {x2 : Int32} : sm_R X 10 37 [.ref x0, .int x1, .int x2] [] w Q ↔ sm_R X 10 39 [.ref x0, .int x1, .int x2] [.int (-2)] w Q := sm_R_go d10_37 rfl
theorem d10_39 : decode (sm_code 10) 39 = .ok (.ireturn, 1) := by decide +kernel
theorem r10_39 {X : sm_X} {w : sm_W} {Q : Option Value → sm_W → Prop} {x0 : Nat} {x1 : Int32} {x2 : Int32} {s0 : Int32} : sm_R X 10 39 [.ref x0, .int x1, .int x2] [.int s0] w Q ↔ Q (some (.int s0)) w := sm_q_iret d10_39 rfl
theorem d10_40 : decode (sm_code 10) 40 = .ok (.aload_n 0, 1) := by decide +kernel
theorem r10_40 {X : sm_X} {w : sm_W} {Q : Option Value → sm_W → Prop} {x0 : Nat} {x1 : Int32} {x2 : Int32} : sm_R X 10 40 [.ref x0, .int x1, .int x2] [] w Q ↔ sm_R X 10 41 [.ref x0, .int x1, .int x2] [.ref x0] w Q := sm_R_go d10_40 rfl
theorem d10_41 : decode (sm_code 10) 41 = .ok (.getfield 22, 3) := by decide +kernel
theorem r10_41 {X : sm_X} {w : sm_W} {Q : Option Value → sm_W → Prop} {x0 : Nat} {x1 : Int32} {x2 : Int32} {s0 : Nat} : sm_R X 10 41 [.ref x0, .int x1, .int x2] [.ref s0] w Q ↔ sm_wp (sm_fld 6 2 (sm_at w s0)) (fun v => sm_R X 10 44 [.ref x0, .int x1, .int x2] [v] w Q) := sm_q_getf d10_41 rfl (by decide)
theorem d10_44 : decode (sm_code 10) 44 = .ok (.iload_n 1, 1) := by decide +kernel
theorem r10_44 {X : sm_X} {w : sm_W} {Q : Option Value → sm_W → Prop} {x0 : Nat} {x1 : Int32} {x2 : Int32} {s0 : Nat} : sm_R X 10 44 [.ref x0, .int x1, .int x2] [.ref s0] w Q ↔ sm_R X 10 45 [.ref x0, .int x1, .int x2] [.int x1, .ref s0] w Q := sm_R_go d10_44 rfl
theorem d10_45 : decode (sm_code 10) 45 = .ok (.iload_n 2, 1) := by decide +kernel
theorem r10_45 {X : sm_X} {w : sm_W} {Q : Option Value → sm_W → Prop} {x0 : Nat} {x1 : Int32} {x2 : Int32} {s0 : Int32} {s1 : Nat} : sm_R X 10 45 [.ref x0, .int x1, .int x2] [.int s0, .ref s1] w Q ↔ sm_R X 10 46 [.ref x0, .int x1, .int x2] [.int x2, .int s0, .ref s1] w Q := sm_R_go d10_45 rfl
theorem d10_46 : decode (sm_code 10) 46 = .ok (.invokevirtual 74, 3) := by decide +kernel
theorem r10_46 {X : sm_X} {w : sm_W} {Q : Option Value → sm_W → Prop} {x0 : Nat} {x1 : Int32} {x2 : Int32} {s0 : Int32} {s1 : Int32} {s2 : Nat} : sm_R X 10 46 [.ref x0, .int x1, .int x2] [.int s0, .int s1, .ref s2] w Q ↔ (sm_cN (sm_at w s2) = some 3 ∧ sm_R X 12 0 [.ref s2, .int s1, .int s0] [] w (fun v w => sm_R X 10 49 [.ref x0, .int x1, .int x2] (v.toList ++ []) w Q)) := sm_q_vir (k := 12) (as := [.ref s2, .int s1, .int s0]) (rest := []) d10_46 rfl rfl rfl rfl rfl
theorem d10_49 : decode (sm_code 10) 49 = .ok (.ireturn, 1) := by decide +kernel
theorem r10_49 {X : sm_X} {w : sm_W} {Q : Option Value → sm_W → Prop} {x0 : Nat} {x1 : Int32} {x2 : Int32} {s0 : Int32} : sm_R X 10 49 [.ref x0, .int x1, .int x2] [.int s0] w Q ↔ Q (some (.int s0)) w := sm_q_iret d10_49 rfl
-- GroupLedger$Op.allows(I)Z
theorem d11_0 : decode (sm_code 11) 0 = .ok (.aload_n 0, 1) := by decide +kernel
theorem r11_0 {X : sm_X} {w : sm_W} {Q : Option Value → sm_W → Prop} {x0 : Nat} {x1 : Int32} : sm_R X 11 0 [.ref x0, .int x1] [] w Q ↔ sm_R X 11 1 [.ref x0, .int x1] [.ref x0] w Q := sm_R_go d11_0 rfl
theorem d11_1 : decode (sm_code 11) 1 = .ok (.getfield 122, 3) := by decide +kernel
theorem r11_1 {X : sm_X} {w : sm_W} {Q : Option Value → sm_W → Prop} {x0 : Nat} {x1 : Int32} {s0 : Nat} (h : s0 < 100) : sm_R X 11 1 [.ref x0, .int x1] [.ref s0] w Q ↔ sm_wp (sm_enF 8 1 s0) (fun v => sm_R X 11 4 [.ref x0, .int x1] [.int v] w Q) := sm_q_gete d11_1 rfl h
theorem d11_4 : decode (sm_code 11) 4 = .ok (.iconst (-1), 1) := by decide +kernel
theorem r11_4 {X : sm_X} {w : sm_W} {Q : Option Value → sm_W → Prop} {x0 : Nat} {x1 : Int32} {s0 : Int32} : sm_R X 11 4 [.ref x0, .int x1] [.int s0] w Q ↔ sm_R X 11 5 [.ref x0, .int x1] [.int (-1), .int s0] w Q := sm_R_go d11_4 rfl
theorem d11_5 : decode (sm_code 11) 5 = .ok (.if_icmp .eq 15, 3) := by decide +kernel
theorem r11_5 {X : sm_X} {w : sm_W} {Q : Option Value → sm_W → Prop} {x0 : Nat} {x1 : Int32} {s0 : Int32} {s1 : Int32} : sm_R X 11 5 [.ref x0, .int x1] [.int s0, .int s1] w Q ↔ (if s1 = s0 then sm_R X 11 20 [.ref x0, .int x1] [] w Q else sm_R X 11 8 [.ref x0, .int x1] [] w Q) := sm_q_br d11_5 rfl
theorem d11_8 : decode (sm_code 11) 8 = .ok (.iload_n 1, 1) := by decide +kernel
theorem r11_8 {X : sm_X} {w : sm_W} {Q : Option Value → sm_W → Prop} {x0 : Nat} {x1 : Int32} : sm_R X 11 8 [.ref x0, .int x1] [] w Q ↔ sm_R X 11 9 [.ref x0, .int x1] [.int x1] w Q := sm_R_go d11_8 rfl
theorem d11_9 : decode (sm_code 11) 9 = .ok (.ifCond .lt 15, 3) := by decide +kernel
theorem r11_9 {X : sm_X} {w : sm_W} {Q : Option Value → sm_W → Prop} {x0 : Nat} {x1 : Int32} {s0 : Int32} : sm_R X 11 9 [.ref x0, .int x1] [.int s0] w Q ↔ (if s0 < 0 then sm_R X 11 24 [.ref x0, .int x1] [] w Q else sm_R X 11 12 [.ref x0, .int x1] [] w Q) := sm_q_br d11_9 rfl
theorem d11_12 : decode (sm_code 11) 12 = .ok (.iload_n 1, 1) := by decide +kernel
theorem r11_12 {X : sm_X} {w : sm_W} {Q : Option Value → sm_W → Prop} {x0 : Nat} {x1 : Int32} : sm_R X 11 12 [.ref x0, .int x1] [] w Q ↔ sm_R X 11 13 [.ref x0, .int x1] [.int x1] w Q := sm_R_go d11_12 rfl
theorem d11_13 : decode (sm_code 11) 13 = .ok (.aload_n 0, 1) := by decide +kernel
theorem r11_13 {X : sm_X} {w : sm_W} {Q : Option Value → sm_W → Prop} {x0 : Nat} {x1 : Int32} {s0 : Int32} : sm_R X 11 13 [.ref x0, .int x1] [.int s0] w Q ↔ sm_R X 11 14 [.ref x0, .int x1] [.ref x0, .int s0] w Q := sm_R_go d11_13 rfl
theorem d11_14 : decode (sm_code 11) 14 = .ok (.getfield 122, 3) := by decide +kernel
theorem r11_14 {X : sm_X} {w : sm_W} {Q : Option Value → sm_W → Prop} {x0 : Nat} {x1 : Int32} {s0 : Nat} {s1 : Int32} (h : s0 < 100) : sm_R X 11 14 [.ref x0, .int x1] [.ref s0, .int s1] w Q ↔ sm_wp (sm_enF 8 1 s0) (fun v => sm_R X 11 17 [.ref x0, .int x1] [.int v, .int s1] w Q) := sm_q_gete d11_14 rfl h
theorem d11_17 : decode (sm_code 11) 17 = .ok (.if_icmp .gt 7, 3) := by decide +kernel
theorem r11_17 {X : sm_X} {w : sm_W} {Q : Option Value → sm_W → Prop} {x0 : Nat} {x1 : Int32} {s0 : Int32} {s1 : Int32} : sm_R X 11 17 [.ref x0, .int x1] [.int s0, .int s1] w Q ↔ (if s0 < s1 then sm_R X 11 24 [.ref x0, .int x1] [] w Q else sm_R X 11 20 [.ref x0, .int x1] [] w Q) := sm_q_br d11_17 rfl
theorem d11_20 : decode (sm_code 11) 20 = .ok (.iconst 1, 1) := by decide +kernel
theorem r11_20 {X : sm_X} {w : sm_W} {Q : Option Value → sm_W → Prop} {x0 : Nat} {x1 : Int32} : sm_R X 11 20 [.ref x0, .int x1] [] w Q ↔ sm_R X 11 21 [.ref x0, .int x1] [.int 1] w Q := sm_R_go d11_20 rfl
theorem d11_21 : decode (sm_code 11) 21 = .ok (.goto 4, 3) := by decide +kernel
theorem r11_21 {X : sm_X} {w : sm_W} {Q : Option Value → sm_W → Prop} {x0 : Nat} {x1 : Int32} {s0 : Int32} : sm_R X 11 21 [.ref x0, .int x1] [.int s0] w Q ↔ sm_R X 11 25 [.ref x0, .int x1] [.int s0] w Q := sm_R_go d11_21 rfl
theorem d11_24 : decode (sm_code 11) 24 = .ok (.iconst 0, 1) := by decide +kernel
theorem r11_24 {X : sm_X} {w : sm_W} {Q : Option Value → sm_W → Prop} {x0 : Nat} {x1 : Int32} : sm_R X 11 24 [.ref x0, .int x1] [] w Q ↔ sm_R X 11 25 [.ref x0, .int x1] [.int 0] w Q := sm_R_go d11_24 rfl
theorem d11_25 : decode (sm_code 11) 25 = .ok (.ireturn, 1) := by decide +kernel
theorem r11_25 {X : sm_X} {w : sm_W} {Q : Option Value → sm_W → Prop} {x0 : Nat} {x1 : Int32} {s0 : Int32} (h : s0 = 0 ∨ s0 = 1) : sm_R X 11 25 [.ref x0, .int x1] [.int s0] w Q ↔ Q (some (.int s0)) w := sm_q_zret d11_25 rfl h
-- GroupLedger$Program.append(II)I
theorem d12_0 : decode (sm_code 12) 0 = .ok (.aload_n 0, 1) := by decide +kernel
theorem r12_0 {X : sm_X} {w : sm_W} {Q : Option Value → sm_W → Prop} {x0 : Nat} {x1 : Int32} {x2 : Int32} : sm_R X 12 0 [.ref x0, .int x1, .int x2] [] w Q ↔ sm_R X 12 1 [.ref x0, .int x1, .int x2] [.ref x0] w Q := sm_R_go d12_0 rfl
theorem d12_1 : decode (sm_code 12) 1 = .ok (.getfield 9, 3) := by decide +kernel
theorem r12_1 {X : sm_X} {w : sm_W} {Q : Option Value → sm_W → Prop} {x0 : Nat} {x1 : Int32} {x2 : Int32} {s0 : Nat} : sm_R X 12 1 [.ref x0, .int x1, .int x2] [.ref s0] w Q ↔ sm_wp (sm_fld 3 0 (sm_at w s0)) (fun v => sm_R X 12 4 [.ref x0, .int x1, .int x2] [v] w Q) := sm_q_getf d12_1 rfl (by decide)
theorem d12_4 : decode (sm_code 12) 4 = .ok (.aload_n 0, 1) := by decide +kernel
theorem r12_4 {X : sm_X} {w : sm_W} {Q : Option Value → sm_W → Prop} {x0 : Nat} {x1 : Int32} {x2 : Int32} {s0 : Nat} : sm_R X 12 4 [.ref x0, .int x1, .int x2] [.ref s0] w Q ↔ sm_R X 12 5 [.ref x0, .int x1, .int x2] [.ref x0, .ref s0] w Q := sm_R_go d12_4 rfl
theorem d12_5 : decode (sm_code 12) 5 = .ok (.getfield 18, 3) := by decide +kernel
theorem r12_5 {X : sm_X} {w : sm_W} {Q : Option Value → sm_W → Prop} {x0 : Nat} {x1 : Int32} {x2 : Int32} {s0 : Nat} {s1 : Nat} : sm_R X 12 5 [.ref x0, .int x1, .int x2] [.ref s0, .ref s1] w Q ↔ sm_wp (sm_fld 3 2 (sm_at w s0)) (fun v => sm_R X 12 8 [.ref x0, .int x1, .int x2] [v, .ref s1] w Q) := sm_q_getf d12_5 rfl (by decide)
theorem d12_8 : decode (sm_code 12) 8 = .ok (.iload_n 1, 1) := by decide +kernel
theorem r12_8 {X : sm_X} {w : sm_W} {Q : Option Value → sm_W → Prop} {x0 : Nat} {x1 : Int32} {x2 : Int32} {s0 : Int32} {s1 : Nat} : sm_R X 12 8 [.ref x0, .int x1, .int x2] [.int s0, .ref s1] w Q ↔ sm_R X 12 9 [.ref x0, .int x1, .int x2] [.int x1, .int s0, .ref s1] w Q := sm_R_go d12_8 rfl
theorem d12_9 : decode (sm_code 12) 9 = .ok (.iastore, 1) := by decide +kernel
theorem r12_9 {X : sm_X} {w : sm_W} {Q : Option Value → sm_W → Prop} {x0 : Nat} {x1 : Int32} {x2 : Int32} {s0 : Int32} {s1 : Int32} {s2 : Nat} : sm_R X 12 9 [.ref x0, .int x1, .int x2] [.int s0, .int s1, .ref s2] w Q ↔ sm_wp (sm_si s1 s0 (sm_at w s2)) (fun c => sm_R X 12 10 [.ref x0, .int x1, .int x2] [] (w.set (s2 - 100) c) Q) := sm_q_iast d12_9
theorem d12_10 : decode (sm_code 12) 10 = .ok (.aload_n 0, 1) := by decide +kernel
theorem r12_10 {X : sm_X} {w : sm_W} {Q : Option Value → sm_W → Prop} {x0 : Nat} {x1 : Int32} {x2 : Int32} : sm_R X 12 10 [.ref x0, .int x1, .int x2] [] w Q ↔ sm_R X 12 11 [.ref x0, .int x1, .int x2] [.ref x0] w Q := sm_R_go d12_10 rfl
theorem d12_11 : decode (sm_code 12) 11 = .ok (.getfield 15, 3) := by decide +kernel
theorem r12_11 {X : sm_X} {w : sm_W} {Q : Option Value → sm_W → Prop} {x0 : Nat} {x1 : Int32} {x2 : Int32} {s0 : Nat} : sm_R X 12 11 [.ref x0, .int x1, .int x2] [.ref s0] w Q ↔ sm_wp (sm_fld 3 1 (sm_at w s0)) (fun v => sm_R X 12 14 [.ref x0, .int x1, .int x2] [v] w Q) := sm_q_getf d12_11 rfl (by decide)
theorem d12_14 : decode (sm_code 12) 14 = .ok (.aload_n 0, 1) := by decide +kernel
theorem r12_14 {X : sm_X} {w : sm_W} {Q : Option Value → sm_W → Prop} {x0 : Nat} {x1 : Int32} {x2 : Int32} {s0 : Nat} : sm_R X 12 14 [.ref x0, .int x1, .int x2] [.ref s0] w Q ↔ sm_R X 12 15 [.ref x0, .int x1, .int x2] [.ref x0, .ref s0] w Q := sm_R_go d12_14 rfl
theorem d12_15 : decode (sm_code 12) 15 = .ok (.getfield 18, 3) := by decide +kernel
theorem r12_15 {X : sm_X} {w : sm_W} {Q : Option Value → sm_W → Prop} {x0 : Nat} {x1 : Int32} {x2 : Int32} {s0 : Nat} {s1 : Nat} : sm_R X 12 15 [.ref x0, .int x1, .int x2] [.ref s0, .ref s1] w Q ↔ sm_wp (sm_fld 3 2 (sm_at w s0)) (fun v => sm_R X 12 18 [.ref x0, .int x1, .int x2] [v, .ref s1] w Q) := sm_q_getf d12_15 rfl (by decide)
theorem d12_18 : decode (sm_code 12) 18 = .ok (.iload_n 2, 1) := by decide +kernel
theorem r12_18 {X : sm_X} {w : sm_W} {Q : Option Value → sm_W → Prop} {x0 : Nat} {x1 : Int32} {x2 : Int32} {s0 : Int32} {s1 : Nat} : sm_R X 12 18 [.ref x0, .int x1, .int x2] [.int s0, .ref s1] w Q ↔ sm_R X 12 19 [.ref x0, .int x1, .int x2] [.int x2, .int s0, .ref s1] w Q := sm_R_go d12_18 rfl
theorem d12_19 : decode (sm_code 12) 19 = .ok (.iastore, 1) := by decide +kernel
theorem r12_19 {X : sm_X} {w : sm_W} {Q : Option Value → sm_W → Prop} {x0 : Nat} {x1 : Int32} {x2 : Int32} {s0 : Int32} {s1 : Int32} {s2 : Nat} : sm_R X 12 19 [.ref x0, .int x1, .int x2] [.int s0, .int s1, .ref s2] w Q ↔ sm_wp (sm_si s1 s0 (sm_at w s2)) (fun c => sm_R X 12 20 [.ref x0, .int x1, .int x2] [] (w.set (s2 - 100) c) Q) := sm_q_iast d12_19
theorem d12_20 : decode (sm_code 12) 20 = .ok (.aload_n 0, 1) := by decide +kernel
theorem r12_20 {X : sm_X} {w : sm_W} {Q : Option Value → sm_W → Prop} {x0 : Nat} {x1 : Int32} {x2 : Int32} : sm_R X 12 20 [.ref x0, .int x1, .int x2] [] w Q ↔ sm_R X 12 21 [.ref x0, .int x1, .int x2] [.ref x0] w Q := sm_R_go d12_20 rfl
theorem d12_21 : decode (sm_code 12) 21 = .ok (.dup, 1) := by decide +kernel
theorem r12_21 {X : sm_X} {w : sm_W} {Q : Option Value → sm_W → Prop} {x0 : Nat} {x1 : Int32} {x2 : Int32} {s0 : Nat} : sm_R X 12 21 [.ref x0, .int x1, .int x2] [.ref s0] w Q ↔ sm_R X 12 22 [.ref x0, .int x1, .int x2] [.ref s0, .ref s0] w Q := sm_R_go d12_21 rfl
theorem d12_22 : decode (sm_code 12) 22 = .ok (.getfield 18, 3) := by decide +kernel
theorem r12_22 {X : sm_X} {w : sm_W} {Q : Option Value → sm_W → Prop} {x0 : Nat} {x1 : Int32} {x2 : Int32} {s0 : Nat} {s1 : Nat} : sm_R X 12 22 [.ref x0, .int x1, .int x2] [.ref s0, .ref s1] w Q ↔ sm_wp (sm_fld 3 2 (sm_at w s0)) (fun v => sm_R X 12 25 [.ref x0, .int x1, .int x2] [v, .ref s1] w Q) := sm_q_getf d12_22 rfl (by decide)
theorem d12_25 : decode (sm_code 12) 25 = .ok (.dup_x1, 1) := by decide +kernel
theorem r12_25 {X : sm_X} {w : sm_W} {Q : Option Value → sm_W → Prop} {x0 : Nat} {x1 : Int32} {x2 : Int32} {s0 : Int32} {s1 : Nat} : sm_R X 12 25 [.ref x0, .int x1, .int x2] [.int s0, .ref s1] w Q ↔ sm_R X 12 26 [.ref x0, .int x1, .int x2] [.int s0, .ref s1, .int s0] w Q := sm_R_go d12_25 rfl
theorem d12_26 : decode (sm_code 12) 26 = .ok (.iconst 1, 1) := by decide +kernel
theorem r12_26 {X : sm_X} {w : sm_W} {Q : Option Value → sm_W → Prop} {x0 : Nat} {x1 : Int32} {x2 : Int32} {s0 : Int32} {s1 : Nat} {s2 : Int32} : sm_R X 12 26 [.ref x0, .int x1, .int x2] [.int s0, .ref s1, .int s2] w Q ↔ sm_R X 12 27 [.ref x0, .int x1, .int x2] [.int 1, .int s0, .ref s1, .int s2] w Q := sm_R_go d12_26 rfl
theorem d12_27 : decode (sm_code 12) 27 = .ok (.iadd, 1) := by decide +kernel
theorem r12_27 {X : sm_X} {w : sm_W} {Q : Option Value → sm_W → Prop} {x0 : Nat} {x1 : Int32} {x2 : Int32} {s0 : Int32} {s1 : Int32} {s2 : Nat} {s3 : Int32} : sm_R X 12 27 [.ref x0, .int x1, .int x2] [.int s0, .int s1, .ref s2, .int s3] w Q ↔ sm_R X 12 28 [.ref x0, .int x1, .int x2] [.int (s1 + s0), .ref s2, .int s3] w Q := sm_R_go d12_27 rfl
theorem d12_28 : decode (sm_code 12) 28 = .ok (.putfield 18, 3) := by decide +kernel
theorem r12_28 {X : sm_X} {w : sm_W} {Q : Option Value → sm_W → Prop} {x0 : Nat} {x1 : Int32} {x2 : Int32} {s0 : Int32} {s1 : Nat} {s2 : Int32} : sm_R X 12 28 [.ref x0, .int x1, .int x2] [.int s0, .ref s1, .int s2] w Q ↔ sm_wp (sm_pfl 3 2 (.int s0) (sm_at w s1)) (fun c => sm_R X 12 31 [.ref x0, .int x1, .int x2] [.int s2] (w.set (s1 - 100) c) Q) := sm_q_putf d12_28 rfl rfl rfl (by decide)
theorem d12_31 : decode (sm_code 12) 31 = .ok (.ireturn, 1) := by decide +kernel
theorem r12_31 {X : sm_X} {w : sm_W} {Q : Option Value → sm_W → Prop} {x0 : Nat} {x1 : Int32} {x2 : Int32} {s0 : Int32} : sm_R X 12 31 [.ref x0, .int x1, .int x2] [.int s0] w Q ↔ Q (some (.int s0)) w := sm_q_iret d12_31 rfl
-- GroupLedger.deploy(I)I
theorem d13_0 : decode (sm_code 13) 0 = .ok (.iload_n 1, 1) := by decide +kernel
theorem r13_0 {X : sm_X} {w : sm_W} {Q : Option Value → sm_W → Prop} {x0 : Nat} {x1 : Int32} : sm_R X 13 0 [.ref x0, .int x1] [] w Q ↔ sm_R X 13 1 [.ref x0, .int x1] [.int x1] w Q := sm_R_go d13_0 rfl
theorem d13_1 : decode (sm_code 13) 1 = .ok (.iconst 4, 1) := by decide +kernel
theorem r13_1 {X : sm_X} {w : sm_W} {Q : Option Value → sm_W → Prop} {x0 : Nat} {x1 : Int32} {s0 : Int32} : sm_R X 13 1 [.ref x0, .int x1] [.int s0] w Q ↔ sm_R X 13 2 [.ref x0, .int x1] [.int 4, .int s0] w Q := sm_R_go d13_1 rfl
theorem d13_2 : decode (sm_code 13) 2 = .ok (.invokestatic 50, 3) := by decide +kernel
theorem r13_2 {X : sm_X} {w : sm_W} {Q : Option Value → sm_W → Prop} {x0 : Nat} {x1 : Int32} {s0 : Int32} {s1 : Int32} : sm_R X 13 2 [.ref x0, .int x1] [.int s0, .int s1] w Q ↔ sm_R X 8 0 [.int s1, .int s0] [] w (fun v w => sm_R X 13 5 [.ref x0, .int x1] (v.toList ++ []) w Q) := sm_q_call (k := 8) (as := [.int s1, .int s0]) (rest := []) d13_2 rfl rfl
theorem d13_5 : decode (sm_code 13) 5 = .ok (.ifCond .eq 13, 3) := by decide +kernel
theorem r13_5 {X : sm_X} {w : sm_W} {Q : Option Value → sm_W → Prop} {x0 : Nat} {x1 : Int32} {s0 : Int32} : sm_R X 13 5 [.ref x0, .int x1] [.int s0] w Q ↔ (if s0 = 0 then sm_R X 13 18 [.ref x0, .int x1] [] w Q else sm_R X 13 8 [.ref x0, .int x1] [] w Q) := sm_q_br d13_5 rfl
theorem d13_8 : decode (sm_code 13) 8 = .ok (.aload_n 0, 1) := by decide +kernel
theorem r13_8 {X : sm_X} {w : sm_W} {Q : Option Value → sm_W → Prop} {x0 : Nat} {x1 : Int32} : sm_R X 13 8 [.ref x0, .int x1] [] w Q ↔ sm_R X 13 9 [.ref x0, .int x1] [.ref x0] w Q := sm_R_go d13_8 rfl
theorem d13_9 : decode (sm_code 13) 9 = .ok (.getfield 22, 3) := by decide +kernel
theorem r13_9 {X : sm_X} {w : sm_W} {Q : Option Value → sm_W → Prop} {x0 : Nat} {x1 : Int32} {s0 : Nat} : sm_R X 13 9 [.ref x0, .int x1] [.ref s0] w Q ↔ sm_wp (sm_fld 6 2 (sm_at w s0)) (fun v => sm_R X 13 12 [.ref x0, .int x1] [v] w Q) := sm_q_getf d13_9 rfl (by decide)
theorem d13_12 : decode (sm_code 13) 12 = .ok (.getfield 71, 3) := by decide +kernel
theorem r13_12 {X : sm_X} {w : sm_W} {Q : Option Value → sm_W → Prop} {x0 : Nat} {x1 : Int32} {s0 : Nat} : sm_R X 13 12 [.ref x0, .int x1] [.ref s0] w Q ↔ sm_wp (sm_fld 3 2 (sm_at w s0)) (fun v => sm_R X 13 15 [.ref x0, .int x1] [v] w Q) := sm_q_getf d13_12 rfl (by decide)
theorem d13_15 : decode (sm_code 13) 15 = .ok (.ifCond .ne 5, 3) := by decide +kernel
theorem r13_15 {X : sm_X} {w : sm_W} {Q : Option Value → sm_W → Prop} {x0 : Nat} {x1 : Int32} {s0 : Int32} : sm_R X 13 15 [.ref x0, .int x1] [.int s0] w Q ↔ (if s0 = 0 then sm_R X 13 18 [.ref x0, .int x1] [] w Q else sm_R X 13 20 [.ref x0, .int x1] [] w Q) := sm_q_br d13_15 rfl
theorem d13_18 : decode (sm_code 13) 18 = .ok (.iconst (-1), 1) := by decide +kernel
theorem r13_18 {X : sm_X} {w : sm_W} {Q : Option Value → sm_W → Prop} {x0 : Nat} {x1 : Int32} : sm_R X 13 18 [.ref x0, .int x1] [] w Q ↔ sm_R X 13 19 [.ref x0, .int x1] [.int (-1)] w Q := sm_R_go d13_18 rfl
theorem d13_19 : decode (sm_code 13) 19 = .ok (.ireturn, 1) := by decide +kernel
theorem r13_19 {X : sm_X} {w : sm_W} {Q : Option Value → sm_W → Prop} {x0 : Nat} {x1 : Int32} {s0 : Int32} : sm_R X 13 19 [.ref x0, .int x1] [.int s0] w Q ↔ Q (some (.int s0)) w := sm_q_iret d13_19 rfl
theorem d13_20 : decode (sm_code 13) 20 = .ok (.aload_n 0, 1) := by decide +kernel
theorem r13_20 {X : sm_X} {w : sm_W} {Q : Option Value → sm_W → Prop} {x0 : Nat} {x1 : Int32} : sm_R X 13 20 [.ref x0, .int x1] [] w Q ↔ sm_R X 13 21 [.ref x0, .int x1] [.ref x0] w Q := sm_R_go d13_20 rfl
theorem d13_21 : decode (sm_code 13) 21 = .ok (.getfield 26, 3) := by decide +kernel
theorem r13_21 {X : sm_X} {w : sm_W} {Q : Option Value → sm_W → Prop} {x0 : Nat} {x1 : Int32} {s0 : Nat} : sm_R X 13 21 [.ref x0, .int x1] [.ref s0] w Q ↔ sm_wp (sm_fld 6 3 (sm_at w s0)) (fun v => sm_R X 13 24 [.ref x0, .int x1] [v] w Q) := sm_q_getf d13_21 rfl (by decide)
theorem d13_24 : decode (sm_code 13) 24 = .ok (.iload_n 1, 1) := by decide +kernel
theorem r13_24 {X : sm_X} {w : sm_W} {Q : Option Value → sm_W → Prop} {x0 : Nat} {x1 : Int32} {s0 : Nat} : sm_R X 13 24 [.ref x0, .int x1] [.ref s0] w Q ↔ sm_R X 13 25 [.ref x0, .int x1] [.int x1, .ref s0] w Q := sm_R_go d13_24 rfl
theorem d13_25 : decode (sm_code 13) 25 = .ok (.aaload, 1) := by decide +kernel
theorem r13_25 {X : sm_X} {w : sm_W} {Q : Option Value → sm_W → Prop} {x0 : Nat} {x1 : Int32} {s0 : Int32} {s1 : Nat} : sm_R X 13 25 [.ref x0, .int x1] [.int s0, .ref s1] w Q ↔ sm_wp (sm_aa s1 s0 (sm_get X w s1)) (fun v => sm_R X 13 26 [.ref x0, .int x1] [.ref v] w Q) := sm_q_aald d13_25
theorem d13_26 : decode (sm_code 13) 26 = .ok (.aload_n 0, 1) := by decide +kernel
theorem r13_26 {X : sm_X} {w : sm_W} {Q : Option Value → sm_W → Prop} {x0 : Nat} {x1 : Int32} {s0 : Nat} : sm_R X 13 26 [.ref x0, .int x1] [.ref s0] w Q ↔ sm_R X 13 27 [.ref x0, .int x1] [.ref x0, .ref s0] w Q := sm_R_go d13_26 rfl
theorem d13_27 : decode (sm_code 13) 27 = .ok (.getfield 22, 3) := by decide +kernel
theorem r13_27 {X : sm_X} {w : sm_W} {Q : Option Value → sm_W → Prop} {x0 : Nat} {x1 : Int32} {s0 : Nat} {s1 : Nat} : sm_R X 13 27 [.ref x0, .int x1] [.ref s0, .ref s1] w Q ↔ sm_wp (sm_fld 6 2 (sm_at w s0)) (fun v => sm_R X 13 30 [.ref x0, .int x1] [v, .ref s1] w Q) := sm_q_getf d13_27 rfl (by decide)
theorem d13_30 : decode (sm_code 13) 30 = .ok (.invokevirtual 78, 3) := by decide +kernel
theorem r13_30 {X : sm_X} {w : sm_W} {Q : Option Value → sm_W → Prop} {x0 : Nat} {x1 : Int32} {s0 : Nat} {s1 : Nat} : sm_R X 13 30 [.ref x0, .int x1] [.ref s0, .ref s1] w Q ↔ (sm_cN (sm_at w s1) = some 3 ∧ sm_R X 14 0 [.ref s1, .ref s0] [] w (fun v w => sm_R X 13 33 [.ref x0, .int x1] (v.toList ++ []) w Q)) := sm_q_vir (k := 14) (as := [.ref s1, .ref s0]) (rest := []) d13_30 rfl rfl rfl rfl rfl
theorem d13_33 : decode (sm_code 13) 33 = .ok (.aload_n 0, 1) := by decide +kernel
theorem r13_33 {X : sm_X} {w : sm_W} {Q : Option Value → sm_W → Prop} {x0 : Nat} {x1 : Int32} : sm_R X 13 33 [.ref x0, .int x1] [] w Q ↔ sm_R X 13 34 [.ref x0, .int x1] [.ref x0] w Q := sm_R_go d13_33 rfl
theorem d13_34 : decode (sm_code 13) 34 = .ok (.getfield 22, 3) := by decide +kernel
theorem r13_34 {X : sm_X} {w : sm_W} {Q : Option Value → sm_W → Prop} {x0 : Nat} {x1 : Int32} {s0 : Nat} : sm_R X 13 34 [.ref x0, .int x1] [.ref s0] w Q ↔ sm_wp (sm_fld 6 2 (sm_at w s0)) (fun v => sm_R X 13 37 [.ref x0, .int x1] [v] w Q) := sm_q_getf d13_34 rfl (by decide)
theorem d13_37 : decode (sm_code 13) 37 = .ok (.iconst 0, 1) := by decide +kernel
theorem r13_37 {X : sm_X} {w : sm_W} {Q : Option Value → sm_W → Prop} {x0 : Nat} {x1 : Int32} {s0 : Nat} : sm_R X 13 37 [.ref x0, .int x1] [.ref s0] w Q ↔ sm_R X 13 38 [.ref x0, .int x1] [.int 0, .ref s0] w Q := sm_R_go d13_37 rfl
theorem d13_38 : decode (sm_code 13) 38 = .ok (.putfield 71, 3) := by decide +kernel
theorem r13_38 {X : sm_X} {w : sm_W} {Q : Option Value → sm_W → Prop} {x0 : Nat} {x1 : Int32} {s0 : Int32} {s1 : Nat} : sm_R X 13 38 [.ref x0, .int x1] [.int s0, .ref s1] w Q ↔ sm_wp (sm_pfl 3 2 (.int s0) (sm_at w s1)) (fun c => sm_R X 13 41 [.ref x0, .int x1] [] (w.set (s1 - 100) c) Q) := sm_q_putf d13_38 rfl rfl rfl (by decide)
theorem d13_41 : decode (sm_code 13) 41 = .ok (.aload_n 0, 1) := by decide +kernel
theorem r13_41 {X : sm_X} {w : sm_W} {Q : Option Value → sm_W → Prop} {x0 : Nat} {x1 : Int32} : sm_R X 13 41 [.ref x0, .int x1] [] w Q ↔ sm_R X 13 42 [.ref x0, .int x1] [.ref x0] w Q := sm_R_go d13_41 rfl
theorem d13_42 : decode (sm_code 13) 42 = .ok (.getfield 10, 3) := by decide +kernel
theorem r13_42 {X : sm_X} {w : sm_W} {Q : Option Value → sm_W → Prop} {x0 : Nat} {x1 : Int32} {s0 : Nat} : sm_R X 13 42 [.ref x0, .int x1] [.ref s0] w Q ↔ sm_wp (sm_fld 6 0 (sm_at w s0)) (fun v => sm_R X 13 45 [.ref x0, .int x1] [v] w Q) := sm_q_getf d13_42 rfl (by decide)
theorem d13_45 : decode (sm_code 13) 45 = .ok (.iload_n 1, 1) := by decide +kernel
theorem r13_45 {X : sm_X} {w : sm_W} {Q : Option Value → sm_W → Prop} {x0 : Nat} {x1 : Int32} {s0 : Nat} : sm_R X 13 45 [.ref x0, .int x1] [.ref s0] w Q ↔ sm_R X 13 46 [.ref x0, .int x1] [.int x1, .ref s0] w Q := sm_R_go d13_45 rfl
theorem d13_46 : decode (sm_code 13) 46 = .ok (.invokevirtual 82, 3) := by decide +kernel
theorem r13_46 {X : sm_X} {w : sm_W} {Q : Option Value → sm_W → Prop} {x0 : Nat} {x1 : Int32} {s0 : Int32} {s1 : Nat} : sm_R X 13 46 [.ref x0, .int x1] [.int s0, .ref s1] w Q ↔ (sm_cN (sm_at w s1) = some 0 ∧ sm_R X 15 0 [.ref s1, .int s0, sm_J] [] w (fun v w => sm_R X 13 49 [.ref x0, .int x1] (v.toList ++ []) w Q)) := sm_q_vir (k := 15) (as := [.ref s1, .int s0]) (rest := []) d13_46 rfl rfl rfl rfl rfl
theorem d13_49 : decode (sm_code 13) 49 = .ok (.aload_n 0, 1) := by decide +kernel
theorem r13_49 {X : sm_X} {w : sm_W} {Q : Option Value → sm_W → Prop} {x0 : Nat} {x1 : Int32} : sm_R X 13 49 [.ref x0, .int x1] [] w Q ↔ sm_R X 13 50 [.ref x0, .int x1] [.ref x0] w Q := sm_R_go d13_49 rfl
theorem d13_50 : decode (sm_code 13) 50 = .ok (.getfield 26, 3) := by decide +kernel
theorem r13_50 {X : sm_X} {w : sm_W} {Q : Option Value → sm_W → Prop} {x0 : Nat} {x1 : Int32} {s0 : Nat} : sm_R X 13 50 [.ref x0, .int x1] [.ref s0] w Q ↔ sm_wp (sm_fld 6 3 (sm_at w s0)) (fun v => sm_R X 13 53 [.ref x0, .int x1] [v] w Q) := sm_q_getf d13_50 rfl (by decide)
theorem d13_53 : decode (sm_code 13) 53 = .ok (.iload_n 1, 1) := by decide +kernel
theorem r13_53 {X : sm_X} {w : sm_W} {Q : Option Value → sm_W → Prop} {x0 : Nat} {x1 : Int32} {s0 : Nat} : sm_R X 13 53 [.ref x0, .int x1] [.ref s0] w Q ↔ sm_R X 13 54 [.ref x0, .int x1] [.int x1, .ref s0] w Q := sm_R_go d13_53 rfl
theorem d13_54 : decode (sm_code 13) 54 = .ok (.aaload, 1) := by decide +kernel
theorem r13_54 {X : sm_X} {w : sm_W} {Q : Option Value → sm_W → Prop} {x0 : Nat} {x1 : Int32} {s0 : Int32} {s1 : Nat} : sm_R X 13 54 [.ref x0, .int x1] [.int s0, .ref s1] w Q ↔ sm_wp (sm_aa s1 s0 (sm_get X w s1)) (fun v => sm_R X 13 55 [.ref x0, .int x1] [.ref v] w Q) := sm_q_aald d13_54
theorem d13_55 : decode (sm_code 13) 55 = .ok (.getfield 71, 3) := by decide +kernel
theorem r13_55 {X : sm_X} {w : sm_W} {Q : Option Value → sm_W → Prop} {x0 : Nat} {x1 : Int32} {s0 : Nat} : sm_R X 13 55 [.ref x0, .int x1] [.ref s0] w Q ↔ sm_wp (sm_fld 3 2 (sm_at w s0)) (fun v => sm_R X 13 58 [.ref x0, .int x1] [v] w Q) := sm_q_getf d13_55 rfl (by decide)
theorem d13_58 : decode (sm_code 13) 58 = .ok (.ireturn, 1) := by decide +kernel
theorem r13_58 {X : sm_X} {w : sm_W} {Q : Option Value → sm_W → Prop} {x0 : Nat} {x1 : Int32} {s0 : Int32} : sm_R X 13 58 [.ref x0, .int x1] [.int s0] w Q ↔ Q (some (.int s0)) w := sm_q_iret d13_58 rfl
-- GroupLedger$Program.copyFrom(LGroupLedger$Program;)V
theorem d14_0 : decode (sm_code 14) 0 = .ok (.aload_n 1, 1) := by decide +kernel
theorem r14_0 {X : sm_X} {w : sm_W} {Q : Option Value → sm_W → Prop} {x0 : Nat} {x1 : Nat} : sm_R X 14 0 [.ref x0, .ref x1] [] w Q ↔ sm_R X 14 1 [.ref x0, .ref x1] [.ref x1] w Q := sm_R_go d14_0 rfl
theorem d14_1 : decode (sm_code 14) 1 = .ok (.getfield 9, 3) := by decide +kernel
theorem r14_1 {X : sm_X} {w : sm_W} {Q : Option Value → sm_W → Prop} {x0 : Nat} {x1 : Nat} {s0 : Nat} : sm_R X 14 1 [.ref x0, .ref x1] [.ref s0] w Q ↔ sm_wp (sm_fld 3 0 (sm_at w s0)) (fun v => sm_R X 14 4 [.ref x0, .ref x1] [v] w Q) := sm_q_getf d14_1 rfl (by decide)
theorem d14_4 : decode (sm_code 14) 4 = .ok (.iconst 0, 1) := by decide +kernel
theorem r14_4 {X : sm_X} {w : sm_W} {Q : Option Value → sm_W → Prop} {x0 : Nat} {x1 : Nat} {s0 : Nat} : sm_R X 14 4 [.ref x0, .ref x1] [.ref s0] w Q ↔ sm_R X 14 5 [.ref x0, .ref x1] [.int 0, .ref s0] w Q := sm_R_go d14_4 rfl
theorem d14_5 : decode (sm_code 14) 5 = .ok (.aload_n 0, 1) := by decide +kernel
theorem r14_5 {X : sm_X} {w : sm_W} {Q : Option Value → sm_W → Prop} {x0 : Nat} {x1 : Nat} {s0 : Int32} {s1 : Nat} : sm_R X 14 5 [.ref x0, .ref x1] [.int s0, .ref s1] w Q ↔ sm_R X 14 6 [.ref x0, .ref x1] [.ref x0, .int s0, .ref s1] w Q := sm_R_go d14_5 rfl
theorem d14_6 : decode (sm_code 14) 6 = .ok (.getfield 9, 3) := by decide +kernel
theorem r14_6 {X : sm_X} {w : sm_W} {Q : Option Value → sm_W → Prop} {x0 : Nat} {x1 : Nat} {s0 : Nat} {s1 : Int32} {s2 : Nat} : sm_R X 14 6 [.ref x0, .ref x1] [.ref s0, .int s1, .ref s2] w Q ↔ sm_wp (sm_fld 3 0 (sm_at w s0)) (fun v => sm_R X 14 9 [.ref x0, .ref x1] [v, .int s1, .ref s2] w Q) := sm_q_getf d14_6 rfl (by decide)
theorem d14_9 : decode (sm_code 14) 9 = .ok (.iconst 0, 1) := by decide +kernel
theorem r14_9 {X : sm_X} {w : sm_W} {Q : Option Value → sm_W → Prop} {x0 : Nat} {x1 : Nat} {s0 : Nat} {s1 : Int32} {s2 : Nat} : sm_R X 14 9 [.ref x0, .ref x1] [.ref s0, .int s1, .ref s2] w Q ↔ sm_R X 14 10 [.ref x0, .ref x1] [.int 0, .ref s0, .int s1, .ref s2] w Q := sm_R_go d14_9 rfl
theorem d14_10 : decode (sm_code 14) 10 = .ok (.aload_n 1, 1) := by decide +kernel
theorem r14_10 {X : sm_X} {w : sm_W} {Q : Option Value → sm_W → Prop} {x0 : Nat} {x1 : Nat} {s0 : Int32} {s1 : Nat} {s2 : Int32} {s3 : Nat} : sm_R X 14 10 [.ref x0, .ref x1] [.int s0, .ref s1, .int s2, .ref s3] w Q ↔ sm_R X 14 11 [.ref x0, .ref x1] [.ref x1, .int s0, .ref s1, .int s2, .ref s3] w Q := sm_R_go d14_10 rfl
theorem d14_11 : decode (sm_code 14) 11 = .ok (.getfield 18, 3) := by decide +kernel
theorem r14_11 {X : sm_X} {w : sm_W} {Q : Option Value → sm_W → Prop} {x0 : Nat} {x1 : Nat} {s0 : Nat} {s1 : Int32} {s2 : Nat} {s3 : Int32} {s4 : Nat} : sm_R X 14 11 [.ref x0, .ref x1] [.ref s0, .int s1, .ref s2, .int s3, .ref s4] w Q ↔ sm_wp (sm_fld 3 2 (sm_at w s0)) (fun v => sm_R X 14 14 [.ref x0, .ref x1] [v, .int s1, .ref s2, .int s3, .ref s4] w Q) := sm_q_getf d14_11 rfl (by decide)
theorem d14_14 : decode (sm_code 14) 14 = .ok (.invokestatic 22, 3) := by decide +kernel
theorem r14_14 {X : sm_X} {w : sm_W} {Q : Option Value → sm_W → Prop} {x0 : Nat} {x1 : Nat} {s0 : Int32} {s1 : Int32} {s2 : Nat} {s3 : Int32} {s4 : Nat} (h : ¬ (s4 < 100 ∨ s2 < 100)) : sm_R X 14 14 [.ref x0, .ref x1] [.int s0, .int s1, .ref s2, .int s3, .ref s4] w Q ↔ sm_wp (sm_cpi s3 s1 s0 (sm_at w s4) (sm_at w s2)) (fun c => sm_R X 14 17 [.ref x0, .ref x1] [] (w.set (s2 - 100) c) Q) := sm_q_cpy d14_14 rfl (by decide) (by decide) h
theorem d14_17 : decode (sm_code 14) 17 = .ok (.aload_n 1, 1) := by decide +kernel
theorem r14_17 {X : sm_X} {w : sm_W} {Q : Option Value → sm_W → Prop} {x0 : Nat} {x1 : Nat} : sm_R X 14 17 [.ref x0, .ref x1] [] w Q ↔ sm_R X 14 18 [.ref x0, .ref x1] [.ref x1] w Q := sm_R_go d14_17 rfl
theorem d14_18 : decode (sm_code 14) 18 = .ok (.getfield 15, 3) := by decide +kernel
theorem r14_18 {X : sm_X} {w : sm_W} {Q : Option Value → sm_W → Prop} {x0 : Nat} {x1 : Nat} {s0 : Nat} : sm_R X 14 18 [.ref x0, .ref x1] [.ref s0] w Q ↔ sm_wp (sm_fld 3 1 (sm_at w s0)) (fun v => sm_R X 14 21 [.ref x0, .ref x1] [v] w Q) := sm_q_getf d14_18 rfl (by decide)
theorem d14_21 : decode (sm_code 14) 21 = .ok (.iconst 0, 1) := by decide +kernel
theorem r14_21 {X : sm_X} {w : sm_W} {Q : Option Value → sm_W → Prop} {x0 : Nat} {x1 : Nat} {s0 : Nat} : sm_R X 14 21 [.ref x0, .ref x1] [.ref s0] w Q ↔ sm_R X 14 22 [.ref x0, .ref x1] [.int 0, .ref s0] w Q := sm_R_go d14_21 rfl
theorem d14_22 : decode (sm_code 14) 22 = .ok (.aload_n 0, 1) := by decide +kernel
theorem r14_22 {X : sm_X} {w : sm_W} {Q : Option Value → sm_W → Prop} {x0 : Nat} {x1 : Nat} {s0 : Int32} {s1 : Nat} : sm_R X 14 22 [.ref x0, .ref x1] [.int s0, .ref s1] w Q ↔ sm_R X 14 23 [.ref x0, .ref x1] [.ref x0, .int s0, .ref s1] w Q := sm_R_go d14_22 rfl
theorem d14_23 : decode (sm_code 14) 23 = .ok (.getfield 15, 3) := by decide +kernel
theorem r14_23 {X : sm_X} {w : sm_W} {Q : Option Value → sm_W → Prop} {x0 : Nat} {x1 : Nat} {s0 : Nat} {s1 : Int32} {s2 : Nat} : sm_R X 14 23 [.ref x0, .ref x1] [.ref s0, .int s1, .ref s2] w Q ↔ sm_wp (sm_fld 3 1 (sm_at w s0)) (fun v => sm_R X 14 26 [.ref x0, .ref x1] [v, .int s1, .ref s2] w Q) := sm_q_getf d14_23 rfl (by decide)
theorem d14_26 : decode (sm_code 14) 26 = .ok (.iconst 0, 1) := by decide +kernel
theorem r14_26 {X : sm_X} {w : sm_W} {Q : Option Value → sm_W → Prop} {x0 : Nat} {x1 : Nat} {s0 : Nat} {s1 : Int32} {s2 : Nat} : sm_R X 14 26 [.ref x0, .ref x1] [.ref s0, .int s1, .ref s2] w Q ↔ sm_R X 14 27 [.ref x0, .ref x1] [.int 0, .ref s0, .int s1, .ref s2] w Q := sm_R_go d14_26 rfl
theorem d14_27 : decode (sm_code 14) 27 = .ok (.aload_n 1, 1) := by decide +kernel
theorem r14_27 {X : sm_X} {w : sm_W} {Q : Option Value → sm_W → Prop} {x0 : Nat} {x1 : Nat} {s0 : Int32} {s1 : Nat} {s2 : Int32} {s3 : Nat} : sm_R X 14 27 [.ref x0, .ref x1] [.int s0, .ref s1, .int s2, .ref s3] w Q ↔ sm_R X 14 28 [.ref x0, .ref x1] [.ref x1, .int s0, .ref s1, .int s2, .ref s3] w Q := sm_R_go d14_27 rfl
theorem d14_28 : decode (sm_code 14) 28 = .ok (.getfield 18, 3) := by decide +kernel
theorem r14_28 {X : sm_X} {w : sm_W} {Q : Option Value → sm_W → Prop} {x0 : Nat} {x1 : Nat} {s0 : Nat} {s1 : Int32} {s2 : Nat} {s3 : Int32} {s4 : Nat} : sm_R X 14 28 [.ref x0, .ref x1] [.ref s0, .int s1, .ref s2, .int s3, .ref s4] w Q ↔ sm_wp (sm_fld 3 2 (sm_at w s0)) (fun v => sm_R X 14 31 [.ref x0, .ref x1] [v, .int s1, .ref s2, .int s3, .ref s4] w Q) := sm_q_getf d14_28 rfl (by decide)
theorem d14_31 : decode (sm_code 14) 31 = .ok (.invokestatic 22, 3) := by decide +kernel
theorem r14_31 {X : sm_X} {w : sm_W} {Q : Option Value → sm_W → Prop} {x0 : Nat} {x1 : Nat} {s0 : Int32} {s1 : Int32} {s2 : Nat} {s3 : Int32} {s4 : Nat} (h : ¬ (s4 < 100 ∨ s2 < 100)) : sm_R X 14 31 [.ref x0, .ref x1] [.int s0, .int s1, .ref s2, .int s3, .ref s4] w Q ↔ sm_wp (sm_cpi s3 s1 s0 (sm_at w s4) (sm_at w s2)) (fun c => sm_R X 14 34 [.ref x0, .ref x1] [] (w.set (s2 - 100) c) Q) := sm_q_cpy d14_31 rfl (by decide) (by decide) h
theorem d14_34 : decode (sm_code 14) 34 = .ok (.aload_n 0, 1) := by decide +kernel
theorem r14_34 {X : sm_X} {w : sm_W} {Q : Option Value → sm_W → Prop} {x0 : Nat} {x1 : Nat} : sm_R X 14 34 [.ref x0, .ref x1] [] w Q ↔ sm_R X 14 35 [.ref x0, .ref x1] [.ref x0] w Q := sm_R_go d14_34 rfl
theorem d14_35 : decode (sm_code 14) 35 = .ok (.aload_n 1, 1) := by decide +kernel
theorem r14_35 {X : sm_X} {w : sm_W} {Q : Option Value → sm_W → Prop} {x0 : Nat} {x1 : Nat} {s0 : Nat} : sm_R X 14 35 [.ref x0, .ref x1] [.ref s0] w Q ↔ sm_R X 14 36 [.ref x0, .ref x1] [.ref x1, .ref s0] w Q := sm_R_go d14_35 rfl
theorem d14_36 : decode (sm_code 14) 36 = .ok (.getfield 18, 3) := by decide +kernel
theorem r14_36 {X : sm_X} {w : sm_W} {Q : Option Value → sm_W → Prop} {x0 : Nat} {x1 : Nat} {s0 : Nat} {s1 : Nat} : sm_R X 14 36 [.ref x0, .ref x1] [.ref s0, .ref s1] w Q ↔ sm_wp (sm_fld 3 2 (sm_at w s0)) (fun v => sm_R X 14 39 [.ref x0, .ref x1] [v, .ref s1] w Q) := sm_q_getf d14_36 rfl (by decide)
theorem d14_39 : decode (sm_code 14) 39 = .ok (.putfield 18, 3) := by decide +kernel
theorem r14_39 {X : sm_X} {w : sm_W} {Q : Option Value → sm_W → Prop} {x0 : Nat} {x1 : Nat} {s0 : Int32} {s1 : Nat} : sm_R X 14 39 [.ref x0, .ref x1] [.int s0, .ref s1] w Q ↔ sm_wp (sm_pfl 3 2 (.int s0) (sm_at w s1)) (fun c => sm_R X 14 42 [.ref x0, .ref x1] [] (w.set (s1 - 100) c) Q) := sm_q_putf d14_39 rfl rfl rfl (by decide)
theorem d14_42 : decode (sm_code 14) 42 = .ok (.return_, 1) := by decide +kernel
theorem r14_42 {X : sm_X} {w : sm_W} {Q : Option Value → sm_W → Prop} {x0 : Nat} {x1 : Nat} : sm_R X 14 42 [.ref x0, .ref x1] [] w Q ↔ Q none w := sm_R_ret d14_42 rfl
-- GroupLedger$Books.clearGlobals(I)V
theorem d15_0 : decode (sm_code 15) 0 = .ok (.iconst 0, 1) := by decide +kernel
theorem r15_0 {X : sm_X} {w : sm_W} {Q : Option Value → sm_W → Prop} {x0 : Nat} {x1 : Int32} : sm_R X 15 0 [.ref x0, .int x1, sm_J] [] w Q ↔ sm_R X 15 1 [.ref x0, .int x1, sm_J] [.int 0] w Q := sm_R_go d15_0 rfl
theorem d15_1 : decode (sm_code 15) 1 = .ok (.istore_n 2, 1) := by decide +kernel
theorem r15_1 {X : sm_X} {w : sm_W} {Q : Option Value → sm_W → Prop} {x0 : Nat} {x1 : Int32} {s0 : Int32} : sm_R X 15 1 [.ref x0, .int x1, sm_J] [.int s0] w Q ↔ sm_R X 15 2 [.ref x0, .int x1, .int s0] [] w Q := sm_R_go d15_1 rfl
theorem d15_2 : decode (sm_code 15) 2 = .ok (.iload_n 2, 1) := by decide +kernel
theorem r15_2 {X : sm_X} {w : sm_W} {Q : Option Value → sm_W → Prop} {x0 : Nat} {x1 : Int32} {x2 : Int32} : sm_R X 15 2 [.ref x0, .int x1, .int x2] [] w Q ↔ sm_R X 15 3 [.ref x0, .int x1, .int x2] [.int x2] w Q := sm_R_go d15_2 rfl
theorem d15_3 : decode (sm_code 15) 3 = .ok (.iconst 4, 1) := by decide +kernel
theorem r15_3 {X : sm_X} {w : sm_W} {Q : Option Value → sm_W → Prop} {x0 : Nat} {x1 : Int32} {x2 : Int32} {s0 : Int32} : sm_R X 15 3 [.ref x0, .int x1, .int x2] [.int s0] w Q ↔ sm_R X 15 4 [.ref x0, .int x1, .int x2] [.int 4, .int s0] w Q := sm_R_go d15_3 rfl
theorem d15_4 : decode (sm_code 15) 4 = .ok (.if_icmp .ge 18, 3) := by decide +kernel
theorem r15_4 {X : sm_X} {w : sm_W} {Q : Option Value → sm_W → Prop} {x0 : Nat} {x1 : Int32} {x2 : Int32} {s0 : Int32} {s1 : Int32} : sm_R X 15 4 [.ref x0, .int x1, .int x2] [.int s0, .int s1] w Q ↔ (if s0 ≤ s1 then sm_R X 15 22 [.ref x0, .int x1, .int x2] [] w Q else sm_R X 15 7 [.ref x0, .int x1, .int x2] [] w Q) := sm_q_br d15_4 rfl
theorem d15_7 : decode (sm_code 15) 7 = .ok (.aload_n 0, 1) := by decide +kernel
theorem r15_7 {X : sm_X} {w : sm_W} {Q : Option Value → sm_W → Prop} {x0 : Nat} {x1 : Int32} {x2 : Int32} : sm_R X 15 7 [.ref x0, .int x1, .int x2] [] w Q ↔ sm_R X 15 8 [.ref x0, .int x1, .int x2] [.ref x0] w Q := sm_R_go d15_7 rfl
theorem d15_8 : decode (sm_code 15) 8 = .ok (.getfield 17, 3) := by decide +kernel
theorem r15_8 {X : sm_X} {w : sm_W} {Q : Option Value → sm_W → Prop} {x0 : Nat} {x1 : Int32} {x2 : Int32} {s0 : Nat} : sm_R X 15 8 [.ref x0, .int x1, .int x2] [.ref s0] w Q ↔ sm_wp (sm_fld 0 1 (sm_at w s0)) (fun v => sm_R X 15 11 [.ref x0, .int x1, .int x2] [v] w Q) := sm_q_getf d15_8 rfl (by decide)
theorem d15_11 : decode (sm_code 15) 11 = .ok (.iload_n 1, 1) := by decide +kernel
theorem r15_11 {X : sm_X} {w : sm_W} {Q : Option Value → sm_W → Prop} {x0 : Nat} {x1 : Int32} {x2 : Int32} {s0 : Nat} : sm_R X 15 11 [.ref x0, .int x1, .int x2] [.ref s0] w Q ↔ sm_R X 15 12 [.ref x0, .int x1, .int x2] [.int x1, .ref s0] w Q := sm_R_go d15_11 rfl
theorem d15_12 : decode (sm_code 15) 12 = .ok (.aaload, 1) := by decide +kernel
theorem r15_12 {X : sm_X} {w : sm_W} {Q : Option Value → sm_W → Prop} {x0 : Nat} {x1 : Int32} {x2 : Int32} {s0 : Int32} {s1 : Nat} : sm_R X 15 12 [.ref x0, .int x1, .int x2] [.int s0, .ref s1] w Q ↔ sm_wp (sm_aa s1 s0 (sm_get X w s1)) (fun v => sm_R X 15 13 [.ref x0, .int x1, .int x2] [.ref v] w Q) := sm_q_aald d15_12
theorem d15_13 : decode (sm_code 15) 13 = .ok (.iload_n 2, 1) := by decide +kernel
theorem r15_13 {X : sm_X} {w : sm_W} {Q : Option Value → sm_W → Prop} {x0 : Nat} {x1 : Int32} {x2 : Int32} {s0 : Nat} : sm_R X 15 13 [.ref x0, .int x1, .int x2] [.ref s0] w Q ↔ sm_R X 15 14 [.ref x0, .int x1, .int x2] [.int x2, .ref s0] w Q := sm_R_go d15_13 rfl
theorem d15_14 : decode (sm_code 15) 14 = .ok (.iconst 0, 1) := by decide +kernel
theorem r15_14 {X : sm_X} {w : sm_W} {Q : Option Value → sm_W → Prop} {x0 : Nat} {x1 : Int32} {x2 : Int32} {s0 : Int32} {s1 : Nat} : sm_R X 15 14 [.ref x0, .int x1, .int x2] [.int s0, .ref s1] w Q ↔ sm_R X 15 15 [.ref x0, .int x1, .int x2] [.int 0, .int s0, .ref s1] w Q := sm_R_go d15_14 rfl
theorem d15_15 : decode (sm_code 15) 15 = .ok (.iastore, 1) := by decide +kernel
theorem r15_15 {X : sm_X} {w : sm_W} {Q : Option Value → sm_W → Prop} {x0 : Nat} {x1 : Int32} {x2 : Int32} {s0 : Int32} {s1 : Int32} {s2 : Nat} : sm_R X 15 15 [.ref x0, .int x1, .int x2] [.int s0, .int s1, .ref s2] w Q ↔ sm_wp (sm_si s1 s0 (sm_at w s2)) (fun c => sm_R X 15 16 [.ref x0, .int x1, .int x2] [] (w.set (s2 - 100) c) Q) := sm_q_iast d15_15
theorem d15_16 : decode (sm_code 15) 16 = .ok (.iinc 2 1, 3) := by decide +kernel
theorem r15_16 {X : sm_X} {w : sm_W} {Q : Option Value → sm_W → Prop} {x0 : Nat} {x1 : Int32} {x2 : Int32} : sm_R X 15 16 [.ref x0, .int x1, .int x2] [] w Q ↔ sm_R X 15 19 [.ref x0, .int x1, .int (x2 + 1)] [] w Q := sm_R_go d15_16 rfl
theorem d15_19 : decode (sm_code 15) 19 = .ok (.goto (-17), 3) := by decide +kernel
theorem r15_19 {X : sm_X} {w : sm_W} {Q : Option Value → sm_W → Prop} {x0 : Nat} {x1 : Int32} {x2 : Int32} : sm_R X 15 19 [.ref x0, .int x1, .int x2] [] w Q ↔ sm_R X 15 2 [.ref x0, .int x1, .int x2] [] w Q := sm_R_go d15_19 rfl
theorem d15_22 : decode (sm_code 15) 22 = .ok (.return_, 1) := by decide +kernel
theorem r15_22 {X : sm_X} {w : sm_W} {Q : Option Value → sm_W → Prop} {x0 : Nat} {x1 : Int32} {x2 : Int32} : sm_R X 15 22 [.ref x0, .int x1, .int x2] [] w Q ↔ Q none w := sm_R_ret d15_22 rfl
-- GroupLedger.pay(III)I
theorem d16_0 : decode (sm_code 16) 0 = .ok (.iload_n 1, 1) := by decide +kernel
theorem r16_0 {X : sm_X} {w : sm_W} {Q : Option Value → sm_W → Prop} {x0 : Nat} {x1 : Int32} {x2 : Int32} {x3 : Int32} : sm_R X 16 0 [.ref x0, .int x1, .int x2, .int x3] [] w Q ↔ sm_R X 16 1 [.ref x0, .int x1, .int x2, .int x3] [.int x1] w Q := sm_R_go d16_0 rfl
theorem d16_1 : decode (sm_code 16) 1 = .ok (.bipush 6, 2) := by decide +kernel
theorem r16_1 {X : sm_X} {w : sm_W} {Q : Option Value → sm_W → Prop} {x0 : Nat} {x1 : Int32} {x2 : Int32} {x3 : Int32} {s0 : Int32} : sm_R X 16 1 [.ref x0, .int x1, .int x2, .int x3] [.int s0] w Q ↔ sm_R X 16 3 [.ref x0, .int x1, .int x2, .int x3] [.int 6, .int s0] w Q := sm_R_go d16_1 rfl
theorem d16_3 : decode (sm_code 16) 3 = .ok (.invokestatic 50, 3) := by decide +kernel
theorem r16_3 {X : sm_X} {w : sm_W} {Q : Option Value → sm_W → Prop} {x0 : Nat} {x1 : Int32} {x2 : Int32} {x3 : Int32} {s0 : Int32} {s1 : Int32} : sm_R X 16 3 [.ref x0, .int x1, .int x2, .int x3] [.int s0, .int s1] w Q ↔ sm_R X 8 0 [.int s1, .int s0] [] w (fun v w => sm_R X 16 6 [.ref x0, .int x1, .int x2, .int x3] (v.toList ++ []) w Q) := sm_q_call (k := 8) (as := [.int s1, .int s0]) (rest := []) d16_3 rfl rfl
theorem d16_6 : decode (sm_code 16) 6 = .ok (.ifCond .eq 16, 3) := by decide +kernel
theorem r16_6 {X : sm_X} {w : sm_W} {Q : Option Value → sm_W → Prop} {x0 : Nat} {x1 : Int32} {x2 : Int32} {x3 : Int32} {s0 : Int32} : sm_R X 16 6 [.ref x0, .int x1, .int x2, .int x3] [.int s0] w Q ↔ (if s0 = 0 then sm_R X 16 22 [.ref x0, .int x1, .int x2, .int x3] [] w Q else sm_R X 16 9 [.ref x0, .int x1, .int x2, .int x3] [] w Q) := sm_q_br d16_6 rfl
theorem d16_9 : decode (sm_code 16) 9 = .ok (.iload_n 2, 1) := by decide +kernel
theorem r16_9 {X : sm_X} {w : sm_W} {Q : Option Value → sm_W → Prop} {x0 : Nat} {x1 : Int32} {x2 : Int32} {x3 : Int32} : sm_R X 16 9 [.ref x0, .int x1, .int x2, .int x3] [] w Q ↔ sm_R X 16 10 [.ref x0, .int x1, .int x2, .int x3] [.int x2] w Q := sm_R_go d16_9 rfl
theorem d16_10 : decode (sm_code 16) 10 = .ok (.bipush 6, 2) := by decide +kernel
theorem r16_10 {X : sm_X} {w : sm_W} {Q : Option Value → sm_W → Prop} {x0 : Nat} {x1 : Int32} {x2 : Int32} {x3 : Int32} {s0 : Int32} : sm_R X 16 10 [.ref x0, .int x1, .int x2, .int x3] [.int s0] w Q ↔ sm_R X 16 12 [.ref x0, .int x1, .int x2, .int x3] [.int 6, .int s0] w Q := sm_R_go d16_10 rfl
theorem d16_12 : decode (sm_code 16) 12 = .ok (.invokestatic 50, 3) := by decide +kernel
theorem r16_12 {X : sm_X} {w : sm_W} {Q : Option Value → sm_W → Prop} {x0 : Nat} {x1 : Int32} {x2 : Int32} {x3 : Int32} {s0 : Int32} {s1 : Int32} : sm_R X 16 12 [.ref x0, .int x1, .int x2, .int x3] [.int s0, .int s1] w Q ↔ sm_R X 8 0 [.int s1, .int s0] [] w (fun v w => sm_R X 16 15 [.ref x0, .int x1, .int x2, .int x3] (v.toList ++ []) w Q) := sm_q_call (k := 8) (as := [.int s1, .int s0]) (rest := []) d16_12 rfl rfl
theorem d16_15 : decode (sm_code 16) 15 = .ok (.ifCond .eq 7, 3) := by decide +kernel
theorem r16_15 {X : sm_X} {w : sm_W} {Q : Option Value → sm_W → Prop} {x0 : Nat} {x1 : Int32} {x2 : Int32} {x3 : Int32} {s0 : Int32} : sm_R X 16 15 [.ref x0, .int x1, .int x2, .int x3] [.int s0] w Q ↔ (if s0 = 0 then sm_R X 16 22 [.ref x0, .int x1, .int x2, .int x3] [] w Q else sm_R X 16 18 [.ref x0, .int x1, .int x2, .int x3] [] w Q) := sm_q_br d16_15 rfl
theorem d16_18 : decode (sm_code 16) 18 = .ok (.iload_n 3, 1) := by decide +kernel
theorem r16_18 {X : sm_X} {w : sm_W} {Q : Option Value → sm_W → Prop} {x0 : Nat} {x1 : Int32} {x2 : Int32} {x3 : Int32} : sm_R X 16 18 [.ref x0, .int x1, .int x2, .int x3] [] w Q ↔ sm_R X 16 19 [.ref x0, .int x1, .int x2, .int x3] [.int x3] w Q := sm_R_go d16_18 rfl
theorem d16_19 : decode (sm_code 16) 19 = .ok (.ifCond .ge 5, 3) := by decide +kernel
theorem r16_19 {X : sm_X} {w : sm_W} {Q : Option Value → sm_W → Prop} {x0 : Nat} {x1 : Int32} {x2 : Int32} {x3 : Int32} {s0 : Int32} : sm_R X 16 19 [.ref x0, .int x1, .int x2, .int x3] [.int s0] w Q ↔ (if 0 ≤ s0 then sm_R X 16 24 [.ref x0, .int x1, .int x2, .int x3] [] w Q else sm_R X 16 22 [.ref x0, .int x1, .int x2, .int x3] [] w Q) := sm_q_br d16_19 rfl
theorem d16_22 : decode (sm_code 16) 22 = .ok (.iconst (-1), 1) := by decide +kernel
theorem r16_22 {X : sm_X} {w : sm_W} {Q : Option Value → sm_W → Prop} {x0 : Nat} {x1 : Int32} {x2 : Int32} {x3 : Int32} : sm_R X 16 22 [.ref x0, .int x1, .int x2, .int x3] [] w Q ↔ sm_R X 16 23 [.ref x0, .int x1, .int x2, .int x3] [.int (-1)] w Q := sm_R_go d16_22 rfl
theorem d16_23 : decode (sm_code 16) 23 = .ok (.ireturn, 1) := by decide +kernel
theorem r16_23 {X : sm_X} {w : sm_W} {Q : Option Value → sm_W → Prop} {x0 : Nat} {x1 : Int32} {x2 : Int32} {x3 : Int32} {s0 : Int32} : sm_R X 16 23 [.ref x0, .int x1, .int x2, .int x3] [.int s0] w Q ↔ Q (some (.int s0)) w := sm_q_iret d16_23 rfl
theorem d16_24 : decode (sm_code 16) 24 = .ok (.aload_n 0, 1) := by decide +kernel
theorem r16_24 {X : sm_X} {w : sm_W} {Q : Option Value → sm_W → Prop} {x0 : Nat} {x1 : Int32} {x2 : Int32} {x3 : Int32} : sm_R X 16 24 [.ref x0, .int x1, .int x2, .int x3] [] w Q ↔ sm_R X 16 25 [.ref x0, .int x1, .int x2, .int x3] [.ref x0] w Q := sm_R_go d16_24 rfl
theorem d16_25 : decode (sm_code 16) 25 = .ok (.getfield 33, 3) := by decide +kernel
theorem r16_25 {X : sm_X} {w : sm_W} {Q : Option Value → sm_W → Prop} {x0 : Nat} {x1 : Int32} {x2 : Int32} {x3 : Int32} {s0 : Nat} : sm_R X 16 25 [.ref x0, .int x1, .int x2, .int x3] [.ref s0] w Q ↔ sm_wp (sm_fld 6 4 (sm_at w s0)) (fun v => sm_R X 16 28 [.ref x0, .int x1, .int x2, .int x3] [v] w Q) := sm_q_getf d16_25 rfl (by decide)
theorem d16_28 : decode (sm_code 16) 28 = .ok (.getfield 86, 3) := by decide +kernel
theorem r16_28 {X : sm_X} {w : sm_W} {Q : Option Value → sm_W → Prop} {x0 : Nat} {x1 : Int32} {x2 : Int32} {x3 : Int32} {s0 : Nat} : sm_R X 16 28 [.ref x0, .int x1, .int x2, .int x3] [.ref s0] w Q ↔ sm_wp (sm_fld 1 1 (sm_at w s0)) (fun v => sm_R X 16 31 [.ref x0, .int x1, .int x2, .int x3] [v] w Q) := sm_q_getf d16_28 rfl (by decide)
theorem d16_31 : decode (sm_code 16) 31 = .ok (.iconst 4, 1) := by decide +kernel
theorem r16_31 {X : sm_X} {w : sm_W} {Q : Option Value → sm_W → Prop} {x0 : Nat} {x1 : Int32} {x2 : Int32} {x3 : Int32} {s0 : Int32} : sm_R X 16 31 [.ref x0, .int x1, .int x2, .int x3] [.int s0] w Q ↔ sm_R X 16 32 [.ref x0, .int x1, .int x2, .int x3] [.int 4, .int s0] w Q := sm_R_go d16_31 rfl
theorem d16_32 : decode (sm_code 16) 32 = .ok (.if_icmp .lt 6, 3) := by decide +kernel
theorem r16_32 {X : sm_X} {w : sm_W} {Q : Option Value → sm_W → Prop} {x0 : Nat} {x1 : Int32} {x2 : Int32} {x3 : Int32} {s0 : Int32} {s1 : Int32} : sm_R X 16 32 [.ref x0, .int x1, .int x2, .int x3] [.int s0, .int s1] w Q ↔ (if s1 < s0 then sm_R X 16 38 [.ref x0, .int x1, .int x2, .int x3] [] w Q else sm_R X 16 35 [.ref x0, .int x1, .int x2, .int x3] [] w Q) := sm_q_br d16_32 rfl
theorem d16_35 : decode (sm_code 16) 35 = .ok (.bipush (-2), 2) := by decide +kernel
theorem r16_35 {X : sm_X} {w : sm_W} {Q : Option Value → sm_W → Prop} {x0 : Nat} {x1 : Int32} {x2 : Int32} {x3 : Int32} : sm_R X 16 35 [.ref x0, .int x1, .int x2, .int x3] [] w Q ↔ sm_R X 16 37 [.ref x0, .int x1, .int x2, .int x3] [.int (-2)] w Q := sm_R_go d16_35 rfl
theorem d16_37 : decode (sm_code 16) 37 = .ok (.ireturn, 1) := by decide +kernel
theorem r16_37 {X : sm_X} {w : sm_W} {Q : Option Value → sm_W → Prop} {x0 : Nat} {x1 : Int32} {x2 : Int32} {x3 : Int32} {s0 : Int32} : sm_R X 16 37 [.ref x0, .int x1, .int x2, .int x3] [.int s0] w Q ↔ Q (some (.int s0)) w := sm_q_iret d16_37 rfl
theorem d16_38 : decode (sm_code 16) 38 = .ok (.aload_n 0, 1) := by decide +kernel
theorem r16_38 {X : sm_X} {w : sm_W} {Q : Option Value → sm_W → Prop} {x0 : Nat} {x1 : Int32} {x2 : Int32} {x3 : Int32} : sm_R X 16 38 [.ref x0, .int x1, .int x2, .int x3] [] w Q ↔ sm_R X 16 39 [.ref x0, .int x1, .int x2, .int x3] [.ref x0] w Q := sm_R_go d16_38 rfl
theorem d16_39 : decode (sm_code 16) 39 = .ok (.getfield 33, 3) := by decide +kernel
theorem r16_39 {X : sm_X} {w : sm_W} {Q : Option Value → sm_W → Prop} {x0 : Nat} {x1 : Int32} {x2 : Int32} {x3 : Int32} {s0 : Nat} : sm_R X 16 39 [.ref x0, .int x1, .int x2, .int x3] [.ref s0] w Q ↔ sm_wp (sm_fld 6 4 (sm_at w s0)) (fun v => sm_R X 16 42 [.ref x0, .int x1, .int x2, .int x3] [v] w Q) := sm_q_getf d16_39 rfl (by decide)
theorem d16_42 : decode (sm_code 16) 42 = .ok (.getfield 87, 3) := by decide +kernel
theorem r16_42 {X : sm_X} {w : sm_W} {Q : Option Value → sm_W → Prop} {x0 : Nat} {x1 : Int32} {x2 : Int32} {x3 : Int32} {s0 : Nat} : sm_R X 16 42 [.ref x0, .int x1, .int x2, .int x3] [.ref s0] w Q ↔ sm_wp (sm_fld 1 0 (sm_at w s0)) (fun v => sm_R X 16 45 [.ref x0, .int x1, .int x2, .int x3] [v] w Q) := sm_q_getf d16_42 rfl (by decide)
theorem d16_45 : decode (sm_code 16) 45 = .ok (.aload_n 0, 1) := by decide +kernel
theorem r16_45 {X : sm_X} {w : sm_W} {Q : Option Value → sm_W → Prop} {x0 : Nat} {x1 : Int32} {x2 : Int32} {x3 : Int32} {s0 : Nat} : sm_R X 16 45 [.ref x0, .int x1, .int x2, .int x3] [.ref s0] w Q ↔ sm_R X 16 46 [.ref x0, .int x1, .int x2, .int x3] [.ref x0, .ref s0] w Q := sm_R_go d16_45 rfl
theorem d16_46 : decode (sm_code 16) 46 = .ok (.getfield 33, 3) := by decide +kernel
theorem r16_46 {X : sm_X} {w : sm_W} {Q : Option Value → sm_W → Prop} {x0 : Nat} {x1 : Int32} {x2 : Int32} {x3 : Int32} {s0 : Nat} {s1 : Nat} : sm_R X 16 46 [.ref x0, .int x1, .int x2, .int x3] [.ref s0, .ref s1] w Q ↔ sm_wp (sm_fld 6 4 (sm_at w s0)) (fun v => sm_R X 16 49 [.ref x0, .int x1, .int x2, .int x3] [v, .ref s1] w Q) := sm_q_getf d16_46 rfl (by decide)
theorem d16_49 : decode (sm_code 16) 49 = .ok (.getfield 86, 3) := by decide +kernel
theorem r16_49 {X : sm_X} {w : sm_W} {Q : Option Value → sm_W → Prop} {x0 : Nat} {x1 : Int32} {x2 : Int32} {x3 : Int32} {s0 : Nat} {s1 : Nat} : sm_R X 16 49 [.ref x0, .int x1, .int x2, .int x3] [.ref s0, .ref s1] w Q ↔ sm_wp (sm_fld 1 1 (sm_at w s0)) (fun v => sm_R X 16 52 [.ref x0, .int x1, .int x2, .int x3] [v, .ref s1] w Q) := sm_q_getf d16_49 rfl (by decide)
theorem d16_52 : decode (sm_code 16) 52 = .ok (.aaload, 1) := by decide +kernel
theorem r16_52 {X : sm_X} {w : sm_W} {Q : Option Value → sm_W → Prop} {x0 : Nat} {x1 : Int32} {x2 : Int32} {x3 : Int32} {s0 : Int32} {s1 : Nat} : sm_R X 16 52 [.ref x0, .int x1, .int x2, .int x3] [.int s0, .ref s1] w Q ↔ sm_wp (sm_aa s1 s0 (sm_get X w s1)) (fun v => sm_R X 16 53 [.ref x0, .int x1, .int x2, .int x3] [.ref v] w Q) := sm_q_aald d16_52
theorem d16_53 : decode (sm_code 16) 53 = .ok (.iload_n 1, 1) := by decide +kernel
theorem r16_53 {X : sm_X} {w : sm_W} {Q : Option Value → sm_W → Prop} {x0 : Nat} {x1 : Int32} {x2 : Int32} {x3 : Int32} {s0 : Nat} : sm_R X 16 53 [.ref x0, .int x1, .int x2, .int x3] [.ref s0] w Q ↔ sm_R X 16 54 [.ref x0, .int x1, .int x2, .int x3] [.int x1, .ref s0] w Q := sm_R_go d16_53 rfl
theorem d16_54 : decode (sm_code 16) 54 = .ok (.iload_n 2, 1) := by decide +kernel
theorem r16_54 {X : sm_X} {w : sm_W} {Q : Option Value → sm_W → Prop} {x0 : Nat} {x1 : Int32} {x2 : Int32} {x3 : Int32} {s0 : Int32} {s1 : Nat} : sm_R X 16 54 [.ref x0, .int x1, .int x2, .int x3] [.int s0, .ref s1] w Q ↔ sm_R X 16 55 [.ref x0, .int x1, .int x2, .int x3] [.int x2, .int s0, .ref s1] w Q := sm_R_go d16_54 rfl
theorem d16_55 : decode (sm_code 16) 55 = .ok (.iload_n 3, 1) := by decide +kernel
theorem r16_55 {X : sm_X} {w : sm_W} {Q : Option Value → sm_W → Prop} {x0 : Nat} {x1 : Int32} {x2 : Int32} {x3 : Int32} {s0 : Int32} {s1 : Int32} {s2 : Nat} : sm_R X 16 55 [.ref x0, .int x1, .int x2, .int x3] [.int s0, .int s1, .ref s2] w Q ↔ sm_R X 16 56 [.ref x0, .int x1, .int x2, .int x3] [.int x3, .int s0, .int s1, .ref s2] w Q := sm_R_go d16_55 rfl
theorem d16_56 : decode (sm_code 16) 56 = .ok (.invokevirtual 91, 3) := by decide +kernel
theorem r16_56 {X : sm_X} {w : sm_W} {Q : Option Value → sm_W → Prop} {x0 : Nat} {x1 : Int32} {x2 : Int32} {x3 : Int32} {s0 : Int32} {s1 : Int32} {s2 : Int32} {s3 : Nat} : sm_R X 16 56 [.ref x0, .int x1, .int x2, .int x3] [.int s0, .int s1, .int s2, .ref s3] w Q ↔ (sm_cN (sm_at w s3) = some 5 ∧ sm_R X 17 0 [.ref s3, .int s2, .int s1, .int s0] [] w (fun v w => sm_R X 16 59 [.ref x0, .int x1, .int x2, .int x3] (v.toList ++ []) w Q)) := sm_q_vir (k := 17) (as := [.ref s3, .int s2, .int s1, .int s0]) (rest := []) d16_56 rfl rfl rfl rfl rfl
theorem d16_59 : decode (sm_code 16) 59 = .ok (.aload_n 0, 1) := by decide +kernel
theorem r16_59 {X : sm_X} {w : sm_W} {Q : Option Value → sm_W → Prop} {x0 : Nat} {x1 : Int32} {x2 : Int32} {x3 : Int32} : sm_R X 16 59 [.ref x0, .int x1, .int x2, .int x3] [] w Q ↔ sm_R X 16 60 [.ref x0, .int x1, .int x2, .int x3] [.ref x0] w Q := sm_R_go d16_59 rfl
theorem d16_60 : decode (sm_code 16) 60 = .ok (.getfield 33, 3) := by decide +kernel
theorem r16_60 {X : sm_X} {w : sm_W} {Q : Option Value → sm_W → Prop} {x0 : Nat} {x1 : Int32} {x2 : Int32} {x3 : Int32} {s0 : Nat} : sm_R X 16 60 [.ref x0, .int x1, .int x2, .int x3] [.ref s0] w Q ↔ sm_wp (sm_fld 6 4 (sm_at w s0)) (fun v => sm_R X 16 63 [.ref x0, .int x1, .int x2, .int x3] [v] w Q) := sm_q_getf d16_60 rfl (by decide)
theorem d16_63 : decode (sm_code 16) 63 = .ok (.dup, 1) := by decide +kernel
theorem r16_63 {X : sm_X} {w : sm_W} {Q : Option Value → sm_W → Prop} {x0 : Nat} {x1 : Int32} {x2 : Int32} {x3 : Int32} {s0 : Nat} : sm_R X 16 63 [.ref x0, .int x1, .int x2, .int x3] [.ref s0] w Q ↔ sm_R X 16 64 [.ref x0, .int x1, .int x2, .int x3] [.ref s0, .ref s0] w Q := sm_R_go d16_63 rfl
theorem d16_64 : decode (sm_code 16) 64 = .ok (.getfield 86, 3) := by decide +kernel
theorem r16_64 {X : sm_X} {w : sm_W} {Q : Option Value → sm_W → Prop} {x0 : Nat} {x1 : Int32} {x2 : Int32} {x3 : Int32} {s0 : Nat} {s1 : Nat} : sm_R X 16 64 [.ref x0, .int x1, .int x2, .int x3] [.ref s0, .ref s1] w Q ↔ sm_wp (sm_fld 1 1 (sm_at w s0)) (fun v => sm_R X 16 67 [.ref x0, .int x1, .int x2, .int x3] [v, .ref s1] w Q) := sm_q_getf d16_64 rfl (by decide)
theorem d16_67 : decode (sm_code 16) 67 = .ok (.dup_x1, 1) := by decide +kernel
theorem r16_67 {X : sm_X} {w : sm_W} {Q : Option Value → sm_W → Prop} {x0 : Nat} {x1 : Int32} {x2 : Int32} {x3 : Int32} {s0 : Int32} {s1 : Nat} : sm_R X 16 67 [.ref x0, .int x1, .int x2, .int x3] [.int s0, .ref s1] w Q ↔ sm_R X 16 68 [.ref x0, .int x1, .int x2, .int x3] [.int s0, .ref s1, .int s0] w Q := sm_R_go d16_67 rfl
theorem d16_68 : decode (sm_code 16) 68 = .ok (.iconst 1, 1) := by decide +kernel
theorem r16_68 {X : sm_X} {w : sm_W} {Q : Option Value → sm_W → Prop} {x0 : Nat} {x1 : Int32} {x2 : Int32} {x3 : Int32} {s0 : Int32} {s1 : Nat} {s2 : Int32} : sm_R X 16 68 [.ref x0, .int x1, .int x2, .int x3] [.int s0, .ref s1, .int s2] w Q ↔ sm_R X 16 69 [.ref x0, .int x1, .int x2, .int x3] [.int 1, .int s0, .ref s1, .int s2] w Q := sm_R_go d16_68 rfl
theorem d16_69 : decode (sm_code 16) 69 = .ok (.iadd, 1) := by decide +kernel
theorem r16_69 {X : sm_X} {w : sm_W} {Q : Option Value → sm_W → Prop} {x0 : Nat} {x1 : Int32} {x2 : Int32} {x3 : Int32} {s0 : Int32} {s1 : Int32} {s2 : Nat} {s3 : Int32} : sm_R X 16 69 [.ref x0, .int x1, .int x2, .int x3] [.int s0, .int s1, .ref s2, .int s3] w Q ↔ sm_R X 16 70 [.ref x0, .int x1, .int x2, .int x3] [.int (s1 + s0), .ref s2, .int s3] w Q := sm_R_go d16_69 rfl
theorem d16_70 : decode (sm_code 16) 70 = .ok (.putfield 86, 3) := by decide +kernel
theorem r16_70 {X : sm_X} {w : sm_W} {Q : Option Value → sm_W → Prop} {x0 : Nat} {x1 : Int32} {x2 : Int32} {x3 : Int32} {s0 : Int32} {s1 : Nat} {s2 : Int32} : sm_R X 16 70 [.ref x0, .int x1, .int x2, .int x3] [.int s0, .ref s1, .int s2] w Q ↔ sm_wp (sm_pfl 1 1 (.int s0) (sm_at w s1)) (fun c => sm_R X 16 73 [.ref x0, .int x1, .int x2, .int x3] [.int s2] (w.set (s1 - 100) c) Q) := sm_q_putf d16_70 rfl rfl rfl (by decide)
theorem d16_73 : decode (sm_code 16) 73 = .ok (.ireturn, 1) := by decide +kernel
theorem r16_73 {X : sm_X} {w : sm_W} {Q : Option Value → sm_W → Prop} {x0 : Nat} {x1 : Int32} {x2 : Int32} {x3 : Int32} {s0 : Int32} : sm_R X 16 73 [.ref x0, .int x1, .int x2, .int x3] [.int s0] w Q ↔ Q (some (.int s0)) w := sm_q_iret d16_73 rfl
-- GroupLedger$Transaction.becomePayment(III)V
theorem d17_0 : decode (sm_code 17) 0 = .ok (.aload_n 0, 1) := by decide +kernel
theorem r17_0 {X : sm_X} {w : sm_W} {Q : Option Value → sm_W → Prop} {x0 : Nat} {x1 : Int32} {x2 : Int32} {x3 : Int32} : sm_R X 17 0 [.ref x0, .int x1, .int x2, .int x3] [] w Q ↔ sm_R X 17 1 [.ref x0, .int x1, .int x2, .int x3] [.ref x0] w Q := sm_R_go d17_0 rfl
theorem d17_1 : decode (sm_code 17) 1 = .ok (.iconst 1, 1) := by decide +kernel
theorem r17_1 {X : sm_X} {w : sm_W} {Q : Option Value → sm_W → Prop} {x0 : Nat} {x1 : Int32} {x2 : Int32} {x3 : Int32} {s0 : Nat} : sm_R X 17 1 [.ref x0, .int x1, .int x2, .int x3] [.ref s0] w Q ↔ sm_R X 17 2 [.ref x0, .int x1, .int x2, .int x3] [.int 1, .ref s0] w Q := sm_R_go d17_1 rfl
theorem d17_2 : decode (sm_code 17) 2 = .ok (.putfield 15, 3) := by decide +kernel
theorem r17_2 {X : sm_X} {w : sm_W} {Q : Option Value → sm_W → Prop} {x0 : Nat} {x1 : Int32} {x2 : Int32} {x3 : Int32} {s0 : Int32} {s1 : Nat} (h : s0 = 0 ∨ s0 = 1) : sm_R X 17 2 [.ref x0, .int x1, .int x2, .int x3] [.int s0, .ref s1] w Q ↔ sm_wp (sm_pfl 5 0 (.int s0) (sm_at w s1)) (fun c => sm_R X 17 5 [.ref x0, .int x1, .int x2, .int x3] [] (w.set (s1 - 100) c) Q) := sm_q_putf d17_2 rfl (sm_bn h) (sm_bf h) (by decide)
theorem d17_5 : decode (sm_code 17) 5 = .ok (.aload_n 0, 1) := by decide +kernel
theorem r17_5 {X : sm_X} {w : sm_W} {Q : Option Value → sm_W → Prop} {x0 : Nat} {x1 : Int32} {x2 : Int32} {x3 : Int32} : sm_R X 17 5 [.ref x0, .int x1, .int x2, .int x3] [] w Q ↔ sm_R X 17 6 [.ref x0, .int x1, .int x2, .int x3] [.ref x0] w Q := sm_R_go d17_5 rfl
theorem d17_6 : decode (sm_code 17) 6 = .ok (.iload_n 1, 1) := by decide +kernel
theorem r17_6 {X : sm_X} {w : sm_W} {Q : Option Value → sm_W → Prop} {x0 : Nat} {x1 : Int32} {x2 : Int32} {x3 : Int32} {s0 : Nat} : sm_R X 17 6 [.ref x0, .int x1, .int x2, .int x3] [.ref s0] w Q ↔ sm_R X 17 7 [.ref x0, .int x1, .int x2, .int x3] [.int x1, .ref s0] w Q := sm_R_go d17_6 rfl
theorem d17_7 : decode (sm_code 17) 7 = .ok (.putfield 19, 3) := by decide +kernel
theorem r17_7 {X : sm_X} {w : sm_W} {Q : Option Value → sm_W → Prop} {x0 : Nat} {x1 : Int32} {x2 : Int32} {x3 : Int32} {s0 : Int32} {s1 : Nat} : sm_R X 17 7 [.ref x0, .int x1, .int x2, .int x3] [.int s0, .ref s1] w Q ↔ sm_wp (sm_pfl 5 1 (.int s0) (sm_at w s1)) (fun c => sm_R X 17 10 [.ref x0, .int x1, .int x2, .int x3] [] (w.set (s1 - 100) c) Q) := sm_q_putf d17_7 rfl rfl rfl (by decide)
theorem d17_10 : decode (sm_code 17) 10 = .ok (.aload_n 0, 1) := by decide +kernel
theorem r17_10 {X : sm_X} {w : sm_W} {Q : Option Value → sm_W → Prop} {x0 : Nat} {x1 : Int32} {x2 : Int32} {x3 : Int32} : sm_R X 17 10 [.ref x0, .int x1, .int x2, .int x3] [] w Q ↔ sm_R X 17 11 [.ref x0, .int x1, .int x2, .int x3] [.ref x0] w Q := sm_R_go d17_10 rfl
theorem d17_11 : decode (sm_code 17) 11 = .ok (.iload_n 2, 1) := by decide +kernel
theorem r17_11 {X : sm_X} {w : sm_W} {Q : Option Value → sm_W → Prop} {x0 : Nat} {x1 : Int32} {x2 : Int32} {x3 : Int32} {s0 : Nat} : sm_R X 17 11 [.ref x0, .int x1, .int x2, .int x3] [.ref s0] w Q ↔ sm_R X 17 12 [.ref x0, .int x1, .int x2, .int x3] [.int x2, .ref s0] w Q := sm_R_go d17_11 rfl
theorem d17_12 : decode (sm_code 17) 12 = .ok (.putfield 23, 3) := by decide +kernel
theorem r17_12 {X : sm_X} {w : sm_W} {Q : Option Value → sm_W → Prop} {x0 : Nat} {x1 : Int32} {x2 : Int32} {x3 : Int32} {s0 : Int32} {s1 : Nat} : sm_R X 17 12 [.ref x0, .int x1, .int x2, .int x3] [.int s0, .ref s1] w Q ↔ sm_wp (sm_pfl 5 2 (.int s0) (sm_at w s1)) (fun c => sm_R X 17 15 [.ref x0, .int x1, .int x2, .int x3] [] (w.set (s1 - 100) c) Q) := sm_q_putf d17_12 rfl rfl rfl (by decide)
theorem d17_15 : decode (sm_code 17) 15 = .ok (.aload_n 0, 1) := by decide +kernel
theorem r17_15 {X : sm_X} {w : sm_W} {Q : Option Value → sm_W → Prop} {x0 : Nat} {x1 : Int32} {x2 : Int32} {x3 : Int32} : sm_R X 17 15 [.ref x0, .int x1, .int x2, .int x3] [] w Q ↔ sm_R X 17 16 [.ref x0, .int x1, .int x2, .int x3] [.ref x0] w Q := sm_R_go d17_15 rfl
theorem d17_16 : decode (sm_code 17) 16 = .ok (.iload_n 3, 1) := by decide +kernel
theorem r17_16 {X : sm_X} {w : sm_W} {Q : Option Value → sm_W → Prop} {x0 : Nat} {x1 : Int32} {x2 : Int32} {x3 : Int32} {s0 : Nat} : sm_R X 17 16 [.ref x0, .int x1, .int x2, .int x3] [.ref s0] w Q ↔ sm_R X 17 17 [.ref x0, .int x1, .int x2, .int x3] [.int x3, .ref s0] w Q := sm_R_go d17_16 rfl
theorem d17_17 : decode (sm_code 17) 17 = .ok (.putfield 26, 3) := by decide +kernel
theorem r17_17 {X : sm_X} {w : sm_W} {Q : Option Value → sm_W → Prop} {x0 : Nat} {x1 : Int32} {x2 : Int32} {x3 : Int32} {s0 : Int32} {s1 : Nat} : sm_R X 17 17 [.ref x0, .int x1, .int x2, .int x3] [.int s0, .ref s1] w Q ↔ sm_wp (sm_pfl 5 3 (.int s0) (sm_at w s1)) (fun c => sm_R X 17 20 [.ref x0, .int x1, .int x2, .int x3] [] (w.set (s1 - 100) c) Q) := sm_q_putf d17_17 rfl rfl rfl (by decide)
theorem d17_20 : decode (sm_code 17) 20 = .ok (.return_, 1) := by decide +kernel
theorem r17_20 {X : sm_X} {w : sm_W} {Q : Option Value → sm_W → Prop} {x0 : Nat} {x1 : Int32} {x2 : Int32} {x3 : Int32} : sm_R X 17 20 [.ref x0, .int x1, .int x2, .int x3] [] w Q ↔ Q none w := sm_R_ret d17_20 rfl
-- GroupLedger.call(IIIII)I
theorem d18_0 : decode (sm_code 18) 0 = .ok (.iload_n 1, 1) := by decide +kernel
theorem r18_0 {X : sm_X} {w : sm_W} {Q : Option Value → sm_W → Prop} {x0 : Nat} {x1 : Int32} {x2 : Int32} {x3 : Int32} {x4 : Int32} {x5 : Int32} : sm_R X 18 0 [.ref x0, .int x1, .int x2, .int x3, .int x4, .int x5] [] w Q ↔ sm_R X 18 1 [.ref x0, .int x1, .int x2, .int x3, .int x4, .int x5] [.int x1] w Q := sm_R_go d18_0 rfl
theorem d18_1 : decode (sm_code 18) 1 = .ok (.bipush 6, 2) := by decide +kernel
theorem r18_1 {X : sm_X} {w : sm_W} {Q : Option Value → sm_W → Prop} {x0 : Nat} {x1 : Int32} {x2 : Int32} {x3 : Int32} {x4 : Int32} {x5 : Int32} {s0 : Int32} : sm_R X 18 1 [.ref x0, .int x1, .int x2, .int x3, .int x4, .int x5] [.int s0] w Q ↔ sm_R X 18 3 [.ref x0, .int x1, .int x2, .int x3, .int x4, .int x5] [.int 6, .int s0] w Q := sm_R_go d18_1 rfl
theorem d18_3 : decode (sm_code 18) 3 = .ok (.invokestatic 50, 3) := by decide +kernel
theorem r18_3 {X : sm_X} {w : sm_W} {Q : Option Value → sm_W → Prop} {x0 : Nat} {x1 : Int32} {x2 : Int32} {x3 : Int32} {x4 : Int32} {x5 : Int32} {s0 : Int32} {s1 : Int32} : sm_R X 18 3 [.ref x0, .int x1, .int x2, .int x3, .int x4, .int x5] [.int s0, .int s1] w Q ↔ sm_R X 8 0 [.int s1, .int s0] [] w (fun v w => sm_R X 18 6 [.ref x0, .int x1, .int x2, .int x3, .int x4, .int x5] (v.toList ++ []) w Q) := sm_q_call (k := 8) (as := [.int s1, .int s0]) (rest := []) d18_3 rfl rfl
theorem d18_6 : decode (sm_code 18) 6 = .ok (.ifCond .eq 29, 3) := by decide +kernel
theorem r18_6 {X : sm_X} {w : sm_W} {Q : Option Value → sm_W → Prop} {x0 : Nat} {x1 : Int32} {x2 : Int32} {x3 : Int32} {x4 : Int32} {x5 : Int32} {s0 : Int32} : sm_R X 18 6 [.ref x0, .int x1, .int x2, .int x3, .int x4, .int x5] [.int s0] w Q ↔ (if s0 = 0 then sm_R X 18 35 [.ref x0, .int x1, .int x2, .int x3, .int x4, .int x5] [] w Q else sm_R X 18 9 [.ref x0, .int x1, .int x2, .int x3, .int x4, .int x5] [] w Q) := sm_q_br d18_6 rfl
theorem d18_9 : decode (sm_code 18) 9 = .ok (.iload_n 2, 1) := by decide +kernel
theorem r18_9 {X : sm_X} {w : sm_W} {Q : Option Value → sm_W → Prop} {x0 : Nat} {x1 : Int32} {x2 : Int32} {x3 : Int32} {x4 : Int32} {x5 : Int32} : sm_R X 18 9 [.ref x0, .int x1, .int x2, .int x3, .int x4, .int x5] [] w Q ↔ sm_R X 18 10 [.ref x0, .int x1, .int x2, .int x3, .int x4, .int x5] [.int x2] w Q := sm_R_go d18_9 rfl
theorem d18_10 : decode (sm_code 18) 10 = .ok (.iconst 4, 1) := by decide +kernel
theorem r18_10 {X : sm_X} {w : sm_W} {Q : Option Value → sm_W → Prop} {x0 : Nat} {x1 : Int32} {x2 : Int32} {x3 : Int32} {x4 : Int32} {x5 : Int32} {s0 : Int32} : sm_R X 18 10 [.ref x0, .int x1, .int x2, .int x3, .int x4, .int x5] [.int s0] w Q ↔ sm_R X 18 11 [.ref x0, .int x1, .int x2, .int x3, .int x4, .int x5] [.int 4, .int s0] w Q := sm_R_go d18_10 rfl
theorem d18_11 : decode (sm_code 18) 11 = .ok (.invokestatic 50, 3) := by decide +kernel
theorem r18_11 {X : sm_X} {w : sm_W} {Q : Option Value → sm_W → Prop} {x0 : Nat} {x1 : Int32} {x2 : Int32} {x3 : Int32} {x4 : Int32} {x5 : Int32} {s0 : Int32} {s1 : Int32} : sm_R X 18 11 [.ref x0, .int x1, .int x2, .int x3, .int x4, .int x5] [.int s0, .int s1] w Q ↔ sm_R X 8 0 [.int s1, .int s0] [] w (fun v w => sm_R X 18 14 [.ref x0, .int x1, .int x2, .int x3, .int x4, .int x5] (v.toList ++ []) w Q) := sm_q_call (k := 8) (as := [.int s1, .int s0]) (rest := []) d18_11 rfl rfl
theorem d18_14 : decode (sm_code 18) 14 = .ok (.ifCond .eq 21, 3) := by decide +kernel
theorem r18_14 {X : sm_X} {w : sm_W} {Q : Option Value → sm_W → Prop} {x0 : Nat} {x1 : Int32} {x2 : Int32} {x3 : Int32} {x4 : Int32} {x5 : Int32} {s0 : Int32} : sm_R X 18 14 [.ref x0, .int x1, .int x2, .int x3, .int x4, .int x5] [.int s0] w Q ↔ (if s0 = 0 then sm_R X 18 35 [.ref x0, .int x1, .int x2, .int x3, .int x4, .int x5] [] w Q else sm_R X 18 17 [.ref x0, .int x1, .int x2, .int x3, .int x4, .int x5] [] w Q) := sm_q_br d18_14 rfl
theorem d18_17 : decode (sm_code 18) 17 = .ok (.iload_n 3, 1) := by decide +kernel
theorem r18_17 {X : sm_X} {w : sm_W} {Q : Option Value → sm_W → Prop} {x0 : Nat} {x1 : Int32} {x2 : Int32} {x3 : Int32} {x4 : Int32} {x5 : Int32} : sm_R X 18 17 [.ref x0, .int x1, .int x2, .int x3, .int x4, .int x5] [] w Q ↔ sm_R X 18 18 [.ref x0, .int x1, .int x2, .int x3, .int x4, .int x5] [.int x3] w Q := sm_R_go d18_17 rfl
theorem d18_18 : decode (sm_code 18) 18 = .ok (.iconst 3, 1) := by decide +kernel
theorem r18_18 {X : sm_X} {w : sm_W} {Q : Option Value → sm_W → Prop} {x0 : Nat} {x1 : Int32} {x2 : Int32} {x3 : Int32} {x4 : Int32} {x5 : Int32} {s0 : Int32} : sm_R X 18 18 [.ref x0, .int x1, .int x2, .int x3, .int x4, .int x5] [.int s0] w Q ↔ sm_R X 18 19 [.ref x0, .int x1, .int x2, .int x3, .int x4, .int x5] [.int 3, .int s0] w Q := sm_R_go d18_18 rfl
theorem d18_19 : decode (sm_code 18) 19 = .ok (.invokestatic 50, 3) := by decide +kernel
theorem r18_19 {X : sm_X} {w : sm_W} {Q : Option Value → sm_W → Prop} {x0 : Nat} {x1 : Int32} {x2 : Int32} {x3 : Int32} {x4 : Int32} {x5 : Int32} {s0 : Int32} {s1 : Int32} : sm_R X 18 19 [.ref x0, .int x1, .int x2, .int x3, .int x4, .int x5] [.int s0, .int s1] w Q ↔ sm_R X 8 0 [.int s1, .int s0] [] w (fun v w => sm_R X 18 22 [.ref x0, .int x1, .int x2, .int x3, .int x4, .int x5] (v.toList ++ []) w Q) := sm_q_call (k := 8) (as := [.int s1, .int s0]) (rest := []) d18_19 rfl rfl
theorem d18_22 : decode (sm_code 18) 22 = .ok (.ifCond .eq 13, 3) := by decide +kernel
theorem r18_22 {X : sm_X} {w : sm_W} {Q : Option Value → sm_W → Prop} {x0 : Nat} {x1 : Int32} {x2 : Int32} {x3 : Int32} {x4 : Int32} {x5 : Int32} {s0 : Int32} : sm_R X 18 22 [.ref x0, .int x1, .int x2, .int x3, .int x4, .int x5] [.int s0] w Q ↔ (if s0 = 0 then sm_R X 18 35 [.ref x0, .int x1, .int x2, .int x3, .int x4, .int x5] [] w Q else sm_R X 18 25 [.ref x0, .int x1, .int x2, .int x3, .int x4, .int x5] [] w Q) := sm_q_br d18_22 rfl
theorem d18_25 : decode (sm_code 18) 25 = .ok (.iload 4, 2) := by decide +kernel
theorem r18_25 {X : sm_X} {w : sm_W} {Q : Option Value → sm_W → Prop} {x0 : Nat} {x1 : Int32} {x2 : Int32} {x3 : Int32} {x4 : Int32} {x5 : Int32} : sm_R X 18 25 [.ref x0, .int x1, .int x2, .int x3, .int x4, .int x5] [] w Q ↔ sm_R X 18 27 [.ref x0, .int x1, .int x2, .int x3, .int x4, .int x5] [.int x4] w Q := sm_R_go d18_25 rfl
theorem d18_27 : decode (sm_code 18) 27 = .ok (.ifCond .lt 8, 3) := by decide +kernel
theorem r18_27 {X : sm_X} {w : sm_W} {Q : Option Value → sm_W → Prop} {x0 : Nat} {x1 : Int32} {x2 : Int32} {x3 : Int32} {x4 : Int32} {x5 : Int32} {s0 : Int32} : sm_R X 18 27 [.ref x0, .int x1, .int x2, .int x3, .int x4, .int x5] [.int s0] w Q ↔ (if s0 < 0 then sm_R X 18 35 [.ref x0, .int x1, .int x2, .int x3, .int x4, .int x5] [] w Q else sm_R X 18 30 [.ref x0, .int x1, .int x2, .int x3, .int x4, .int x5] [] w Q) := sm_q_br d18_27 rfl
theorem d18_30 : decode (sm_code 18) 30 = .ok (.iload 5, 2) := by decide +kernel
theorem r18_30 {X : sm_X} {w : sm_W} {Q : Option Value → sm_W → Prop} {x0 : Nat} {x1 : Int32} {x2 : Int32} {x3 : Int32} {x4 : Int32} {x5 : Int32} : sm_R X 18 30 [.ref x0, .int x1, .int x2, .int x3, .int x4, .int x5] [] w Q ↔ sm_R X 18 32 [.ref x0, .int x1, .int x2, .int x3, .int x4, .int x5] [.int x5] w Q := sm_R_go d18_30 rfl
theorem d18_32 : decode (sm_code 18) 32 = .ok (.ifCond .ge 5, 3) := by decide +kernel
theorem r18_32 {X : sm_X} {w : sm_W} {Q : Option Value → sm_W → Prop} {x0 : Nat} {x1 : Int32} {x2 : Int32} {x3 : Int32} {x4 : Int32} {x5 : Int32} {s0 : Int32} : sm_R X 18 32 [.ref x0, .int x1, .int x2, .int x3, .int x4, .int x5] [.int s0] w Q ↔ (if 0 ≤ s0 then sm_R X 18 37 [.ref x0, .int x1, .int x2, .int x3, .int x4, .int x5] [] w Q else sm_R X 18 35 [.ref x0, .int x1, .int x2, .int x3, .int x4, .int x5] [] w Q) := sm_q_br d18_32 rfl
theorem d18_35 : decode (sm_code 18) 35 = .ok (.iconst (-1), 1) := by decide +kernel
theorem r18_35 {X : sm_X} {w : sm_W} {Q : Option Value → sm_W → Prop} {x0 : Nat} {x1 : Int32} {x2 : Int32} {x3 : Int32} {x4 : Int32} {x5 : Int32} : sm_R X 18 35 [.ref x0, .int x1, .int x2, .int x3, .int x4, .int x5] [] w Q ↔ sm_R X 18 36 [.ref x0, .int x1, .int x2, .int x3, .int x4, .int x5] [.int (-1)] w Q := sm_R_go d18_35 rfl
theorem d18_36 : decode (sm_code 18) 36 = .ok (.ireturn, 1) := by decide +kernel
theorem r18_36 {X : sm_X} {w : sm_W} {Q : Option Value → sm_W → Prop} {x0 : Nat} {x1 : Int32} {x2 : Int32} {x3 : Int32} {x4 : Int32} {x5 : Int32} {s0 : Int32} : sm_R X 18 36 [.ref x0, .int x1, .int x2, .int x3, .int x4, .int x5] [.int s0] w Q ↔ Q (some (.int s0)) w := sm_q_iret d18_36 rfl
theorem d18_37 : decode (sm_code 18) 37 = .ok (.aload_n 0, 1) := by decide +kernel
theorem r18_37 {X : sm_X} {w : sm_W} {Q : Option Value → sm_W → Prop} {x0 : Nat} {x1 : Int32} {x2 : Int32} {x3 : Int32} {x4 : Int32} {x5 : Int32} : sm_R X 18 37 [.ref x0, .int x1, .int x2, .int x3, .int x4, .int x5] [] w Q ↔ sm_R X 18 38 [.ref x0, .int x1, .int x2, .int x3, .int x4, .int x5] [.ref x0] w Q := sm_R_go d18_37 rfl
theorem d18_38 : decode (sm_code 18) 38 = .ok (.getfield 33, 3) := by decide +kernel
theorem r18_38 {X : sm_X} {w : sm_W} {Q : Option Value → sm_W → Prop} {x0 : Nat} {x1 : Int32} {x2 : Int32} {x3 : Int32} {x4 : Int32} {x5 : Int32} {s0 : Nat} : sm_R X 18 38 [.ref x0, .int x1, .int x2, .int x3, .int x4, .int x5] [.ref s0] w Q ↔ sm_wp (sm_fld 6 4 (sm_at w s0)) (fun v => sm_R X 18 41 [.ref x0, .int x1, .int x2, .int x3, .int x4, .int x5] [v] w Q) := sm_q_getf d18_38 rfl (by decide)
theorem d18_41 : decode (sm_code 18) 41 = .ok (.getfield 86, 3) := by decide +kernel
theorem r18_41 {X : sm_X} {w : sm_W} {Q : Option Value → sm_W → Prop} {x0 : Nat} {x1 : Int32} {x2 : Int32} {x3 : Int32} {x4 : Int32} {x5 : Int32} {s0 : Nat} : sm_R X 18 41 [.ref x0, .int x1, .int x2, .int x3, .int x4, .int x5] [.ref s0] w Q ↔ sm_wp (sm_fld 1 1 (sm_at w s0)) (fun v => sm_R X 18 44 [.ref x0, .int x1, .int x2, .int x3, .int x4, .int x5] [v] w Q) := sm_q_getf d18_41 rfl (by decide)
theorem d18_44 : decode (sm_code 18) 44 = .ok (.iconst 4, 1) := by decide +kernel
theorem r18_44 {X : sm_X} {w : sm_W} {Q : Option Value → sm_W → Prop} {x0 : Nat} {x1 : Int32} {x2 : Int32} {x3 : Int32} {x4 : Int32} {x5 : Int32} {s0 : Int32} : sm_R X 18 44 [.ref x0, .int x1, .int x2, .int x3, .int x4, .int x5] [.int s0] w Q ↔ sm_R X 18 45 [.ref x0, .int x1, .int x2, .int x3, .int x4, .int x5] [.int 4, .int s0] w Q := sm_R_go d18_44 rfl
theorem d18_45 : decode (sm_code 18) 45 = .ok (.if_icmp .lt 6, 3) := by decide +kernel
theorem r18_45 {X : sm_X} {w : sm_W} {Q : Option Value → sm_W → Prop} {x0 : Nat} {x1 : Int32} {x2 : Int32} {x3 : Int32} {x4 : Int32} {x5 : Int32} {s0 : Int32} {s1 : Int32} : sm_R X 18 45 [.ref x0, .int x1, .int x2, .int x3, .int x4, .int x5] [.int s0, .int s1] w Q ↔ (if s1 < s0 then sm_R X 18 51 [.ref x0, .int x1, .int x2, .int x3, .int x4, .int x5] [] w Q else sm_R X 18 48 [.ref x0, .int x1, .int x2, .int x3, .int x4, .int x5] [] w Q) := sm_q_br d18_45 rfl
theorem d18_48 : decode (sm_code 18) 48 = .ok (.bipush (-2), 2) := by decide +kernel
theorem r18_48 {X : sm_X} {w : sm_W} {Q : Option Value → sm_W → Prop} {x0 : Nat} {x1 : Int32} {x2 : Int32} {x3 : Int32} {x4 : Int32} {x5 : Int32} : sm_R X 18 48 [.ref x0, .int x1, .int x2, .int x3, .int x4, .int x5] [] w Q ↔ sm_R X 18 50 [.ref x0, .int x1, .int x2, .int x3, .int x4, .int x5] [.int (-2)] w Q := sm_R_go d18_48 rfl
theorem d18_50 : decode (sm_code 18) 50 = .ok (.ireturn, 1) := by decide +kernel
theorem r18_50 {X : sm_X} {w : sm_W} {Q : Option Value → sm_W → Prop} {x0 : Nat} {x1 : Int32} {x2 : Int32} {x3 : Int32} {x4 : Int32} {x5 : Int32} {s0 : Int32} : sm_R X 18 50 [.ref x0, .int x1, .int x2, .int x3, .int x4, .int x5] [.int s0] w Q ↔ Q (some (.int s0)) w := sm_q_iret d18_50 rfl
theorem d18_51 : decode (sm_code 18) 51 = .ok (.aload_n 0, 1) := by decide +kernel
theorem r18_51 {X : sm_X} {w : sm_W} {Q : Option Value → sm_W → Prop} {x0 : Nat} {x1 : Int32} {x2 : Int32} {x3 : Int32} {x4 : Int32} {x5 : Int32} : sm_R X 18 51 [.ref x0, .int x1, .int x2, .int x3, .int x4, .int x5] [] w Q ↔ sm_R X 18 52 [.ref x0, .int x1, .int x2, .int x3, .int x4, .int x5] [.ref x0] w Q := sm_R_go d18_51 rfl
theorem d18_52 : decode (sm_code 18) 52 = .ok (.getfield 33, 3) := by decide +kernel
theorem r18_52 {X : sm_X} {w : sm_W} {Q : Option Value → sm_W → Prop} {x0 : Nat} {x1 : Int32} {x2 : Int32} {x3 : Int32} {x4 : Int32} {x5 : Int32} {s0 : Nat} : sm_R X 18 52 [.ref x0, .int x1, .int x2, .int x3, .int x4, .int x5] [.ref s0] w Q ↔ sm_wp (sm_fld 6 4 (sm_at w s0)) (fun v => sm_R X 18 55 [.ref x0, .int x1, .int x2, .int x3, .int x4, .int x5] [v] w Q) := sm_q_getf d18_52 rfl (by decide)
theorem d18_55 : decode (sm_code 18) 55 = .ok (.getfield 87, 3) := by decide +kernel
theorem r18_55 {X : sm_X} {w : sm_W} {Q : Option Value → sm_W → Prop} {x0 : Nat} {x1 : Int32} {x2 : Int32} {x3 : Int32} {x4 : Int32} {x5 : Int32} {s0 : Nat} : sm_R X 18 55 [.ref x0, .int x1, .int x2, .int x3, .int x4, .int x5] [.ref s0] w Q ↔ sm_wp (sm_fld 1 0 (sm_at w s0)) (fun v => sm_R X 18 58 [.ref x0, .int x1, .int x2, .int x3, .int x4, .int x5] [v] w Q) := sm_q_getf d18_55 rfl (by decide)
theorem d18_58 : decode (sm_code 18) 58 = .ok (.aload_n 0, 1) := by decide +kernel
theorem r18_58 {X : sm_X} {w : sm_W} {Q : Option Value → sm_W → Prop} {x0 : Nat} {x1 : Int32} {x2 : Int32} {x3 : Int32} {x4 : Int32} {x5 : Int32} {s0 : Nat} : sm_R X 18 58 [.ref x0, .int x1, .int x2, .int x3, .int x4, .int x5] [.ref s0] w Q ↔ sm_R X 18 59 [.ref x0, .int x1, .int x2, .int x3, .int x4, .int x5] [.ref x0, .ref s0] w Q := sm_R_go d18_58 rfl
theorem d18_59 : decode (sm_code 18) 59 = .ok (.getfield 33, 3) := by decide +kernel
theorem r18_59 {X : sm_X} {w : sm_W} {Q : Option Value → sm_W → Prop} {x0 : Nat} {x1 : Int32} {x2 : Int32} {x3 : Int32} {x4 : Int32} {x5 : Int32} {s0 : Nat} {s1 : Nat} : sm_R X 18 59 [.ref x0, .int x1, .int x2, .int x3, .int x4, .int x5] [.ref s0, .ref s1] w Q ↔ sm_wp (sm_fld 6 4 (sm_at w s0)) (fun v => sm_R X 18 62 [.ref x0, .int x1, .int x2, .int x3, .int x4, .int x5] [v, .ref s1] w Q) := sm_q_getf d18_59 rfl (by decide)
theorem d18_62 : decode (sm_code 18) 62 = .ok (.getfield 86, 3) := by decide +kernel
theorem r18_62 {X : sm_X} {w : sm_W} {Q : Option Value → sm_W → Prop} {x0 : Nat} {x1 : Int32} {x2 : Int32} {x3 : Int32} {x4 : Int32} {x5 : Int32} {s0 : Nat} {s1 : Nat} : sm_R X 18 62 [.ref x0, .int x1, .int x2, .int x3, .int x4, .int x5] [.ref s0, .ref s1] w Q ↔ sm_wp (sm_fld 1 1 (sm_at w s0)) (fun v => sm_R X 18 65 [.ref x0, .int x1, .int x2, .int x3, .int x4, .int x5] [v, .ref s1] w Q) := sm_q_getf d18_62 rfl (by decide)
theorem d18_65 : decode (sm_code 18) 65 = .ok (.aaload, 1) := by decide +kernel
theorem r18_65 {X : sm_X} {w : sm_W} {Q : Option Value → sm_W → Prop} {x0 : Nat} {x1 : Int32} {x2 : Int32} {x3 : Int32} {x4 : Int32} {x5 : Int32} {s0 : Int32} {s1 : Nat} : sm_R X 18 65 [.ref x0, .int x1, .int x2, .int x3, .int x4, .int x5] [.int s0, .ref s1] w Q ↔ sm_wp (sm_aa s1 s0 (sm_get X w s1)) (fun v => sm_R X 18 66 [.ref x0, .int x1, .int x2, .int x3, .int x4, .int x5] [.ref v] w Q) := sm_q_aald d18_65
theorem d18_66 : decode (sm_code 18) 66 = .ok (.iload_n 1, 1) := by decide +kernel
theorem r18_66 {X : sm_X} {w : sm_W} {Q : Option Value → sm_W → Prop} {x0 : Nat} {x1 : Int32} {x2 : Int32} {x3 : Int32} {x4 : Int32} {x5 : Int32} {s0 : Nat} : sm_R X 18 66 [.ref x0, .int x1, .int x2, .int x3, .int x4, .int x5] [.ref s0] w Q ↔ sm_R X 18 67 [.ref x0, .int x1, .int x2, .int x3, .int x4, .int x5] [.int x1, .ref s0] w Q := sm_R_go d18_66 rfl
theorem d18_67 : decode (sm_code 18) 67 = .ok (.iload_n 2, 1) := by decide +kernel
theorem r18_67 {X : sm_X} {w : sm_W} {Q : Option Value → sm_W → Prop} {x0 : Nat} {x1 : Int32} {x2 : Int32} {x3 : Int32} {x4 : Int32} {x5 : Int32} {s0 : Int32} {s1 : Nat} : sm_R X 18 67 [.ref x0, .int x1, .int x2, .int x3, .int x4, .int x5] [.int s0, .ref s1] w Q ↔ sm_R X 18 68 [.ref x0, .int x1, .int x2, .int x3, .int x4, .int x5] [.int x2, .int s0, .ref s1] w Q := sm_R_go d18_67 rfl
theorem d18_68 : decode (sm_code 18) 68 = .ok (.iload_n 3, 1) := by decide +kernel
theorem r18_68 {X : sm_X} {w : sm_W} {Q : Option Value → sm_W → Prop} {x0 : Nat} {x1 : Int32} {x2 : Int32} {x3 : Int32} {x4 : Int32} {x5 : Int32} {s0 : Int32} {s1 : Int32} {s2 : Nat} : sm_R X 18 68 [.ref x0, .int x1, .int x2, .int x3, .int x4, .int x5] [.int s0, .int s1, .ref s2] w Q ↔ sm_R X 18 69 [.ref x0, .int x1, .int x2, .int x3, .int x4, .int x5] [.int x3, .int s0, .int s1, .ref s2] w Q := sm_R_go d18_68 rfl
theorem d18_69 : decode (sm_code 18) 69 = .ok (.iload 4, 2) := by decide +kernel
theorem r18_69 {X : sm_X} {w : sm_W} {Q : Option Value → sm_W → Prop} {x0 : Nat} {x1 : Int32} {x2 : Int32} {x3 : Int32} {x4 : Int32} {x5 : Int32} {s0 : Int32} {s1 : Int32} {s2 : Int32} {s3 : Nat} : sm_R X 18 69 [.ref x0, .int x1, .int x2, .int x3, .int x4, .int x5] [.int s0, .int s1, .int s2, .ref s3] w Q ↔ sm_R X 18 71 [.ref x0, .int x1, .int x2, .int x3, .int x4, .int x5] [.int x4, .int s0, .int s1, .int s2, .ref s3] w Q := sm_R_go d18_69 rfl
theorem d18_71 : decode (sm_code 18) 71 = .ok (.iload 5, 2) := by decide +kernel
theorem r18_71 {X : sm_X} {w : sm_W} {Q : Option Value → sm_W → Prop} {x0 : Nat} {x1 : Int32} {x2 : Int32} {x3 : Int32} {x4 : Int32} {x5 : Int32} {s0 : Int32} {s1 : Int32} {s2 : Int32} {s3 : Int32} {s4 : Nat} : sm_R X 18 71 [.ref x0, .int x1, .int x2, .int x3, .int x4, .int x5] [.int s0, .int s1, .int s2, .int s3, .ref s4] w Q ↔ sm_R X 18 73 [.ref x0, .int x1, .int x2, .int x3, .int x4, .int x5] [.int x5, .int s0, .int s1, .int s2, .int s3, .ref s4] w Q := sm_R_go d18_71 rfl
theorem d18_73 : decode (sm_code 18) 73 = .ok (.invokevirtual 97, 3) := by decide +kernel
theorem r18_73 {X : sm_X} {w : sm_W} {Q : Option Value → sm_W → Prop} {x0 : Nat} {x1 : Int32} {x2 : Int32} {x3 : Int32} {x4 : Int32} {x5 : Int32} {s0 : Int32} {s1 : Int32} {s2 : Int32} {s3 : Int32} {s4 : Int32} {s5 : Nat} : sm_R X 18 73 [.ref x0, .int x1, .int x2, .int x3, .int x4, .int x5] [.int s0, .int s1, .int s2, .int s3, .int s4, .ref s5] w Q ↔ (sm_cN (sm_at w s5) = some 5 ∧ sm_R X 19 0 [.ref s5, .int s4, .int s3, .int s2, .int s1, .int s0] [] w (fun v w => sm_R X 18 76 [.ref x0, .int x1, .int x2, .int x3, .int x4, .int x5] (v.toList ++ []) w Q)) := sm_q_vir (k := 19) (as := [.ref s5, .int s4, .int s3, .int s2, .int s1, .int s0]) (rest := []) d18_73 rfl rfl rfl rfl rfl
theorem d18_76 : decode (sm_code 18) 76 = .ok (.aload_n 0, 1) := by decide +kernel
theorem r18_76 {X : sm_X} {w : sm_W} {Q : Option Value → sm_W → Prop} {x0 : Nat} {x1 : Int32} {x2 : Int32} {x3 : Int32} {x4 : Int32} {x5 : Int32} : sm_R X 18 76 [.ref x0, .int x1, .int x2, .int x3, .int x4, .int x5] [] w Q ↔ sm_R X 18 77 [.ref x0, .int x1, .int x2, .int x3, .int x4, .int x5] [.ref x0] w Q := sm_R_go d18_76 rfl
theorem d18_77 : decode (sm_code 18) 77 = .ok (.getfield 33, 3) := by decide +kernel
theorem r18_77 {X : sm_X} {w : sm_W} {Q : Option Value → sm_W → Prop} {x0 : Nat} {x1 : Int32} {x2 : Int32} {x3 : Int32} {x4 : Int32} {x5 : Int32} {s0 : Nat} : sm_R X 18 77 [.ref x0, .int x1, .int x2, .int x3, .int x4, .int x5] [.ref s0] w Q ↔ sm_wp (sm_fld 6 4 (sm_at w s0)) (fun v => sm_R X 18 80 [.ref x0, .int x1, .int x2, .int x3, .int x4, .int x5] [v] w Q) := sm_q_getf d18_77 rfl (by decide)
theorem d18_80 : decode (sm_code 18) 80 = .ok (.dup, 1) := by decide +kernel
theorem r18_80 {X : sm_X} {w : sm_W} {Q : Option Value → sm_W → Prop} {x0 : Nat} {x1 : Int32} {x2 : Int32} {x3 : Int32} {x4 : Int32} {x5 : Int32} {s0 : Nat} : sm_R X 18 80 [.ref x0, .int x1, .int x2, .int x3, .int x4, .int x5] [.ref s0] w Q ↔ sm_R X 18 81 [.ref x0, .int x1, .int x2, .int x3, .int x4, .int x5] [.ref s0, .ref s0] w Q := sm_R_go d18_80 rfl
theorem d18_81 : decode (sm_code 18) 81 = .ok (.getfield 86, 3) := by decide +kernel
theorem r18_81 {X : sm_X} {w : sm_W} {Q : Option Value → sm_W → Prop} {x0 : Nat} {x1 : Int32} {x2 : Int32} {x3 : Int32} {x4 : Int32} {x5 : Int32} {s0 : Nat} {s1 : Nat} : sm_R X 18 81 [.ref x0, .int x1, .int x2, .int x3, .int x4, .int x5] [.ref s0, .ref s1] w Q ↔ sm_wp (sm_fld 1 1 (sm_at w s0)) (fun v => sm_R X 18 84 [.ref x0, .int x1, .int x2, .int x3, .int x4, .int x5] [v, .ref s1] w Q) := sm_q_getf d18_81 rfl (by decide)
theorem d18_84 : decode (sm_code 18) 84 = .ok (.dup_x1, 1) := by decide +kernel
theorem r18_84 {X : sm_X} {w : sm_W} {Q : Option Value → sm_W → Prop} {x0 : Nat} {x1 : Int32} {x2 : Int32} {x3 : Int32} {x4 : Int32} {x5 : Int32} {s0 : Int32} {s1 : Nat} : sm_R X 18 84 [.ref x0, .int x1, .int x2, .int x3, .int x4, .int x5] [.int s0, .ref s1] w Q ↔ sm_R X 18 85 [.ref x0, .int x1, .int x2, .int x3, .int x4, .int x5] [.int s0, .ref s1, .int s0] w Q := sm_R_go d18_84 rfl
theorem d18_85 : decode (sm_code 18) 85 = .ok (.iconst 1, 1) := by decide +kernel
theorem r18_85 {X : sm_X} {w : sm_W} {Q : Option Value → sm_W → Prop} {x0 : Nat} {x1 : Int32} {x2 : Int32} {x3 : Int32} {x4 : Int32} {x5 : Int32} {s0 : Int32} {s1 : Nat} {s2 : Int32} : sm_R X 18 85 [.ref x0, .int x1, .int x2, .int x3, .int x4, .int x5] [.int s0, .ref s1, .int s2] w Q ↔ sm_R X 18 86 [.ref x0, .int x1, .int x2, .int x3, .int x4, .int x5] [.int 1, .int s0, .ref s1, .int s2] w Q := sm_R_go d18_85 rfl
theorem d18_86 : decode (sm_code 18) 86 = .ok (.iadd, 1) := by decide +kernel
theorem r18_86 {X : sm_X} {w : sm_W} {Q : Option Value → sm_W → Prop} {x0 : Nat} {x1 : Int32} {x2 : Int32} {x3 : Int32} {x4 : Int32} {x5 : Int32} {s0 : Int32} {s1 : Int32} {s2 : Nat} {s3 : Int32} : sm_R X 18 86 [.ref x0, .int x1, .int x2, .int x3, .int x4, .int x5] [.int s0, .int s1, .ref s2, .int s3] w Q ↔ sm_R X 18 87 [.ref x0, .int x1, .int x2, .int x3, .int x4, .int x5] [.int (s1 + s0), .ref s2, .int s3] w Q := sm_R_go d18_86 rfl
theorem d18_87 : decode (sm_code 18) 87 = .ok (.putfield 86, 3) := by decide +kernel
theorem r18_87 {X : sm_X} {w : sm_W} {Q : Option Value → sm_W → Prop} {x0 : Nat} {x1 : Int32} {x2 : Int32} {x3 : Int32} {x4 : Int32} {x5 : Int32} {s0 : Int32} {s1 : Nat} {s2 : Int32} : sm_R X 18 87 [.ref x0, .int x1, .int x2, .int x3, .int x4, .int x5] [.int s0, .ref s1, .int s2] w Q ↔ sm_wp (sm_pfl 1 1 (.int s0) (sm_at w s1)) (fun c => sm_R X 18 90 [.ref x0, .int x1, .int x2, .int x3, .int x4, .int x5] [.int s2] (w.set (s1 - 100) c) Q) := sm_q_putf d18_87 rfl rfl rfl (by decide)
theorem d18_90 : decode (sm_code 18) 90 = .ok (.ireturn, 1) := by decide +kernel
theorem r18_90 {X : sm_X} {w : sm_W} {Q : Option Value → sm_W → Prop} {x0 : Nat} {x1 : Int32} {x2 : Int32} {x3 : Int32} {x4 : Int32} {x5 : Int32} {s0 : Int32} : sm_R X 18 90 [.ref x0, .int x1, .int x2, .int x3, .int x4, .int x5] [.int s0] w Q ↔ Q (some (.int s0)) w := sm_q_iret d18_90 rfl
-- GroupLedger$Transaction.becomeCall(IIIII)V
theorem d19_0 : decode (sm_code 19) 0 = .ok (.aload_n 0, 1) := by decide +kernel
theorem r19_0 {X : sm_X} {w : sm_W} {Q : Option Value → sm_W → Prop} {x0 : Nat} {x1 : Int32} {x2 : Int32} {x3 : Int32} {x4 : Int32} {x5 : Int32} : sm_R X 19 0 [.ref x0, .int x1, .int x2, .int x3, .int x4, .int x5] [] w Q ↔ sm_R X 19 1 [.ref x0, .int x1, .int x2, .int x3, .int x4, .int x5] [.ref x0] w Q := sm_R_go d19_0 rfl
theorem d19_1 : decode (sm_code 19) 1 = .ok (.iconst 0, 1) := by decide +kernel
theorem r19_1 {X : sm_X} {w : sm_W} {Q : Option Value → sm_W → Prop} {x0 : Nat} {x1 : Int32} {x2 : Int32} {x3 : Int32} {x4 : Int32} {x5 : Int32} {s0 : Nat} : sm_R X 19 1 [.ref x0, .int x1, .int x2, .int x3, .int x4, .int x5] [.ref s0] w Q ↔ sm_R X 19 2 [.ref x0, .int x1, .int x2, .int x3, .int x4, .int x5] [.int 0, .ref s0] w Q := sm_R_go d19_1 rfl
theorem d19_2 : decode (sm_code 19) 2 = .ok (.putfield 15, 3) := by decide +kernel
theorem r19_2 {X : sm_X} {w : sm_W} {Q : Option Value → sm_W → Prop} {x0 : Nat} {x1 : Int32} {x2 : Int32} {x3 : Int32} {x4 : Int32} {x5 : Int32} {s0 : Int32} {s1 : Nat} (h : s0 = 0 ∨ s0 = 1) : sm_R X 19 2 [.ref x0, .int x1, .int x2, .int x3, .int x4, .int x5] [.int s0, .ref s1] w Q ↔ sm_wp (sm_pfl 5 0 (.int s0) (sm_at w s1)) (fun c => sm_R X 19 5 [.ref x0, .int x1, .int x2, .int x3, .int x4, .int x5] [] (w.set (s1 - 100) c) Q) := sm_q_putf d19_2 rfl (sm_bn h) (sm_bf h) (by decide)
theorem d19_5 : decode (sm_code 19) 5 = .ok (.aload_n 0, 1) := by decide +kernel
theorem r19_5 {X : sm_X} {w : sm_W} {Q : Option Value → sm_W → Prop} {x0 : Nat} {x1 : Int32} {x2 : Int32} {x3 : Int32} {x4 : Int32} {x5 : Int32} : sm_R X 19 5 [.ref x0, .int x1, .int x2, .int x3, .int x4, .int x5] [] w Q ↔ sm_R X 19 6 [.ref x0, .int x1, .int x2, .int x3, .int x4, .int x5] [.ref x0] w Q := sm_R_go d19_5 rfl
theorem d19_6 : decode (sm_code 19) 6 = .ok (.iload_n 1, 1) := by decide +kernel
theorem r19_6 {X : sm_X} {w : sm_W} {Q : Option Value → sm_W → Prop} {x0 : Nat} {x1 : Int32} {x2 : Int32} {x3 : Int32} {x4 : Int32} {x5 : Int32} {s0 : Nat} : sm_R X 19 6 [.ref x0, .int x1, .int x2, .int x3, .int x4, .int x5] [.ref s0] w Q ↔ sm_R X 19 7 [.ref x0, .int x1, .int x2, .int x3, .int x4, .int x5] [.int x1, .ref s0] w Q := sm_R_go d19_6 rfl
theorem d19_7 : decode (sm_code 19) 7 = .ok (.putfield 19, 3) := by decide +kernel
theorem r19_7 {X : sm_X} {w : sm_W} {Q : Option Value → sm_W → Prop} {x0 : Nat} {x1 : Int32} {x2 : Int32} {x3 : Int32} {x4 : Int32} {x5 : Int32} {s0 : Int32} {s1 : Nat} : sm_R X 19 7 [.ref x0, .int x1, .int x2, .int x3, .int x4, .int x5] [.int s0, .ref s1] w Q ↔ sm_wp (sm_pfl 5 1 (.int s0) (sm_at w s1)) (fun c => sm_R X 19 10 [.ref x0, .int x1, .int x2, .int x3, .int x4, .int x5] [] (w.set (s1 - 100) c) Q) := sm_q_putf d19_7 rfl rfl rfl (by decide)
theorem d19_10 : decode (sm_code 19) 10 = .ok (.aload_n 0, 1) := by decide +kernel
theorem r19_10 {X : sm_X} {w : sm_W} {Q : Option Value → sm_W → Prop} {x0 : Nat} {x1 : Int32} {x2 : Int32} {x3 : Int32} {x4 : Int32} {x5 : Int32} : sm_R X 19 10 [.ref x0, .int x1, .int x2, .int x3, .int x4, .int x5] [] w Q ↔ sm_R X 19 11 [.ref x0, .int x1, .int x2, .int x3, .int x4, .int x5] [.ref x0] w Q := sm_R_go d19_10 rfl
theorem d19_11 : decode (sm_code 19) 11 = .ok (.iload_n 2, 1) := by decide +kernel
theorem r19_11 {X : sm_X} {w : sm_W} {Q : Option Value → sm_W → Prop} {x0 : Nat} {x1 : Int32} {x2 : Int32} {x3 : Int32} {x4 : Int32} {x5 : Int32} {s0 : Nat} : sm_R X 19 11 [.ref x0, .int x1, .int x2, .int x3, .int x4, .int x5] [.ref s0] w Q ↔ sm_R X 19 12 [.ref x0, .int x1, .int x2, .int x3, .int x4, .int x5] [.int x2, .ref s0] w Q := sm_R_go d19_11 rfl
theorem d19_12 : decode (sm_code 19) 12 = .ok (.putfield 29, 3) := by decide +kernel
theorem r19_12 {X : sm_X} {w : sm_W} {Q : Option Value → sm_W → Prop} {x0 : Nat} {x1 : Int32} {x2 : Int32} {x3 : Int32} {x4 : Int32} {x5 : Int32} {s0 : Int32} {s1 : Nat} : sm_R X 19 12 [.ref x0, .int x1, .int x2, .int x3, .int x4, .int x5] [.int s0, .ref s1] w Q ↔ sm_wp (sm_pfl 5 4 (.int s0) (sm_at w s1)) (fun c => sm_R X 19 15 [.ref x0, .int x1, .int x2, .int x3, .int x4, .int x5] [] (w.set (s1 - 100) c) Q) := sm_q_putf d19_12 rfl rfl rfl (by decide)
theorem d19_15 : decode (sm_code 19) 15 = .ok (.aload_n 0, 1) := by decide +kernel
theorem r19_15 {X : sm_X} {w : sm_W} {Q : Option Value → sm_W → Prop} {x0 : Nat} {x1 : Int32} {x2 : Int32} {x3 : Int32} {x4 : Int32} {x5 : Int32} : sm_R X 19 15 [.ref x0, .int x1, .int x2, .int x3, .int x4, .int x5] [] w Q ↔ sm_R X 19 16 [.ref x0, .int x1, .int x2, .int x3, .int x4, .int x5] [.ref x0] w Q := sm_R_go d19_15 rfl
theorem d19_16 : decode (sm_code 19) 16 = .ok (.iload_n 3, 1) := by decide +kernel
theorem r19_16 {X : sm_X} {w : sm_W} {Q : Option Value → sm_W → Prop} {x0 : Nat} {x1 : Int32} {x2 : Int32} {x3 : Int32} {x4 : Int32} {x5 : Int32} {s0 : Nat} : sm_R X 19 16 [.ref x0, .int x1, .int x2, .int x3, .int x4, .int x5] [.ref s0] w Q ↔ sm_R X 19 17 [.ref x0, .int x1, .int x2, .int x3, .int x4, .int x5] [.int x3, .ref s0] w Q := sm_R_go d19_16 rfl
theorem d19_17 : decode (sm_code 19) 17 = .ok (.putfield 32, 3) := by decide +kernel
theorem r19_17 {X : sm_X} {w : sm_W} {Q : Option Value → sm_W → Prop} {x0 : Nat} {x1 : Int32} {x2 : Int32} {x3 : Int32} {x4 : Int32} {x5 : Int32} {s0 : Int32} {s1 : Nat} : sm_R X 19 17 [.ref x0, .int x1, .int x2, .int x3, .int x4, .int x5] [.int s0, .ref s1] w Q ↔ sm_wp (sm_pfl 5 5 (.int s0) (sm_at w s1)) (fun c => sm_R X 19 20 [.ref x0, .int x1, .int x2, .int x3, .int x4, .int x5] [] (w.set (s1 - 100) c) Q) := sm_q_putf d19_17 rfl rfl rfl (by decide)
theorem d19_20 : decode (sm_code 19) 20 = .ok (.aload_n 0, 1) := by decide +kernel
theorem r19_20 {X : sm_X} {w : sm_W} {Q : Option Value → sm_W → Prop} {x0 : Nat} {x1 : Int32} {x2 : Int32} {x3 : Int32} {x4 : Int32} {x5 : Int32} : sm_R X 19 20 [.ref x0, .int x1, .int x2, .int x3, .int x4, .int x5] [] w Q ↔ sm_R X 19 21 [.ref x0, .int x1, .int x2, .int x3, .int x4, .int x5] [.ref x0] w Q := sm_R_go d19_20 rfl
theorem d19_21 : decode (sm_code 19) 21 = .ok (.iload 4, 2) := by decide +kernel
theorem r19_21 {X : sm_X} {w : sm_W} {Q : Option Value → sm_W → Prop} {x0 : Nat} {x1 : Int32} {x2 : Int32} {x3 : Int32} {x4 : Int32} {x5 : Int32} {s0 : Nat} : sm_R X 19 21 [.ref x0, .int x1, .int x2, .int x3, .int x4, .int x5] [.ref s0] w Q ↔ sm_R X 19 23 [.ref x0, .int x1, .int x2, .int x3, .int x4, .int x5] [.int x4, .ref s0] w Q := sm_R_go d19_21 rfl
theorem d19_23 : decode (sm_code 19) 23 = .ok (.putfield 35, 3) := by decide +kernel
theorem r19_23 {X : sm_X} {w : sm_W} {Q : Option Value → sm_W → Prop} {x0 : Nat} {x1 : Int32} {x2 : Int32} {x3 : Int32} {x4 : Int32} {x5 : Int32} {s0 : Int32} {s1 : Nat} : sm_R X 19 23 [.ref x0, .int x1, .int x2, .int x3, .int x4, .int x5] [.int s0, .ref s1] w Q ↔ sm_wp (sm_pfl 5 6 (.int s0) (sm_at w s1)) (fun c => sm_R X 19 26 [.ref x0, .int x1, .int x2, .int x3, .int x4, .int x5] [] (w.set (s1 - 100) c) Q) := sm_q_putf d19_23 rfl rfl rfl (by decide)
theorem d19_26 : decode (sm_code 19) 26 = .ok (.aload_n 0, 1) := by decide +kernel
theorem r19_26 {X : sm_X} {w : sm_W} {Q : Option Value → sm_W → Prop} {x0 : Nat} {x1 : Int32} {x2 : Int32} {x3 : Int32} {x4 : Int32} {x5 : Int32} : sm_R X 19 26 [.ref x0, .int x1, .int x2, .int x3, .int x4, .int x5] [] w Q ↔ sm_R X 19 27 [.ref x0, .int x1, .int x2, .int x3, .int x4, .int x5] [.ref x0] w Q := sm_R_go d19_26 rfl
theorem d19_27 : decode (sm_code 19) 27 = .ok (.iload 5, 2) := by decide +kernel
theorem r19_27 {X : sm_X} {w : sm_W} {Q : Option Value → sm_W → Prop} {x0 : Nat} {x1 : Int32} {x2 : Int32} {x3 : Int32} {x4 : Int32} {x5 : Int32} {s0 : Nat} : sm_R X 19 27 [.ref x0, .int x1, .int x2, .int x3, .int x4, .int x5] [.ref s0] w Q ↔ sm_R X 19 29 [.ref x0, .int x1, .int x2, .int x3, .int x4, .int x5] [.int x5, .ref s0] w Q := sm_R_go d19_27 rfl
theorem d19_29 : decode (sm_code 19) 29 = .ok (.putfield 38, 3) := by decide +kernel
theorem r19_29 {X : sm_X} {w : sm_W} {Q : Option Value → sm_W → Prop} {x0 : Nat} {x1 : Int32} {x2 : Int32} {x3 : Int32} {x4 : Int32} {x5 : Int32} {s0 : Int32} {s1 : Nat} : sm_R X 19 29 [.ref x0, .int x1, .int x2, .int x3, .int x4, .int x5] [.int s0, .ref s1] w Q ↔ sm_wp (sm_pfl 5 7 (.int s0) (sm_at w s1)) (fun c => sm_R X 19 32 [.ref x0, .int x1, .int x2, .int x3, .int x4, .int x5] [] (w.set (s1 - 100) c) Q) := sm_q_putf d19_29 rfl rfl rfl (by decide)
theorem d19_32 : decode (sm_code 19) 32 = .ok (.return_, 1) := by decide +kernel
theorem r19_32 {X : sm_X} {w : sm_W} {Q : Option Value → sm_W → Prop} {x0 : Nat} {x1 : Int32} {x2 : Int32} {x3 : Int32} {x4 : Int32} {x5 : Int32} : sm_R X 19 32 [.ref x0, .int x1, .int x2, .int x3, .int x4, .int x5] [] w Q ↔ Q none w := sm_R_ret d19_32 rfl
