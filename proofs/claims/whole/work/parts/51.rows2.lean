-- GroupLedger.submit()I
theorem d20_0 : decode (sm_code 20) 0 = .ok (.aload_n 0, 1) := by decide +kernel
theorem r20_0 {X : sm_X} {w : sm_W} {Q : Option Value → sm_W → Prop} {x0 : Nat} : sm_R X 20 0 [.ref x0, sm_J, sm_J] [] w Q ↔ sm_R X 20 1 [.ref x0, sm_J, sm_J] [.ref x0] w Q := sm_R_go d20_0 rfl
theorem d20_1 : decode (sm_code 20) 1 = .ok (.getfield 33, 3) := by decide +kernel
theorem r20_1 {X : sm_X} {w : sm_W} {Q : Option Value → sm_W → Prop} {x0 : Nat} {s0 : Nat} : sm_R X 20 1 [.ref x0, sm_J, sm_J] [.ref s0] w Q ↔ sm_wp (sm_fld 6 4 (sm_at w s0)) (fun v => sm_R X 20 4 [.ref x0, sm_J, sm_J] [v] w Q) := sm_q_getf d20_1 rfl (by decide)
theorem d20_4 : decode (sm_code 20) 4 = .ok (.getfield 86, 3) := by decide +kernel
theorem r20_4 {X : sm_X} {w : sm_W} {Q : Option Value → sm_W → Prop} {x0 : Nat} {s0 : Nat} : sm_R X 20 4 [.ref x0, sm_J, sm_J] [.ref s0] w Q ↔ sm_wp (sm_fld 1 1 (sm_at w s0)) (fun v => sm_R X 20 7 [.ref x0, sm_J, sm_J] [v] w Q) := sm_q_getf d20_4 rfl (by decide)
theorem d20_7 : decode (sm_code 20) 7 = .ok (.ifCond .ne 5, 3) := by decide +kernel
theorem r20_7 {X : sm_X} {w : sm_W} {Q : Option Value → sm_W → Prop} {x0 : Nat} {s0 : Int32} : sm_R X 20 7 [.ref x0, sm_J, sm_J] [.int s0] w Q ↔ (if s0 = 0 then sm_R X 20 10 [.ref x0, sm_J, sm_J] [] w Q else sm_R X 20 12 [.ref x0, sm_J, sm_J] [] w Q) := sm_q_br d20_7 rfl
theorem d20_10 : decode (sm_code 20) 10 = .ok (.iconst (-1), 1) := by decide +kernel
theorem r20_10 {X : sm_X} {w : sm_W} {Q : Option Value → sm_W → Prop} {x0 : Nat} : sm_R X 20 10 [.ref x0, sm_J, sm_J] [] w Q ↔ sm_R X 20 11 [.ref x0, sm_J, sm_J] [.int (-1)] w Q := sm_R_go d20_10 rfl
theorem d20_11 : decode (sm_code 20) 11 = .ok (.ireturn, 1) := by decide +kernel
theorem r20_11 {X : sm_X} {w : sm_W} {Q : Option Value → sm_W → Prop} {x0 : Nat} {s0 : Int32} : sm_R X 20 11 [.ref x0, sm_J, sm_J] [.int s0] w Q ↔ Q (some (.int s0)) w := sm_q_iret d20_11 rfl
theorem d20_12 : decode (sm_code 20) 12 = .ok (.aload_n 0, 1) := by decide +kernel
theorem r20_12 {X : sm_X} {w : sm_W} {Q : Option Value → sm_W → Prop} {x0 : Nat} : sm_R X 20 12 [.ref x0, sm_J, sm_J] [] w Q ↔ sm_R X 20 13 [.ref x0, sm_J, sm_J] [.ref x0] w Q := sm_R_go d20_12 rfl
theorem d20_13 : decode (sm_code 20) 13 = .ok (.getfield 16, 3) := by decide +kernel
theorem r20_13 {X : sm_X} {w : sm_W} {Q : Option Value → sm_W → Prop} {x0 : Nat} {s0 : Nat} : sm_R X 20 13 [.ref x0, sm_J, sm_J] [.ref s0] w Q ↔ sm_wp (sm_fld 6 1 (sm_at w s0)) (fun v => sm_R X 20 16 [.ref x0, sm_J, sm_J] [v] w Q) := sm_q_getf d20_13 rfl (by decide)
theorem d20_16 : decode (sm_code 20) 16 = .ok (.aload_n 0, 1) := by decide +kernel
theorem r20_16 {X : sm_X} {w : sm_W} {Q : Option Value → sm_W → Prop} {x0 : Nat} {s0 : Nat} : sm_R X 20 16 [.ref x0, sm_J, sm_J] [.ref s0] w Q ↔ sm_R X 20 17 [.ref x0, sm_J, sm_J] [.ref x0, .ref s0] w Q := sm_R_go d20_16 rfl
theorem d20_17 : decode (sm_code 20) 17 = .ok (.getfield 10, 3) := by decide +kernel
theorem r20_17 {X : sm_X} {w : sm_W} {Q : Option Value → sm_W → Prop} {x0 : Nat} {s0 : Nat} {s1 : Nat} : sm_R X 20 17 [.ref x0, sm_J, sm_J] [.ref s0, .ref s1] w Q ↔ sm_wp (sm_fld 6 0 (sm_at w s0)) (fun v => sm_R X 20 20 [.ref x0, sm_J, sm_J] [v, .ref s1] w Q) := sm_q_getf d20_17 rfl (by decide)
theorem d20_20 : decode (sm_code 20) 20 = .ok (.invokevirtual 101, 3) := by decide +kernel
theorem r20_20 {X : sm_X} {w : sm_W} {Q : Option Value → sm_W → Prop} {x0 : Nat} {s0 : Nat} {s1 : Nat} : sm_R X 20 20 [.ref x0, sm_J, sm_J] [.ref s0, .ref s1] w Q ↔ (sm_cN (sm_at w s1) = some 0 ∧ sm_R X 21 0 [.ref s1, .ref s0, sm_J] [] w (fun v w => sm_R X 20 23 [.ref x0, sm_J, sm_J] (v.toList ++ []) w Q)) := sm_q_vir (k := 21) (as := [.ref s1, .ref s0]) (rest := []) d20_20 rfl rfl rfl rfl rfl
theorem d20_23 : decode (sm_code 20) 23 = .ok (.aload_n 0, 1) := by decide +kernel
theorem r20_23 {X : sm_X} {w : sm_W} {Q : Option Value → sm_W → Prop} {x0 : Nat} : sm_R X 20 23 [.ref x0, sm_J, sm_J] [] w Q ↔ sm_R X 20 24 [.ref x0, sm_J, sm_J] [.ref x0] w Q := sm_R_go d20_23 rfl
theorem d20_24 : decode (sm_code 20) 24 = .ok (.getfield 42, 3) := by decide +kernel
theorem r20_24 {X : sm_X} {w : sm_W} {Q : Option Value → sm_W → Prop} {x0 : Nat} {s0 : Nat} : sm_R X 20 24 [.ref x0, sm_J, sm_J] [.ref s0] w Q ↔ sm_wp (sm_fld 6 5 (sm_at w s0)) (fun v => sm_R X 20 27 [.ref x0, sm_J, sm_J] [v] w Q) := sm_q_getf d20_24 rfl (by decide)
theorem d20_27 : decode (sm_code 20) 27 = .ok (.invokevirtual 104, 3) := by decide +kernel
theorem r20_27 {X : sm_X} {w : sm_W} {Q : Option Value → sm_W → Prop} {x0 : Nat} {s0 : Nat} : sm_R X 20 27 [.ref x0, sm_J, sm_J] [.ref s0] w Q ↔ (sm_cN (sm_at w s0) = some 2 ∧ sm_R X 22 0 [.ref s0] [] w (fun v w => sm_R X 20 30 [.ref x0, sm_J, sm_J] (v.toList ++ []) w Q)) := sm_q_vir (k := 22) (as := [.ref s0]) (rest := []) d20_27 rfl rfl rfl rfl rfl
theorem d20_30 : decode (sm_code 20) 30 = .ok (.aload_n 0, 1) := by decide +kernel
theorem r20_30 {X : sm_X} {w : sm_W} {Q : Option Value → sm_W → Prop} {x0 : Nat} : sm_R X 20 30 [.ref x0, sm_J, sm_J] [] w Q ↔ sm_R X 20 31 [.ref x0, sm_J, sm_J] [.ref x0] w Q := sm_R_go d20_30 rfl
theorem d20_31 : decode (sm_code 20) 31 = .ok (.bipush (-3), 2) := by decide +kernel
theorem r20_31 {X : sm_X} {w : sm_W} {Q : Option Value → sm_W → Prop} {x0 : Nat} {s0 : Nat} : sm_R X 20 31 [.ref x0, sm_J, sm_J] [.ref s0] w Q ↔ sm_R X 20 33 [.ref x0, sm_J, sm_J] [.int (-3), .ref s0] w Q := sm_R_go d20_31 rfl
theorem d20_33 : decode (sm_code 20) 33 = .ok (.putfield 46, 3) := by decide +kernel
theorem r20_33 {X : sm_X} {w : sm_W} {Q : Option Value → sm_W → Prop} {x0 : Nat} {s0 : Int32} {s1 : Nat} : sm_R X 20 33 [.ref x0, sm_J, sm_J] [.int s0, .ref s1] w Q ↔ sm_wp (sm_pfl 6 6 (.int s0) (sm_at w s1)) (fun c => sm_R X 20 36 [.ref x0, sm_J, sm_J] [] (w.set (s1 - 100) c) Q) := sm_q_putf d20_33 rfl rfl rfl (by decide)
theorem d20_36 : decode (sm_code 20) 36 = .ok (.iconst 0, 1) := by decide +kernel
theorem r20_36 {X : sm_X} {w : sm_W} {Q : Option Value → sm_W → Prop} {x0 : Nat} : sm_R X 20 36 [.ref x0, sm_J, sm_J] [] w Q ↔ sm_R X 20 37 [.ref x0, sm_J, sm_J] [.int 0] w Q := sm_R_go d20_36 rfl
theorem d20_37 : decode (sm_code 20) 37 = .ok (.istore_n 1, 1) := by decide +kernel
theorem r20_37 {X : sm_X} {w : sm_W} {Q : Option Value → sm_W → Prop} {x0 : Nat} {s0 : Int32} : sm_R X 20 37 [.ref x0, sm_J, sm_J] [.int s0] w Q ↔ sm_R X 20 38 [.ref x0, .int s0, sm_J] [] w Q := sm_R_go d20_37 rfl
theorem d20_38 : decode (sm_code 20) 38 = .ok (.iconst 0, 1) := by decide +kernel
theorem r20_38 {X : sm_X} {w : sm_W} {Q : Option Value → sm_W → Prop} {x0 : Nat} {x1 : Int32} : sm_R X 20 38 [.ref x0, .int x1, sm_J] [] w Q ↔ sm_R X 20 39 [.ref x0, .int x1, sm_J] [.int 0] w Q := sm_R_go d20_38 rfl
theorem d20_39 : decode (sm_code 20) 39 = .ok (.istore_n 2, 1) := by decide +kernel
theorem r20_39 {X : sm_X} {w : sm_W} {Q : Option Value → sm_W → Prop} {x0 : Nat} {x1 : Int32} {s0 : Int32} : sm_R X 20 39 [.ref x0, .int x1, sm_J] [.int s0] w Q ↔ sm_R X 20 40 [.ref x0, .int x1, .int s0] [] w Q := sm_R_go d20_39 rfl
theorem d20_40 : decode (sm_code 20) 40 = .ok (.iload_n 2, 1) := by decide +kernel
theorem r20_40 {X : sm_X} {w : sm_W} {Q : Option Value → sm_W → Prop} {x0 : Nat} {x1 : Int32} {x2 : Int32} : sm_R X 20 40 [.ref x0, .int x1, .int x2] [] w Q ↔ sm_R X 20 41 [.ref x0, .int x1, .int x2] [.int x2] w Q := sm_R_go d20_40 rfl
theorem d20_41 : decode (sm_code 20) 41 = .ok (.aload_n 0, 1) := by decide +kernel
theorem r20_41 {X : sm_X} {w : sm_W} {Q : Option Value → sm_W → Prop} {x0 : Nat} {x1 : Int32} {x2 : Int32} {s0 : Int32} : sm_R X 20 41 [.ref x0, .int x1, .int x2] [.int s0] w Q ↔ sm_R X 20 42 [.ref x0, .int x1, .int x2] [.ref x0, .int s0] w Q := sm_R_go d20_41 rfl
theorem d20_42 : decode (sm_code 20) 42 = .ok (.getfield 33, 3) := by decide +kernel
theorem r20_42 {X : sm_X} {w : sm_W} {Q : Option Value → sm_W → Prop} {x0 : Nat} {x1 : Int32} {x2 : Int32} {s0 : Nat} {s1 : Int32} : sm_R X 20 42 [.ref x0, .int x1, .int x2] [.ref s0, .int s1] w Q ↔ sm_wp (sm_fld 6 4 (sm_at w s0)) (fun v => sm_R X 20 45 [.ref x0, .int x1, .int x2] [v, .int s1] w Q) := sm_q_getf d20_42 rfl (by decide)
theorem d20_45 : decode (sm_code 20) 45 = .ok (.getfield 86, 3) := by decide +kernel
theorem r20_45 {X : sm_X} {w : sm_W} {Q : Option Value → sm_W → Prop} {x0 : Nat} {x1 : Int32} {x2 : Int32} {s0 : Nat} {s1 : Int32} : sm_R X 20 45 [.ref x0, .int x1, .int x2] [.ref s0, .int s1] w Q ↔ sm_wp (sm_fld 1 1 (sm_at w s0)) (fun v => sm_R X 20 48 [.ref x0, .int x1, .int x2] [v, .int s1] w Q) := sm_q_getf d20_45 rfl (by decide)
theorem d20_48 : decode (sm_code 20) 48 = .ok (.if_icmp .ge 28, 3) := by decide +kernel
theorem r20_48 {X : sm_X} {w : sm_W} {Q : Option Value → sm_W → Prop} {x0 : Nat} {x1 : Int32} {x2 : Int32} {s0 : Int32} {s1 : Int32} : sm_R X 20 48 [.ref x0, .int x1, .int x2] [.int s0, .int s1] w Q ↔ (if s0 ≤ s1 then sm_R X 20 76 [.ref x0, .int x1, .int x2] [] w Q else sm_R X 20 51 [.ref x0, .int x1, .int x2] [] w Q) := sm_q_br d20_48 rfl
theorem d20_51 : decode (sm_code 20) 51 = .ok (.iload_n 1, 1) := by decide +kernel
theorem r20_51 {X : sm_X} {w : sm_W} {Q : Option Value → sm_W → Prop} {x0 : Nat} {x1 : Int32} {x2 : Int32} : sm_R X 20 51 [.ref x0, .int x1, .int x2] [] w Q ↔ sm_R X 20 52 [.ref x0, .int x1, .int x2] [.int x1] w Q := sm_R_go d20_51 rfl
theorem d20_52 : decode (sm_code 20) 52 = .ok (.ifCond .ne 24, 3) := by decide +kernel
theorem r20_52 {X : sm_X} {w : sm_W} {Q : Option Value → sm_W → Prop} {x0 : Nat} {x1 : Int32} {x2 : Int32} {s0 : Int32} : sm_R X 20 52 [.ref x0, .int x1, .int x2] [.int s0] w Q ↔ (if s0 = 0 then sm_R X 20 55 [.ref x0, .int x1, .int x2] [] w Q else sm_R X 20 76 [.ref x0, .int x1, .int x2] [] w Q) := sm_q_br d20_52 rfl
theorem d20_55 : decode (sm_code 20) 55 = .ok (.aload_n 0, 1) := by decide +kernel
theorem r20_55 {X : sm_X} {w : sm_W} {Q : Option Value → sm_W → Prop} {x0 : Nat} {x1 : Int32} {x2 : Int32} : sm_R X 20 55 [.ref x0, .int x1, .int x2] [] w Q ↔ sm_R X 20 56 [.ref x0, .int x1, .int x2] [.ref x0] w Q := sm_R_go d20_55 rfl
theorem d20_56 : decode (sm_code 20) 56 = .ok (.iload_n 2, 1) := by decide +kernel
theorem r20_56 {X : sm_X} {w : sm_W} {Q : Option Value → sm_W → Prop} {x0 : Nat} {x1 : Int32} {x2 : Int32} {s0 : Nat} : sm_R X 20 56 [.ref x0, .int x1, .int x2] [.ref s0] w Q ↔ sm_R X 20 57 [.ref x0, .int x1, .int x2] [.int x2, .ref s0] w Q := sm_R_go d20_56 rfl
theorem d20_57 : decode (sm_code 20) 57 = .ok (.invokevirtual 107, 3) := by decide +kernel
theorem r20_57 {X : sm_X} {w : sm_W} {Q : Option Value → sm_W → Prop} {x0 : Nat} {x1 : Int32} {x2 : Int32} {s0 : Int32} {s1 : Nat} : sm_R X 20 57 [.ref x0, .int x1, .int x2] [.int s0, .ref s1] w Q ↔ (sm_cN (sm_at w s1) = some 6 ∧ sm_R X 24 0 [.ref s1, .int s0, sm_J, sm_J, sm_J] [] w (fun v w => sm_R X 20 60 [.ref x0, .int x1, .int x2] (v.toList ++ []) w Q)) := sm_q_vir (k := 24) (as := [.ref s1, .int s0]) (rest := []) d20_57 rfl rfl rfl rfl rfl
theorem d20_60 : decode (sm_code 20) 60 = .ok (.istore_n 1, 1) := by decide +kernel
theorem r20_60 {X : sm_X} {w : sm_W} {Q : Option Value → sm_W → Prop} {x0 : Nat} {x1 : Int32} {x2 : Int32} {s0 : Int32} : sm_R X 20 60 [.ref x0, .int x1, .int x2] [.int s0] w Q ↔ sm_R X 20 61 [.ref x0, .int s0, .int x2] [] w Q := sm_R_go d20_60 rfl
theorem d20_61 : decode (sm_code 20) 61 = .ok (.iload_n 1, 1) := by decide +kernel
theorem r20_61 {X : sm_X} {w : sm_W} {Q : Option Value → sm_W → Prop} {x0 : Nat} {x1 : Int32} {x2 : Int32} : sm_R X 20 61 [.ref x0, .int x1, .int x2] [] w Q ↔ sm_R X 20 62 [.ref x0, .int x1, .int x2] [.int x1] w Q := sm_R_go d20_61 rfl
theorem d20_62 : decode (sm_code 20) 62 = .ok (.ifCond .eq 8, 3) := by decide +kernel
theorem r20_62 {X : sm_X} {w : sm_W} {Q : Option Value → sm_W → Prop} {x0 : Nat} {x1 : Int32} {x2 : Int32} {s0 : Int32} : sm_R X 20 62 [.ref x0, .int x1, .int x2] [.int s0] w Q ↔ (if s0 = 0 then sm_R X 20 70 [.ref x0, .int x1, .int x2] [] w Q else sm_R X 20 65 [.ref x0, .int x1, .int x2] [] w Q) := sm_q_br d20_62 rfl
theorem d20_65 : decode (sm_code 20) 65 = .ok (.aload_n 0, 1) := by decide +kernel
theorem r20_65 {X : sm_X} {w : sm_W} {Q : Option Value → sm_W → Prop} {x0 : Nat} {x1 : Int32} {x2 : Int32} : sm_R X 20 65 [.ref x0, .int x1, .int x2] [] w Q ↔ sm_R X 20 66 [.ref x0, .int x1, .int x2] [.ref x0] w Q := sm_R_go d20_65 rfl
theorem d20_66 : decode (sm_code 20) 66 = .ok (.iload_n 2, 1) := by decide +kernel
theorem r20_66 {X : sm_X} {w : sm_W} {Q : Option Value → sm_W → Prop} {x0 : Nat} {x1 : Int32} {x2 : Int32} {s0 : Nat} : sm_R X 20 66 [.ref x0, .int x1, .int x2] [.ref s0] w Q ↔ sm_R X 20 67 [.ref x0, .int x1, .int x2] [.int x2, .ref s0] w Q := sm_R_go d20_66 rfl
theorem d20_67 : decode (sm_code 20) 67 = .ok (.putfield 46, 3) := by decide +kernel
theorem r20_67 {X : sm_X} {w : sm_W} {Q : Option Value → sm_W → Prop} {x0 : Nat} {x1 : Int32} {x2 : Int32} {s0 : Int32} {s1 : Nat} : sm_R X 20 67 [.ref x0, .int x1, .int x2] [.int s0, .ref s1] w Q ↔ sm_wp (sm_pfl 6 6 (.int s0) (sm_at w s1)) (fun c => sm_R X 20 70 [.ref x0, .int x1, .int x2] [] (w.set (s1 - 100) c) Q) := sm_q_putf d20_67 rfl rfl rfl (by decide)
theorem d20_70 : decode (sm_code 20) 70 = .ok (.iinc 2 1, 3) := by decide +kernel
theorem r20_70 {X : sm_X} {w : sm_W} {Q : Option Value → sm_W → Prop} {x0 : Nat} {x1 : Int32} {x2 : Int32} : sm_R X 20 70 [.ref x0, .int x1, .int x2] [] w Q ↔ sm_R X 20 73 [.ref x0, .int x1, .int (x2 + 1)] [] w Q := sm_R_go d20_70 rfl
theorem d20_73 : decode (sm_code 20) 73 = .ok (.goto (-33), 3) := by decide +kernel
theorem r20_73 {X : sm_X} {w : sm_W} {Q : Option Value → sm_W → Prop} {x0 : Nat} {x1 : Int32} {x2 : Int32} : sm_R X 20 73 [.ref x0, .int x1, .int x2] [] w Q ↔ sm_R X 20 40 [.ref x0, .int x1, .int x2] [] w Q := sm_R_go d20_73 rfl
theorem d20_76 : decode (sm_code 20) 76 = .ok (.iload_n 1, 1) := by decide +kernel
theorem r20_76 {X : sm_X} {w : sm_W} {Q : Option Value → sm_W → Prop} {x0 : Nat} {x1 : Int32} {x2 : Int32} : sm_R X 20 76 [.ref x0, .int x1, .int x2] [] w Q ↔ sm_R X 20 77 [.ref x0, .int x1, .int x2] [.int x1] w Q := sm_R_go d20_76 rfl
theorem d20_77 : decode (sm_code 20) 77 = .ok (.ifCond .ne 16, 3) := by decide +kernel
theorem r20_77 {X : sm_X} {w : sm_W} {Q : Option Value → sm_W → Prop} {x0 : Nat} {x1 : Int32} {x2 : Int32} {s0 : Int32} : sm_R X 20 77 [.ref x0, .int x1, .int x2] [.int s0] w Q ↔ (if s0 = 0 then sm_R X 20 80 [.ref x0, .int x1, .int x2] [] w Q else sm_R X 20 93 [.ref x0, .int x1, .int x2] [] w Q) := sm_q_br d20_77 rfl
theorem d20_80 : decode (sm_code 20) 80 = .ok (.aload_n 0, 1) := by decide +kernel
theorem r20_80 {X : sm_X} {w : sm_W} {Q : Option Value → sm_W → Prop} {x0 : Nat} {x1 : Int32} {x2 : Int32} : sm_R X 20 80 [.ref x0, .int x1, .int x2] [] w Q ↔ sm_R X 20 81 [.ref x0, .int x1, .int x2] [.ref x0] w Q := sm_R_go d20_80 rfl
theorem d20_81 : decode (sm_code 20) 81 = .ok (.dup, 1) := by decide +kernel
theorem r20_81 {X : sm_X} {w : sm_W} {Q : Option Value → sm_W → Prop} {x0 : Nat} {x1 : Int32} {x2 : Int32} {s0 : Nat} : sm_R X 20 81 [.ref x0, .int x1, .int x2] [.ref s0] w Q ↔ sm_R X 20 82 [.ref x0, .int x1, .int x2] [.ref s0, .ref s0] w Q := sm_R_go d20_81 rfl
theorem d20_82 : decode (sm_code 20) 82 = .ok (.getfield 111, 3) := by decide +kernel
theorem r20_82 {X : sm_X} {w : sm_W} {Q : Option Value → sm_W → Prop} {x0 : Nat} {x1 : Int32} {x2 : Int32} {s0 : Nat} {s1 : Nat} : sm_R X 20 82 [.ref x0, .int x1, .int x2] [.ref s0, .ref s1] w Q ↔ sm_wp (sm_fld 6 7 (sm_at w s0)) (fun v => sm_R X 20 85 [.ref x0, .int x1, .int x2] [v, .ref s1] w Q) := sm_q_getf d20_82 rfl (by decide)
theorem d20_85 : decode (sm_code 20) 85 = .ok (.iconst 1, 1) := by decide +kernel
theorem r20_85 {X : sm_X} {w : sm_W} {Q : Option Value → sm_W → Prop} {x0 : Nat} {x1 : Int32} {x2 : Int32} {s0 : Int32} {s1 : Nat} : sm_R X 20 85 [.ref x0, .int x1, .int x2] [.int s0, .ref s1] w Q ↔ sm_R X 20 86 [.ref x0, .int x1, .int x2] [.int 1, .int s0, .ref s1] w Q := sm_R_go d20_85 rfl
theorem d20_86 : decode (sm_code 20) 86 = .ok (.iadd, 1) := by decide +kernel
theorem r20_86 {X : sm_X} {w : sm_W} {Q : Option Value → sm_W → Prop} {x0 : Nat} {x1 : Int32} {x2 : Int32} {s0 : Int32} {s1 : Int32} {s2 : Nat} : sm_R X 20 86 [.ref x0, .int x1, .int x2] [.int s0, .int s1, .ref s2] w Q ↔ sm_R X 20 87 [.ref x0, .int x1, .int x2] [.int (s1 + s0), .ref s2] w Q := sm_R_go d20_86 rfl
theorem d20_87 : decode (sm_code 20) 87 = .ok (.putfield 111, 3) := by decide +kernel
theorem r20_87 {X : sm_X} {w : sm_W} {Q : Option Value → sm_W → Prop} {x0 : Nat} {x1 : Int32} {x2 : Int32} {s0 : Int32} {s1 : Nat} : sm_R X 20 87 [.ref x0, .int x1, .int x2] [.int s0, .ref s1] w Q ↔ sm_wp (sm_pfl 6 7 (.int s0) (sm_at w s1)) (fun c => sm_R X 20 90 [.ref x0, .int x1, .int x2] [] (w.set (s1 - 100) c) Q) := sm_q_putf d20_87 rfl rfl rfl (by decide)
theorem d20_90 : decode (sm_code 20) 90 = .ok (.goto 24, 3) := by decide +kernel
theorem r20_90 {X : sm_X} {w : sm_W} {Q : Option Value → sm_W → Prop} {x0 : Nat} {x1 : Int32} {x2 : Int32} : sm_R X 20 90 [.ref x0, .int x1, .int x2] [] w Q ↔ sm_R X 20 114 [.ref x0, .int x1, .int x2] [] w Q := sm_R_go d20_90 rfl
theorem d20_93 : decode (sm_code 20) 93 = .ok (.aload_n 0, 1) := by decide +kernel
theorem r20_93 {X : sm_X} {w : sm_W} {Q : Option Value → sm_W → Prop} {x0 : Nat} {x1 : Int32} {x2 : Int32} : sm_R X 20 93 [.ref x0, .int x1, .int x2] [] w Q ↔ sm_R X 20 94 [.ref x0, .int x1, .int x2] [.ref x0] w Q := sm_R_go d20_93 rfl
theorem d20_94 : decode (sm_code 20) 94 = .ok (.getfield 10, 3) := by decide +kernel
theorem r20_94 {X : sm_X} {w : sm_W} {Q : Option Value → sm_W → Prop} {x0 : Nat} {x1 : Int32} {x2 : Int32} {s0 : Nat} : sm_R X 20 94 [.ref x0, .int x1, .int x2] [.ref s0] w Q ↔ sm_wp (sm_fld 6 0 (sm_at w s0)) (fun v => sm_R X 20 97 [.ref x0, .int x1, .int x2] [v] w Q) := sm_q_getf d20_94 rfl (by decide)
theorem d20_97 : decode (sm_code 20) 97 = .ok (.aload_n 0, 1) := by decide +kernel
theorem r20_97 {X : sm_X} {w : sm_W} {Q : Option Value → sm_W → Prop} {x0 : Nat} {x1 : Int32} {x2 : Int32} {s0 : Nat} : sm_R X 20 97 [.ref x0, .int x1, .int x2] [.ref s0] w Q ↔ sm_R X 20 98 [.ref x0, .int x1, .int x2] [.ref x0, .ref s0] w Q := sm_R_go d20_97 rfl
theorem d20_98 : decode (sm_code 20) 98 = .ok (.getfield 16, 3) := by decide +kernel
theorem r20_98 {X : sm_X} {w : sm_W} {Q : Option Value → sm_W → Prop} {x0 : Nat} {x1 : Int32} {x2 : Int32} {s0 : Nat} {s1 : Nat} : sm_R X 20 98 [.ref x0, .int x1, .int x2] [.ref s0, .ref s1] w Q ↔ sm_wp (sm_fld 6 1 (sm_at w s0)) (fun v => sm_R X 20 101 [.ref x0, .int x1, .int x2] [v, .ref s1] w Q) := sm_q_getf d20_98 rfl (by decide)
theorem d20_101 : decode (sm_code 20) 101 = .ok (.invokevirtual 101, 3) := by decide +kernel
theorem r20_101 {X : sm_X} {w : sm_W} {Q : Option Value → sm_W → Prop} {x0 : Nat} {x1 : Int32} {x2 : Int32} {s0 : Nat} {s1 : Nat} : sm_R X 20 101 [.ref x0, .int x1, .int x2] [.ref s0, .ref s1] w Q ↔ (sm_cN (sm_at w s1) = some 0 ∧ sm_R X 21 0 [.ref s1, .ref s0, sm_J] [] w (fun v w => sm_R X 20 104 [.ref x0, .int x1, .int x2] (v.toList ++ []) w Q)) := sm_q_vir (k := 21) (as := [.ref s1, .ref s0]) (rest := []) d20_101 rfl rfl rfl rfl rfl
theorem d20_104 : decode (sm_code 20) 104 = .ok (.aload_n 0, 1) := by decide +kernel
theorem r20_104 {X : sm_X} {w : sm_W} {Q : Option Value → sm_W → Prop} {x0 : Nat} {x1 : Int32} {x2 : Int32} : sm_R X 20 104 [.ref x0, .int x1, .int x2] [] w Q ↔ sm_R X 20 105 [.ref x0, .int x1, .int x2] [.ref x0] w Q := sm_R_go d20_104 rfl
theorem d20_105 : decode (sm_code 20) 105 = .ok (.dup, 1) := by decide +kernel
theorem r20_105 {X : sm_X} {w : sm_W} {Q : Option Value → sm_W → Prop} {x0 : Nat} {x1 : Int32} {x2 : Int32} {s0 : Nat} : sm_R X 20 105 [.ref x0, .int x1, .int x2] [.ref s0] w Q ↔ sm_R X 20 106 [.ref x0, .int x1, .int x2] [.ref s0, .ref s0] w Q := sm_R_go d20_105 rfl
theorem d20_106 : decode (sm_code 20) 106 = .ok (.getfield 114, 3) := by decide +kernel
theorem r20_106 {X : sm_X} {w : sm_W} {Q : Option Value → sm_W → Prop} {x0 : Nat} {x1 : Int32} {x2 : Int32} {s0 : Nat} {s1 : Nat} : sm_R X 20 106 [.ref x0, .int x1, .int x2] [.ref s0, .ref s1] w Q ↔ sm_wp (sm_fld 6 8 (sm_at w s0)) (fun v => sm_R X 20 109 [.ref x0, .int x1, .int x2] [v, .ref s1] w Q) := sm_q_getf d20_106 rfl (by decide)
theorem d20_109 : decode (sm_code 20) 109 = .ok (.iconst 1, 1) := by decide +kernel
theorem r20_109 {X : sm_X} {w : sm_W} {Q : Option Value → sm_W → Prop} {x0 : Nat} {x1 : Int32} {x2 : Int32} {s0 : Int32} {s1 : Nat} : sm_R X 20 109 [.ref x0, .int x1, .int x2] [.int s0, .ref s1] w Q ↔ sm_R X 20 110 [.ref x0, .int x1, .int x2] [.int 1, .int s0, .ref s1] w Q := sm_R_go d20_109 rfl
theorem d20_110 : decode (sm_code 20) 110 = .ok (.iadd, 1) := by decide +kernel
theorem r20_110 {X : sm_X} {w : sm_W} {Q : Option Value → sm_W → Prop} {x0 : Nat} {x1 : Int32} {x2 : Int32} {s0 : Int32} {s1 : Int32} {s2 : Nat} : sm_R X 20 110 [.ref x0, .int x1, .int x2] [.int s0, .int s1, .ref s2] w Q ↔ sm_R X 20 111 [.ref x0, .int x1, .int x2] [.int (s1 + s0), .ref s2] w Q := sm_R_go d20_110 rfl
theorem d20_111 : decode (sm_code 20) 111 = .ok (.putfield 114, 3) := by decide +kernel
theorem r20_111 {X : sm_X} {w : sm_W} {Q : Option Value → sm_W → Prop} {x0 : Nat} {x1 : Int32} {x2 : Int32} {s0 : Int32} {s1 : Nat} : sm_R X 20 111 [.ref x0, .int x1, .int x2] [.int s0, .ref s1] w Q ↔ sm_wp (sm_pfl 6 8 (.int s0) (sm_at w s1)) (fun c => sm_R X 20 114 [.ref x0, .int x1, .int x2] [] (w.set (s1 - 100) c) Q) := sm_q_putf d20_111 rfl rfl rfl (by decide)
theorem d20_114 : decode (sm_code 20) 114 = .ok (.aload_n 0, 1) := by decide +kernel
theorem r20_114 {X : sm_X} {w : sm_W} {Q : Option Value → sm_W → Prop} {x0 : Nat} {x1 : Int32} {x2 : Int32} : sm_R X 20 114 [.ref x0, .int x1, .int x2] [] w Q ↔ sm_R X 20 115 [.ref x0, .int x1, .int x2] [.ref x0] w Q := sm_R_go d20_114 rfl
theorem d20_115 : decode (sm_code 20) 115 = .ok (.getfield 33, 3) := by decide +kernel
theorem r20_115 {X : sm_X} {w : sm_W} {Q : Option Value → sm_W → Prop} {x0 : Nat} {x1 : Int32} {x2 : Int32} {s0 : Nat} : sm_R X 20 115 [.ref x0, .int x1, .int x2] [.ref s0] w Q ↔ sm_wp (sm_fld 6 4 (sm_at w s0)) (fun v => sm_R X 20 118 [.ref x0, .int x1, .int x2] [v] w Q) := sm_q_getf d20_115 rfl (by decide)
theorem d20_118 : decode (sm_code 20) 118 = .ok (.iconst 0, 1) := by decide +kernel
theorem r20_118 {X : sm_X} {w : sm_W} {Q : Option Value → sm_W → Prop} {x0 : Nat} {x1 : Int32} {x2 : Int32} {s0 : Nat} : sm_R X 20 118 [.ref x0, .int x1, .int x2] [.ref s0] w Q ↔ sm_R X 20 119 [.ref x0, .int x1, .int x2] [.int 0, .ref s0] w Q := sm_R_go d20_118 rfl
theorem d20_119 : decode (sm_code 20) 119 = .ok (.putfield 86, 3) := by decide +kernel
theorem r20_119 {X : sm_X} {w : sm_W} {Q : Option Value → sm_W → Prop} {x0 : Nat} {x1 : Int32} {x2 : Int32} {s0 : Int32} {s1 : Nat} : sm_R X 20 119 [.ref x0, .int x1, .int x2] [.int s0, .ref s1] w Q ↔ sm_wp (sm_pfl 1 1 (.int s0) (sm_at w s1)) (fun c => sm_R X 20 122 [.ref x0, .int x1, .int x2] [] (w.set (s1 - 100) c) Q) := sm_q_putf d20_119 rfl rfl rfl (by decide)
theorem d20_122 : decode (sm_code 20) 122 = .ok (.iload_n 1, 1) := by decide +kernel
theorem r20_122 {X : sm_X} {w : sm_W} {Q : Option Value → sm_W → Prop} {x0 : Nat} {x1 : Int32} {x2 : Int32} : sm_R X 20 122 [.ref x0, .int x1, .int x2] [] w Q ↔ sm_R X 20 123 [.ref x0, .int x1, .int x2] [.int x1] w Q := sm_R_go d20_122 rfl
theorem d20_123 : decode (sm_code 20) 123 = .ok (.ireturn, 1) := by decide +kernel
theorem r20_123 {X : sm_X} {w : sm_W} {Q : Option Value → sm_W → Prop} {x0 : Nat} {x1 : Int32} {x2 : Int32} {s0 : Int32} : sm_R X 20 123 [.ref x0, .int x1, .int x2] [.int s0] w Q ↔ Q (some (.int s0)) w := sm_q_iret d20_123 rfl
-- GroupLedger$Books.copyFrom(LGroupLedger$Books;)V
theorem d21_0 : decode (sm_code 21) 0 = .ok (.aload_n 1, 1) := by decide +kernel
theorem r21_0 {X : sm_X} {w : sm_W} {Q : Option Value → sm_W → Prop} {x0 : Nat} {x1 : Nat} : sm_R X 21 0 [.ref x0, .ref x1, sm_J] [] w Q ↔ sm_R X 21 1 [.ref x0, .ref x1, sm_J] [.ref x1] w Q := sm_R_go d21_0 rfl
theorem d21_1 : decode (sm_code 21) 1 = .ok (.getfield 9, 3) := by decide +kernel
theorem r21_1 {X : sm_X} {w : sm_W} {Q : Option Value → sm_W → Prop} {x0 : Nat} {x1 : Nat} {s0 : Nat} : sm_R X 21 1 [.ref x0, .ref x1, sm_J] [.ref s0] w Q ↔ sm_wp (sm_fld 0 0 (sm_at w s0)) (fun v => sm_R X 21 4 [.ref x0, .ref x1, sm_J] [v] w Q) := sm_q_getf d21_1 rfl (by decide)
theorem d21_4 : decode (sm_code 21) 4 = .ok (.iconst 0, 1) := by decide +kernel
theorem r21_4 {X : sm_X} {w : sm_W} {Q : Option Value → sm_W → Prop} {x0 : Nat} {x1 : Nat} {s0 : Nat} : sm_R X 21 4 [.ref x0, .ref x1, sm_J] [.ref s0] w Q ↔ sm_R X 21 5 [.ref x0, .ref x1, sm_J] [.int 0, .ref s0] w Q := sm_R_go d21_4 rfl
theorem d21_5 : decode (sm_code 21) 5 = .ok (.aload_n 0, 1) := by decide +kernel
theorem r21_5 {X : sm_X} {w : sm_W} {Q : Option Value → sm_W → Prop} {x0 : Nat} {x1 : Nat} {s0 : Int32} {s1 : Nat} : sm_R X 21 5 [.ref x0, .ref x1, sm_J] [.int s0, .ref s1] w Q ↔ sm_R X 21 6 [.ref x0, .ref x1, sm_J] [.ref x0, .int s0, .ref s1] w Q := sm_R_go d21_5 rfl
theorem d21_6 : decode (sm_code 21) 6 = .ok (.getfield 9, 3) := by decide +kernel
theorem r21_6 {X : sm_X} {w : sm_W} {Q : Option Value → sm_W → Prop} {x0 : Nat} {x1 : Nat} {s0 : Nat} {s1 : Int32} {s2 : Nat} : sm_R X 21 6 [.ref x0, .ref x1, sm_J] [.ref s0, .int s1, .ref s2] w Q ↔ sm_wp (sm_fld 0 0 (sm_at w s0)) (fun v => sm_R X 21 9 [.ref x0, .ref x1, sm_J] [v, .int s1, .ref s2] w Q) := sm_q_getf d21_6 rfl (by decide)
theorem d21_9 : decode (sm_code 21) 9 = .ok (.iconst 0, 1) := by decide +kernel
theorem r21_9 {X : sm_X} {w : sm_W} {Q : Option Value → sm_W → Prop} {x0 : Nat} {x1 : Nat} {s0 : Nat} {s1 : Int32} {s2 : Nat} : sm_R X 21 9 [.ref x0, .ref x1, sm_J] [.ref s0, .int s1, .ref s2] w Q ↔ sm_R X 21 10 [.ref x0, .ref x1, sm_J] [.int 0, .ref s0, .int s1, .ref s2] w Q := sm_R_go d21_9 rfl
theorem d21_10 : decode (sm_code 21) 10 = .ok (.bipush 6, 2) := by decide +kernel
theorem r21_10 {X : sm_X} {w : sm_W} {Q : Option Value → sm_W → Prop} {x0 : Nat} {x1 : Nat} {s0 : Int32} {s1 : Nat} {s2 : Int32} {s3 : Nat} : sm_R X 21 10 [.ref x0, .ref x1, sm_J] [.int s0, .ref s1, .int s2, .ref s3] w Q ↔ sm_R X 21 12 [.ref x0, .ref x1, sm_J] [.int 6, .int s0, .ref s1, .int s2, .ref s3] w Q := sm_R_go d21_10 rfl
theorem d21_12 : decode (sm_code 21) 12 = .ok (.invokestatic 29, 3) := by decide +kernel
theorem r21_12 {X : sm_X} {w : sm_W} {Q : Option Value → sm_W → Prop} {x0 : Nat} {x1 : Nat} {s0 : Int32} {s1 : Int32} {s2 : Nat} {s3 : Int32} {s4 : Nat} (h : ¬ (s4 < 100 ∨ s2 < 100)) : sm_R X 21 12 [.ref x0, .ref x1, sm_J] [.int s0, .int s1, .ref s2, .int s3, .ref s4] w Q ↔ sm_wp (sm_cpi s3 s1 s0 (sm_at w s4) (sm_at w s2)) (fun c => sm_R X 21 15 [.ref x0, .ref x1, sm_J] [] (w.set (s2 - 100) c) Q) := sm_q_cpy d21_12 rfl (by decide) (by decide) h
theorem d21_15 : decode (sm_code 21) 15 = .ok (.iconst 0, 1) := by decide +kernel
theorem r21_15 {X : sm_X} {w : sm_W} {Q : Option Value → sm_W → Prop} {x0 : Nat} {x1 : Nat} : sm_R X 21 15 [.ref x0, .ref x1, sm_J] [] w Q ↔ sm_R X 21 16 [.ref x0, .ref x1, sm_J] [.int 0] w Q := sm_R_go d21_15 rfl
theorem d21_16 : decode (sm_code 21) 16 = .ok (.istore_n 2, 1) := by decide +kernel
theorem r21_16 {X : sm_X} {w : sm_W} {Q : Option Value → sm_W → Prop} {x0 : Nat} {x1 : Nat} {s0 : Int32} : sm_R X 21 16 [.ref x0, .ref x1, sm_J] [.int s0] w Q ↔ sm_R X 21 17 [.ref x0, .ref x1, .int s0] [] w Q := sm_R_go d21_16 rfl
theorem d21_17 : decode (sm_code 21) 17 = .ok (.iload_n 2, 1) := by decide +kernel
theorem r21_17 {X : sm_X} {w : sm_W} {Q : Option Value → sm_W → Prop} {x0 : Nat} {x1 : Nat} {x2 : Int32} : sm_R X 21 17 [.ref x0, .ref x1, .int x2] [] w Q ↔ sm_R X 21 18 [.ref x0, .ref x1, .int x2] [.int x2] w Q := sm_R_go d21_17 rfl
theorem d21_18 : decode (sm_code 21) 18 = .ok (.iconst 4, 1) := by decide +kernel
theorem r21_18 {X : sm_X} {w : sm_W} {Q : Option Value → sm_W → Prop} {x0 : Nat} {x1 : Nat} {x2 : Int32} {s0 : Int32} : sm_R X 21 18 [.ref x0, .ref x1, .int x2] [.int s0] w Q ↔ sm_R X 21 19 [.ref x0, .ref x1, .int x2] [.int 4, .int s0] w Q := sm_R_go d21_18 rfl
theorem d21_19 : decode (sm_code 21) 19 = .ok (.if_icmp .ge 46, 3) := by decide +kernel
theorem r21_19 {X : sm_X} {w : sm_W} {Q : Option Value → sm_W → Prop} {x0 : Nat} {x1 : Nat} {x2 : Int32} {s0 : Int32} {s1 : Int32} : sm_R X 21 19 [.ref x0, .ref x1, .int x2] [.int s0, .int s1] w Q ↔ (if s0 ≤ s1 then sm_R X 21 65 [.ref x0, .ref x1, .int x2] [] w Q else sm_R X 21 22 [.ref x0, .ref x1, .int x2] [] w Q) := sm_q_br d21_19 rfl
theorem d21_22 : decode (sm_code 21) 22 = .ok (.aload_n 1, 1) := by decide +kernel
theorem r21_22 {X : sm_X} {w : sm_W} {Q : Option Value → sm_W → Prop} {x0 : Nat} {x1 : Nat} {x2 : Int32} : sm_R X 21 22 [.ref x0, .ref x1, .int x2] [] w Q ↔ sm_R X 21 23 [.ref x0, .ref x1, .int x2] [.ref x1] w Q := sm_R_go d21_22 rfl
theorem d21_23 : decode (sm_code 21) 23 = .ok (.getfield 17, 3) := by decide +kernel
theorem r21_23 {X : sm_X} {w : sm_W} {Q : Option Value → sm_W → Prop} {x0 : Nat} {x1 : Nat} {x2 : Int32} {s0 : Nat} : sm_R X 21 23 [.ref x0, .ref x1, .int x2] [.ref s0] w Q ↔ sm_wp (sm_fld 0 1 (sm_at w s0)) (fun v => sm_R X 21 26 [.ref x0, .ref x1, .int x2] [v] w Q) := sm_q_getf d21_23 rfl (by decide)
theorem d21_26 : decode (sm_code 21) 26 = .ok (.iload_n 2, 1) := by decide +kernel
theorem r21_26 {X : sm_X} {w : sm_W} {Q : Option Value → sm_W → Prop} {x0 : Nat} {x1 : Nat} {x2 : Int32} {s0 : Nat} : sm_R X 21 26 [.ref x0, .ref x1, .int x2] [.ref s0] w Q ↔ sm_R X 21 27 [.ref x0, .ref x1, .int x2] [.int x2, .ref s0] w Q := sm_R_go d21_26 rfl
theorem d21_27 : decode (sm_code 21) 27 = .ok (.aaload, 1) := by decide +kernel
theorem r21_27 {X : sm_X} {w : sm_W} {Q : Option Value → sm_W → Prop} {x0 : Nat} {x1 : Nat} {x2 : Int32} {s0 : Int32} {s1 : Nat} : sm_R X 21 27 [.ref x0, .ref x1, .int x2] [.int s0, .ref s1] w Q ↔ sm_wp (sm_aa s1 s0 (sm_get X w s1)) (fun v => sm_R X 21 28 [.ref x0, .ref x1, .int x2] [.ref v] w Q) := sm_q_aald d21_27
theorem d21_28 : decode (sm_code 21) 28 = .ok (.iconst 0, 1) := by decide +kernel
theorem r21_28 {X : sm_X} {w : sm_W} {Q : Option Value → sm_W → Prop} {x0 : Nat} {x1 : Nat} {x2 : Int32} {s0 : Nat} : sm_R X 21 28 [.ref x0, .ref x1, .int x2] [.ref s0] w Q ↔ sm_R X 21 29 [.ref x0, .ref x1, .int x2] [.int 0, .ref s0] w Q := sm_R_go d21_28 rfl
theorem d21_29 : decode (sm_code 21) 29 = .ok (.aload_n 0, 1) := by decide +kernel
theorem r21_29 {X : sm_X} {w : sm_W} {Q : Option Value → sm_W → Prop} {x0 : Nat} {x1 : Nat} {x2 : Int32} {s0 : Int32} {s1 : Nat} : sm_R X 21 29 [.ref x0, .ref x1, .int x2] [.int s0, .ref s1] w Q ↔ sm_R X 21 30 [.ref x0, .ref x1, .int x2] [.ref x0, .int s0, .ref s1] w Q := sm_R_go d21_29 rfl
theorem d21_30 : decode (sm_code 21) 30 = .ok (.getfield 17, 3) := by decide +kernel
theorem r21_30 {X : sm_X} {w : sm_W} {Q : Option Value → sm_W → Prop} {x0 : Nat} {x1 : Nat} {x2 : Int32} {s0 : Nat} {s1 : Int32} {s2 : Nat} : sm_R X 21 30 [.ref x0, .ref x1, .int x2] [.ref s0, .int s1, .ref s2] w Q ↔ sm_wp (sm_fld 0 1 (sm_at w s0)) (fun v => sm_R X 21 33 [.ref x0, .ref x1, .int x2] [v, .int s1, .ref s2] w Q) := sm_q_getf d21_30 rfl (by decide)
theorem d21_33 : decode (sm_code 21) 33 = .ok (.iload_n 2, 1) := by decide +kernel
theorem r21_33 {X : sm_X} {w : sm_W} {Q : Option Value → sm_W → Prop} {x0 : Nat} {x1 : Nat} {x2 : Int32} {s0 : Nat} {s1 : Int32} {s2 : Nat} : sm_R X 21 33 [.ref x0, .ref x1, .int x2] [.ref s0, .int s1, .ref s2] w Q ↔ sm_R X 21 34 [.ref x0, .ref x1, .int x2] [.int x2, .ref s0, .int s1, .ref s2] w Q := sm_R_go d21_33 rfl
theorem d21_34 : decode (sm_code 21) 34 = .ok (.aaload, 1) := by decide +kernel
theorem r21_34 {X : sm_X} {w : sm_W} {Q : Option Value → sm_W → Prop} {x0 : Nat} {x1 : Nat} {x2 : Int32} {s0 : Int32} {s1 : Nat} {s2 : Int32} {s3 : Nat} : sm_R X 21 34 [.ref x0, .ref x1, .int x2] [.int s0, .ref s1, .int s2, .ref s3] w Q ↔ sm_wp (sm_aa s1 s0 (sm_get X w s1)) (fun v => sm_R X 21 35 [.ref x0, .ref x1, .int x2] [.ref v, .int s2, .ref s3] w Q) := sm_q_aald d21_34
theorem d21_35 : decode (sm_code 21) 35 = .ok (.iconst 0, 1) := by decide +kernel
theorem r21_35 {X : sm_X} {w : sm_W} {Q : Option Value → sm_W → Prop} {x0 : Nat} {x1 : Nat} {x2 : Int32} {s0 : Nat} {s1 : Int32} {s2 : Nat} : sm_R X 21 35 [.ref x0, .ref x1, .int x2] [.ref s0, .int s1, .ref s2] w Q ↔ sm_R X 21 36 [.ref x0, .ref x1, .int x2] [.int 0, .ref s0, .int s1, .ref s2] w Q := sm_R_go d21_35 rfl
theorem d21_36 : decode (sm_code 21) 36 = .ok (.iconst 4, 1) := by decide +kernel
theorem r21_36 {X : sm_X} {w : sm_W} {Q : Option Value → sm_W → Prop} {x0 : Nat} {x1 : Nat} {x2 : Int32} {s0 : Int32} {s1 : Nat} {s2 : Int32} {s3 : Nat} : sm_R X 21 36 [.ref x0, .ref x1, .int x2] [.int s0, .ref s1, .int s2, .ref s3] w Q ↔ sm_R X 21 37 [.ref x0, .ref x1, .int x2] [.int 4, .int s0, .ref s1, .int s2, .ref s3] w Q := sm_R_go d21_36 rfl
theorem d21_37 : decode (sm_code 21) 37 = .ok (.invokestatic 29, 3) := by decide +kernel
theorem r21_37 {X : sm_X} {w : sm_W} {Q : Option Value → sm_W → Prop} {x0 : Nat} {x1 : Nat} {x2 : Int32} {s0 : Int32} {s1 : Int32} {s2 : Nat} {s3 : Int32} {s4 : Nat} (h : ¬ (s4 < 100 ∨ s2 < 100)) : sm_R X 21 37 [.ref x0, .ref x1, .int x2] [.int s0, .int s1, .ref s2, .int s3, .ref s4] w Q ↔ sm_wp (sm_cpi s3 s1 s0 (sm_at w s4) (sm_at w s2)) (fun c => sm_R X 21 40 [.ref x0, .ref x1, .int x2] [] (w.set (s2 - 100) c) Q) := sm_q_cpy d21_37 rfl (by decide) (by decide) h
theorem d21_40 : decode (sm_code 21) 40 = .ok (.aload_n 1, 1) := by decide +kernel
theorem r21_40 {X : sm_X} {w : sm_W} {Q : Option Value → sm_W → Prop} {x0 : Nat} {x1 : Nat} {x2 : Int32} : sm_R X 21 40 [.ref x0, .ref x1, .int x2] [] w Q ↔ sm_R X 21 41 [.ref x0, .ref x1, .int x2] [.ref x1] w Q := sm_R_go d21_40 rfl
theorem d21_41 : decode (sm_code 21) 41 = .ok (.getfield 20, 3) := by decide +kernel
theorem r21_41 {X : sm_X} {w : sm_W} {Q : Option Value → sm_W → Prop} {x0 : Nat} {x1 : Nat} {x2 : Int32} {s0 : Nat} : sm_R X 21 41 [.ref x0, .ref x1, .int x2] [.ref s0] w Q ↔ sm_wp (sm_fld 0 2 (sm_at w s0)) (fun v => sm_R X 21 44 [.ref x0, .ref x1, .int x2] [v] w Q) := sm_q_getf d21_41 rfl (by decide)
theorem d21_44 : decode (sm_code 21) 44 = .ok (.iload_n 2, 1) := by decide +kernel
theorem r21_44 {X : sm_X} {w : sm_W} {Q : Option Value → sm_W → Prop} {x0 : Nat} {x1 : Nat} {x2 : Int32} {s0 : Nat} : sm_R X 21 44 [.ref x0, .ref x1, .int x2] [.ref s0] w Q ↔ sm_R X 21 45 [.ref x0, .ref x1, .int x2] [.int x2, .ref s0] w Q := sm_R_go d21_44 rfl
theorem d21_45 : decode (sm_code 21) 45 = .ok (.aaload, 1) := by decide +kernel
theorem r21_45 {X : sm_X} {w : sm_W} {Q : Option Value → sm_W → Prop} {x0 : Nat} {x1 : Nat} {x2 : Int32} {s0 : Int32} {s1 : Nat} : sm_R X 21 45 [.ref x0, .ref x1, .int x2] [.int s0, .ref s1] w Q ↔ sm_wp (sm_aa s1 s0 (sm_get X w s1)) (fun v => sm_R X 21 46 [.ref x0, .ref x1, .int x2] [.ref v] w Q) := sm_q_aald d21_45
theorem d21_46 : decode (sm_code 21) 46 = .ok (.iconst 0, 1) := by decide +kernel
theorem r21_46 {X : sm_X} {w : sm_W} {Q : Option Value → sm_W → Prop} {x0 : Nat} {x1 : Nat} {x2 : Int32} {s0 : Nat} : sm_R X 21 46 [.ref x0, .ref x1, .int x2] [.ref s0] w Q ↔ sm_R X 21 47 [.ref x0, .ref x1, .int x2] [.int 0, .ref s0] w Q := sm_R_go d21_46 rfl
theorem d21_47 : decode (sm_code 21) 47 = .ok (.aload_n 0, 1) := by decide +kernel
theorem r21_47 {X : sm_X} {w : sm_W} {Q : Option Value → sm_W → Prop} {x0 : Nat} {x1 : Nat} {x2 : Int32} {s0 : Int32} {s1 : Nat} : sm_R X 21 47 [.ref x0, .ref x1, .int x2] [.int s0, .ref s1] w Q ↔ sm_R X 21 48 [.ref x0, .ref x1, .int x2] [.ref x0, .int s0, .ref s1] w Q := sm_R_go d21_47 rfl
theorem d21_48 : decode (sm_code 21) 48 = .ok (.getfield 20, 3) := by decide +kernel
theorem r21_48 {X : sm_X} {w : sm_W} {Q : Option Value → sm_W → Prop} {x0 : Nat} {x1 : Nat} {x2 : Int32} {s0 : Nat} {s1 : Int32} {s2 : Nat} : sm_R X 21 48 [.ref x0, .ref x1, .int x2] [.ref s0, .int s1, .ref s2] w Q ↔ sm_wp (sm_fld 0 2 (sm_at w s0)) (fun v => sm_R X 21 51 [.ref x0, .ref x1, .int x2] [v, .int s1, .ref s2] w Q) := sm_q_getf d21_48 rfl (by decide)
theorem d21_51 : decode (sm_code 21) 51 = .ok (.iload_n 2, 1) := by decide +kernel
theorem r21_51 {X : sm_X} {w : sm_W} {Q : Option Value → sm_W → Prop} {x0 : Nat} {x1 : Nat} {x2 : Int32} {s0 : Nat} {s1 : Int32} {s2 : Nat} : sm_R X 21 51 [.ref x0, .ref x1, .int x2] [.ref s0, .int s1, .ref s2] w Q ↔ sm_R X 21 52 [.ref x0, .ref x1, .int x2] [.int x2, .ref s0, .int s1, .ref s2] w Q := sm_R_go d21_51 rfl
theorem d21_52 : decode (sm_code 21) 52 = .ok (.aaload, 1) := by decide +kernel
theorem r21_52 {X : sm_X} {w : sm_W} {Q : Option Value → sm_W → Prop} {x0 : Nat} {x1 : Nat} {x2 : Int32} {s0 : Int32} {s1 : Nat} {s2 : Int32} {s3 : Nat} : sm_R X 21 52 [.ref x0, .ref x1, .int x2] [.int s0, .ref s1, .int s2, .ref s3] w Q ↔ sm_wp (sm_aa s1 s0 (sm_get X w s1)) (fun v => sm_R X 21 53 [.ref x0, .ref x1, .int x2] [.ref v, .int s2, .ref s3] w Q) := sm_q_aald d21_52
theorem d21_53 : decode (sm_code 21) 53 = .ok (.iconst 0, 1) := by decide +kernel
theorem r21_53 {X : sm_X} {w : sm_W} {Q : Option Value → sm_W → Prop} {x0 : Nat} {x1 : Nat} {x2 : Int32} {s0 : Nat} {s1 : Int32} {s2 : Nat} : sm_R X 21 53 [.ref x0, .ref x1, .int x2] [.ref s0, .int s1, .ref s2] w Q ↔ sm_R X 21 54 [.ref x0, .ref x1, .int x2] [.int 0, .ref s0, .int s1, .ref s2] w Q := sm_R_go d21_53 rfl
theorem d21_54 : decode (sm_code 21) 54 = .ok (.bipush 12, 2) := by decide +kernel
theorem r21_54 {X : sm_X} {w : sm_W} {Q : Option Value → sm_W → Prop} {x0 : Nat} {x1 : Nat} {x2 : Int32} {s0 : Int32} {s1 : Nat} {s2 : Int32} {s3 : Nat} : sm_R X 21 54 [.ref x0, .ref x1, .int x2] [.int s0, .ref s1, .int s2, .ref s3] w Q ↔ sm_R X 21 56 [.ref x0, .ref x1, .int x2] [.int 12, .int s0, .ref s1, .int s2, .ref s3] w Q := sm_R_go d21_54 rfl
theorem d21_56 : decode (sm_code 21) 56 = .ok (.invokestatic 29, 3) := by decide +kernel
theorem r21_56 {X : sm_X} {w : sm_W} {Q : Option Value → sm_W → Prop} {x0 : Nat} {x1 : Nat} {x2 : Int32} {s0 : Int32} {s1 : Int32} {s2 : Nat} {s3 : Int32} {s4 : Nat} (h : ¬ (s4 < 100 ∨ s2 < 100)) : sm_R X 21 56 [.ref x0, .ref x1, .int x2] [.int s0, .int s1, .ref s2, .int s3, .ref s4] w Q ↔ sm_wp (sm_cpi s3 s1 s0 (sm_at w s4) (sm_at w s2)) (fun c => sm_R X 21 59 [.ref x0, .ref x1, .int x2] [] (w.set (s2 - 100) c) Q) := sm_q_cpy d21_56 rfl (by decide) (by decide) h
theorem d21_59 : decode (sm_code 21) 59 = .ok (.iinc 2 1, 3) := by decide +kernel
theorem r21_59 {X : sm_X} {w : sm_W} {Q : Option Value → sm_W → Prop} {x0 : Nat} {x1 : Nat} {x2 : Int32} : sm_R X 21 59 [.ref x0, .ref x1, .int x2] [] w Q ↔ sm_R X 21 62 [.ref x0, .ref x1, .int (x2 + 1)] [] w Q := sm_R_go d21_59 rfl
theorem d21_62 : decode (sm_code 21) 62 = .ok (.goto (-45), 3) := by decide +kernel
theorem r21_62 {X : sm_X} {w : sm_W} {Q : Option Value → sm_W → Prop} {x0 : Nat} {x1 : Nat} {x2 : Int32} : sm_R X 21 62 [.ref x0, .ref x1, .int x2] [] w Q ↔ sm_R X 21 17 [.ref x0, .ref x1, .int x2] [] w Q := sm_R_go d21_62 rfl
theorem d21_65 : decode (sm_code 21) 65 = .ok (.aload_n 1, 1) := by decide +kernel
theorem r21_65 {X : sm_X} {w : sm_W} {Q : Option Value → sm_W → Prop} {x0 : Nat} {x1 : Nat} {x2 : Int32} : sm_R X 21 65 [.ref x0, .ref x1, .int x2] [] w Q ↔ sm_R X 21 66 [.ref x0, .ref x1, .int x2] [.ref x1] w Q := sm_R_go d21_65 rfl
theorem d21_66 : decode (sm_code 21) 66 = .ok (.getfield 23, 3) := by decide +kernel
theorem r21_66 {X : sm_X} {w : sm_W} {Q : Option Value → sm_W → Prop} {x0 : Nat} {x1 : Nat} {x2 : Int32} {s0 : Nat} : sm_R X 21 66 [.ref x0, .ref x1, .int x2] [.ref s0] w Q ↔ sm_wp (sm_fld 0 3 (sm_at w s0)) (fun v => sm_R X 21 69 [.ref x0, .ref x1, .int x2] [v] w Q) := sm_q_getf d21_66 rfl (by decide)
theorem d21_69 : decode (sm_code 21) 69 = .ok (.iconst 0, 1) := by decide +kernel
theorem r21_69 {X : sm_X} {w : sm_W} {Q : Option Value → sm_W → Prop} {x0 : Nat} {x1 : Nat} {x2 : Int32} {s0 : Nat} : sm_R X 21 69 [.ref x0, .ref x1, .int x2] [.ref s0] w Q ↔ sm_R X 21 70 [.ref x0, .ref x1, .int x2] [.int 0, .ref s0] w Q := sm_R_go d21_69 rfl
theorem d21_70 : decode (sm_code 21) 70 = .ok (.aload_n 0, 1) := by decide +kernel
theorem r21_70 {X : sm_X} {w : sm_W} {Q : Option Value → sm_W → Prop} {x0 : Nat} {x1 : Nat} {x2 : Int32} {s0 : Int32} {s1 : Nat} : sm_R X 21 70 [.ref x0, .ref x1, .int x2] [.int s0, .ref s1] w Q ↔ sm_R X 21 71 [.ref x0, .ref x1, .int x2] [.ref x0, .int s0, .ref s1] w Q := sm_R_go d21_70 rfl
theorem d21_71 : decode (sm_code 21) 71 = .ok (.getfield 23, 3) := by decide +kernel
theorem r21_71 {X : sm_X} {w : sm_W} {Q : Option Value → sm_W → Prop} {x0 : Nat} {x1 : Nat} {x2 : Int32} {s0 : Nat} {s1 : Int32} {s2 : Nat} : sm_R X 21 71 [.ref x0, .ref x1, .int x2] [.ref s0, .int s1, .ref s2] w Q ↔ sm_wp (sm_fld 0 3 (sm_at w s0)) (fun v => sm_R X 21 74 [.ref x0, .ref x1, .int x2] [v, .int s1, .ref s2] w Q) := sm_q_getf d21_71 rfl (by decide)
theorem d21_74 : decode (sm_code 21) 74 = .ok (.iconst 0, 1) := by decide +kernel
theorem r21_74 {X : sm_X} {w : sm_W} {Q : Option Value → sm_W → Prop} {x0 : Nat} {x1 : Nat} {x2 : Int32} {s0 : Nat} {s1 : Int32} {s2 : Nat} : sm_R X 21 74 [.ref x0, .ref x1, .int x2] [.ref s0, .int s1, .ref s2] w Q ↔ sm_R X 21 75 [.ref x0, .ref x1, .int x2] [.int 0, .ref s0, .int s1, .ref s2] w Q := sm_R_go d21_74 rfl
theorem d21_75 : decode (sm_code 21) 75 = .ok (.bipush 6, 2) := by decide +kernel
theorem r21_75 {X : sm_X} {w : sm_W} {Q : Option Value → sm_W → Prop} {x0 : Nat} {x1 : Nat} {x2 : Int32} {s0 : Int32} {s1 : Nat} {s2 : Int32} {s3 : Nat} : sm_R X 21 75 [.ref x0, .ref x1, .int x2] [.int s0, .ref s1, .int s2, .ref s3] w Q ↔ sm_R X 21 77 [.ref x0, .ref x1, .int x2] [.int 6, .int s0, .ref s1, .int s2, .ref s3] w Q := sm_R_go d21_75 rfl
theorem d21_77 : decode (sm_code 21) 77 = .ok (.invokestatic 29, 3) := by decide +kernel
theorem r21_77 {X : sm_X} {w : sm_W} {Q : Option Value → sm_W → Prop} {x0 : Nat} {x1 : Nat} {x2 : Int32} {s0 : Int32} {s1 : Int32} {s2 : Nat} {s3 : Int32} {s4 : Nat} (h : ¬ (s4 < 100 ∨ s2 < 100)) : sm_R X 21 77 [.ref x0, .ref x1, .int x2] [.int s0, .int s1, .ref s2, .int s3, .ref s4] w Q ↔ sm_wp (sm_cpi s3 s1 s0 (sm_at w s4) (sm_at w s2)) (fun c => sm_R X 21 80 [.ref x0, .ref x1, .int x2] [] (w.set (s2 - 100) c) Q) := sm_q_cpy d21_77 rfl (by decide) (by decide) h
theorem d21_80 : decode (sm_code 21) 80 = .ok (.aload_n 1, 1) := by decide +kernel
theorem r21_80 {X : sm_X} {w : sm_W} {Q : Option Value → sm_W → Prop} {x0 : Nat} {x1 : Nat} {x2 : Int32} : sm_R X 21 80 [.ref x0, .ref x1, .int x2] [] w Q ↔ sm_R X 21 81 [.ref x0, .ref x1, .int x2] [.ref x1] w Q := sm_R_go d21_80 rfl
theorem d21_81 : decode (sm_code 21) 81 = .ok (.getfield 26, 3) := by decide +kernel
theorem r21_81 {X : sm_X} {w : sm_W} {Q : Option Value → sm_W → Prop} {x0 : Nat} {x1 : Nat} {x2 : Int32} {s0 : Nat} : sm_R X 21 81 [.ref x0, .ref x1, .int x2] [.ref s0] w Q ↔ sm_wp (sm_fld 0 4 (sm_at w s0)) (fun v => sm_R X 21 84 [.ref x0, .ref x1, .int x2] [v] w Q) := sm_q_getf d21_81 rfl (by decide)
theorem d21_84 : decode (sm_code 21) 84 = .ok (.iconst 0, 1) := by decide +kernel
theorem r21_84 {X : sm_X} {w : sm_W} {Q : Option Value → sm_W → Prop} {x0 : Nat} {x1 : Nat} {x2 : Int32} {s0 : Nat} : sm_R X 21 84 [.ref x0, .ref x1, .int x2] [.ref s0] w Q ↔ sm_R X 21 85 [.ref x0, .ref x1, .int x2] [.int 0, .ref s0] w Q := sm_R_go d21_84 rfl
theorem d21_85 : decode (sm_code 21) 85 = .ok (.aload_n 0, 1) := by decide +kernel
theorem r21_85 {X : sm_X} {w : sm_W} {Q : Option Value → sm_W → Prop} {x0 : Nat} {x1 : Nat} {x2 : Int32} {s0 : Int32} {s1 : Nat} : sm_R X 21 85 [.ref x0, .ref x1, .int x2] [.int s0, .ref s1] w Q ↔ sm_R X 21 86 [.ref x0, .ref x1, .int x2] [.ref x0, .int s0, .ref s1] w Q := sm_R_go d21_85 rfl
theorem d21_86 : decode (sm_code 21) 86 = .ok (.getfield 26, 3) := by decide +kernel
theorem r21_86 {X : sm_X} {w : sm_W} {Q : Option Value → sm_W → Prop} {x0 : Nat} {x1 : Nat} {x2 : Int32} {s0 : Nat} {s1 : Int32} {s2 : Nat} : sm_R X 21 86 [.ref x0, .ref x1, .int x2] [.ref s0, .int s1, .ref s2] w Q ↔ sm_wp (sm_fld 0 4 (sm_at w s0)) (fun v => sm_R X 21 89 [.ref x0, .ref x1, .int x2] [v, .int s1, .ref s2] w Q) := sm_q_getf d21_86 rfl (by decide)
theorem d21_89 : decode (sm_code 21) 89 = .ok (.iconst 0, 1) := by decide +kernel
theorem r21_89 {X : sm_X} {w : sm_W} {Q : Option Value → sm_W → Prop} {x0 : Nat} {x1 : Nat} {x2 : Int32} {s0 : Nat} {s1 : Int32} {s2 : Nat} : sm_R X 21 89 [.ref x0, .ref x1, .int x2] [.ref s0, .int s1, .ref s2] w Q ↔ sm_R X 21 90 [.ref x0, .ref x1, .int x2] [.int 0, .ref s0, .int s1, .ref s2] w Q := sm_R_go d21_89 rfl
theorem d21_90 : decode (sm_code 21) 90 = .ok (.bipush 8, 2) := by decide +kernel
theorem r21_90 {X : sm_X} {w : sm_W} {Q : Option Value → sm_W → Prop} {x0 : Nat} {x1 : Nat} {x2 : Int32} {s0 : Int32} {s1 : Nat} {s2 : Int32} {s3 : Nat} : sm_R X 21 90 [.ref x0, .ref x1, .int x2] [.int s0, .ref s1, .int s2, .ref s3] w Q ↔ sm_R X 21 92 [.ref x0, .ref x1, .int x2] [.int 8, .int s0, .ref s1, .int s2, .ref s3] w Q := sm_R_go d21_90 rfl
theorem d21_92 : decode (sm_code 21) 92 = .ok (.invokestatic 29, 3) := by decide +kernel
theorem r21_92 {X : sm_X} {w : sm_W} {Q : Option Value → sm_W → Prop} {x0 : Nat} {x1 : Nat} {x2 : Int32} {s0 : Int32} {s1 : Int32} {s2 : Nat} {s3 : Int32} {s4 : Nat} (h : ¬ (s4 < 100 ∨ s2 < 100)) : sm_R X 21 92 [.ref x0, .ref x1, .int x2] [.int s0, .int s1, .ref s2, .int s3, .ref s4] w Q ↔ sm_wp (sm_cpi s3 s1 s0 (sm_at w s4) (sm_at w s2)) (fun c => sm_R X 21 95 [.ref x0, .ref x1, .int x2] [] (w.set (s2 - 100) c) Q) := sm_q_cpy d21_92 rfl (by decide) (by decide) h
theorem d21_95 : decode (sm_code 21) 95 = .ok (.aload_n 0, 1) := by decide +kernel
theorem r21_95 {X : sm_X} {w : sm_W} {Q : Option Value → sm_W → Prop} {x0 : Nat} {x1 : Nat} {x2 : Int32} : sm_R X 21 95 [.ref x0, .ref x1, .int x2] [] w Q ↔ sm_R X 21 96 [.ref x0, .ref x1, .int x2] [.ref x0] w Q := sm_R_go d21_95 rfl
theorem d21_96 : decode (sm_code 21) 96 = .ok (.aload_n 1, 1) := by decide +kernel
theorem r21_96 {X : sm_X} {w : sm_W} {Q : Option Value → sm_W → Prop} {x0 : Nat} {x1 : Nat} {x2 : Int32} {s0 : Nat} : sm_R X 21 96 [.ref x0, .ref x1, .int x2] [.ref s0] w Q ↔ sm_R X 21 97 [.ref x0, .ref x1, .int x2] [.ref x1, .ref s0] w Q := sm_R_go d21_96 rfl
theorem d21_97 : decode (sm_code 21) 97 = .ok (.getfield 35, 3) := by decide +kernel
theorem r21_97 {X : sm_X} {w : sm_W} {Q : Option Value → sm_W → Prop} {x0 : Nat} {x1 : Nat} {x2 : Int32} {s0 : Nat} {s1 : Nat} : sm_R X 21 97 [.ref x0, .ref x1, .int x2] [.ref s0, .ref s1] w Q ↔ sm_wp (sm_fld 0 5 (sm_at w s0)) (fun v => sm_R X 21 100 [.ref x0, .ref x1, .int x2] [v, .ref s1] w Q) := sm_q_getf d21_97 rfl (by decide)
theorem d21_100 : decode (sm_code 21) 100 = .ok (.putfield 35, 3) := by decide +kernel
theorem r21_100 {X : sm_X} {w : sm_W} {Q : Option Value → sm_W → Prop} {x0 : Nat} {x1 : Nat} {x2 : Int32} {s0 : Int32} {s1 : Nat} : sm_R X 21 100 [.ref x0, .ref x1, .int x2] [.int s0, .ref s1] w Q ↔ sm_wp (sm_pfl 0 5 (.int s0) (sm_at w s1)) (fun c => sm_R X 21 103 [.ref x0, .ref x1, .int x2] [] (w.set (s1 - 100) c) Q) := sm_q_putf d21_100 rfl rfl rfl (by decide)
theorem d21_103 : decode (sm_code 21) 103 = .ok (.return_, 1) := by decide +kernel
theorem r21_103 {X : sm_X} {w : sm_W} {Q : Option Value → sm_W → Prop} {x0 : Nat} {x1 : Nat} {x2 : Int32} : sm_R X 21 103 [.ref x0, .ref x1, .int x2] [] w Q ↔ Q none w := sm_R_ret d21_103 rfl
-- GroupLedger$Machine.prepare()V
theorem d22_0 : decode (sm_code 22) 0 = .ok (.aload_n 0, 1) := by decide +kernel
theorem r22_0 {X : sm_X} {w : sm_W} {Q : Option Value → sm_W → Prop} {x0 : Nat} : sm_R X 22 0 [.ref x0] [] w Q ↔ sm_R X 22 1 [.ref x0] [.ref x0] w Q := sm_R_go d22_0 rfl
theorem d22_1 : decode (sm_code 22) 1 = .ok (.bipush 20, 2) := by decide +kernel
theorem r22_1 {X : sm_X} {w : sm_W} {Q : Option Value → sm_W → Prop} {x0 : Nat} {s0 : Nat} : sm_R X 22 1 [.ref x0] [.ref s0] w Q ↔ sm_R X 22 3 [.ref x0] [.int 20, .ref s0] w Q := sm_R_go d22_1 rfl
theorem d22_3 : decode (sm_code 22) 3 = .ok (.aload_n 0, 1) := by decide +kernel
theorem r22_3 {X : sm_X} {w : sm_W} {Q : Option Value → sm_W → Prop} {x0 : Nat} {s0 : Int32} {s1 : Nat} : sm_R X 22 3 [.ref x0] [.int s0, .ref s1] w Q ↔ sm_R X 22 4 [.ref x0] [.ref x0, .int s0, .ref s1] w Q := sm_R_go d22_3 rfl
theorem d22_4 : decode (sm_code 22) 4 = .ok (.getfield 26, 3) := by decide +kernel
theorem r22_4 {X : sm_X} {w : sm_W} {Q : Option Value → sm_W → Prop} {x0 : Nat} {s0 : Nat} {s1 : Int32} {s2 : Nat} : sm_R X 22 4 [.ref x0] [.ref s0, .int s1, .ref s2] w Q ↔ sm_wp (sm_fld 2 1 (sm_at w s0)) (fun v => sm_R X 22 7 [.ref x0] [v, .int s1, .ref s2] w Q) := sm_q_getf d22_4 rfl (by decide)
theorem d22_7 : decode (sm_code 22) 7 = .ok (.invokevirtual 40, 3) := by decide +kernel
theorem r22_7 {X : sm_X} {w : sm_W} {Q : Option Value → sm_W → Prop} {x0 : Nat} {s0 : Nat} {s1 : Int32} {s2 : Nat} : sm_R X 22 7 [.ref x0] [.ref s0, .int s1, .ref s2] w Q ↔ (sm_cN (sm_at w s0) = some 1 ∧ sm_R X 23 0 [.ref s0, sm_J, sm_J] [] w (fun v w => sm_R X 22 10 [.ref x0] (v.toList ++ [.int s1, .ref s2]) w Q)) := sm_q_vir (k := 23) (as := [.ref s0]) (rest := [.int s1, .ref s2]) d22_7 rfl rfl rfl rfl rfl
theorem d22_10 : decode (sm_code 22) 10 = .ok (.imul, 1) := by decide +kernel
theorem r22_10 {X : sm_X} {w : sm_W} {Q : Option Value → sm_W → Prop} {x0 : Nat} {s0 : Int32} {s1 : Int32} {s2 : Nat} : sm_R X 22 10 [.ref x0] [.int s0, .int s1, .ref s2] w Q ↔ sm_R X 22 11 [.ref x0] [.int (s1 * s0), .ref s2] w Q := sm_R_go d22_10 rfl
theorem d22_11 : decode (sm_code 22) 11 = .ok (.putfield 44, 3) := by decide +kernel
theorem r22_11 {X : sm_X} {w : sm_W} {Q : Option Value → sm_W → Prop} {x0 : Nat} {s0 : Int32} {s1 : Nat} : sm_R X 22 11 [.ref x0] [.int s0, .ref s1] w Q ↔ sm_wp (sm_pfl 2 3 (.int s0) (sm_at w s1)) (fun c => sm_R X 22 14 [.ref x0] [] (w.set (s1 - 100) c) Q) := sm_q_putf d22_11 rfl rfl rfl (by decide)
theorem d22_14 : decode (sm_code 22) 14 = .ok (.aload_n 0, 1) := by decide +kernel
theorem r22_14 {X : sm_X} {w : sm_W} {Q : Option Value → sm_W → Prop} {x0 : Nat} : sm_R X 22 14 [.ref x0] [] w Q ↔ sm_R X 22 15 [.ref x0] [.ref x0] w Q := sm_R_go d22_14 rfl
theorem d22_15 : decode (sm_code 22) 15 = .ok (.iconst 0, 1) := by decide +kernel
theorem r22_15 {X : sm_X} {w : sm_W} {Q : Option Value → sm_W → Prop} {x0 : Nat} {s0 : Nat} : sm_R X 22 15 [.ref x0] [.ref s0] w Q ↔ sm_R X 22 16 [.ref x0] [.int 0, .ref s0] w Q := sm_R_go d22_15 rfl
theorem d22_16 : decode (sm_code 22) 16 = .ok (.putfield 47, 3) := by decide +kernel
theorem r22_16 {X : sm_X} {w : sm_W} {Q : Option Value → sm_W → Prop} {x0 : Nat} {s0 : Int32} {s1 : Nat} : sm_R X 22 16 [.ref x0] [.int s0, .ref s1] w Q ↔ sm_wp (sm_pfl 2 4 (.int s0) (sm_at w s1)) (fun c => sm_R X 22 19 [.ref x0] [] (w.set (s1 - 100) c) Q) := sm_q_putf d22_16 rfl rfl rfl (by decide)
theorem d22_19 : decode (sm_code 22) 19 = .ok (.aload_n 0, 1) := by decide +kernel
theorem r22_19 {X : sm_X} {w : sm_W} {Q : Option Value → sm_W → Prop} {x0 : Nat} : sm_R X 22 19 [.ref x0] [] w Q ↔ sm_R X 22 20 [.ref x0] [.ref x0] w Q := sm_R_go d22_19 rfl
theorem d22_20 : decode (sm_code 22) 20 = .ok (.iconst 0, 1) := by decide +kernel
theorem r22_20 {X : sm_X} {w : sm_W} {Q : Option Value → sm_W → Prop} {x0 : Nat} {s0 : Nat} : sm_R X 22 20 [.ref x0] [.ref s0] w Q ↔ sm_R X 22 21 [.ref x0] [.int 0, .ref s0] w Q := sm_R_go d22_20 rfl
theorem d22_21 : decode (sm_code 22) 21 = .ok (.putfield 50, 3) := by decide +kernel
theorem r22_21 {X : sm_X} {w : sm_W} {Q : Option Value → sm_W → Prop} {x0 : Nat} {s0 : Int32} {s1 : Nat} : sm_R X 22 21 [.ref x0] [.int s0, .ref s1] w Q ↔ sm_wp (sm_pfl 2 5 (.int s0) (sm_at w s1)) (fun c => sm_R X 22 24 [.ref x0] [] (w.set (s1 - 100) c) Q) := sm_q_putf d22_21 rfl rfl rfl (by decide)
theorem d22_24 : decode (sm_code 22) 24 = .ok (.aload_n 0, 1) := by decide +kernel
theorem r22_24 {X : sm_X} {w : sm_W} {Q : Option Value → sm_W → Prop} {x0 : Nat} : sm_R X 22 24 [.ref x0] [] w Q ↔ sm_R X 22 25 [.ref x0] [.ref x0] w Q := sm_R_go d22_24 rfl
theorem d22_25 : decode (sm_code 22) 25 = .ok (.bipush (-3), 2) := by decide +kernel
theorem r22_25 {X : sm_X} {w : sm_W} {Q : Option Value → sm_W → Prop} {x0 : Nat} {s0 : Nat} : sm_R X 22 25 [.ref x0] [.ref s0] w Q ↔ sm_R X 22 27 [.ref x0] [.int (-3), .ref s0] w Q := sm_R_go d22_25 rfl
theorem d22_27 : decode (sm_code 22) 27 = .ok (.putfield 18, 3) := by decide +kernel
theorem r22_27 {X : sm_X} {w : sm_W} {Q : Option Value → sm_W → Prop} {x0 : Nat} {s0 : Int32} {s1 : Nat} : sm_R X 22 27 [.ref x0] [.int s0, .ref s1] w Q ↔ sm_wp (sm_pfl 2 6 (.int s0) (sm_at w s1)) (fun c => sm_R X 22 30 [.ref x0] [] (w.set (s1 - 100) c) Q) := sm_q_putf d22_27 rfl rfl rfl (by decide)
theorem d22_30 : decode (sm_code 22) 30 = .ok (.return_, 1) := by decide +kernel
theorem r22_30 {X : sm_X} {w : sm_W} {Q : Option Value → sm_W → Prop} {x0 : Nat} : sm_R X 22 30 [.ref x0] [] w Q ↔ Q none w := sm_R_ret d22_30 rfl
-- GroupLedger$Group.calls()I
theorem d23_0 : decode (sm_code 23) 0 = .ok (.iconst 0, 1) := by decide +kernel
theorem r23_0 {X : sm_X} {w : sm_W} {Q : Option Value → sm_W → Prop} {x0 : Nat} : sm_R X 23 0 [.ref x0, sm_J, sm_J] [] w Q ↔ sm_R X 23 1 [.ref x0, sm_J, sm_J] [.int 0] w Q := sm_R_go d23_0 rfl
theorem d23_1 : decode (sm_code 23) 1 = .ok (.istore_n 1, 1) := by decide +kernel
theorem r23_1 {X : sm_X} {w : sm_W} {Q : Option Value → sm_W → Prop} {x0 : Nat} {s0 : Int32} : sm_R X 23 1 [.ref x0, sm_J, sm_J] [.int s0] w Q ↔ sm_R X 23 2 [.ref x0, .int s0, sm_J] [] w Q := sm_R_go d23_1 rfl
theorem d23_2 : decode (sm_code 23) 2 = .ok (.iconst 0, 1) := by decide +kernel
theorem r23_2 {X : sm_X} {w : sm_W} {Q : Option Value → sm_W → Prop} {x0 : Nat} {x1 : Int32} : sm_R X 23 2 [.ref x0, .int x1, sm_J] [] w Q ↔ sm_R X 23 3 [.ref x0, .int x1, sm_J] [.int 0] w Q := sm_R_go d23_2 rfl
theorem d23_3 : decode (sm_code 23) 3 = .ok (.istore_n 2, 1) := by decide +kernel
theorem r23_3 {X : sm_X} {w : sm_W} {Q : Option Value → sm_W → Prop} {x0 : Nat} {x1 : Int32} {s0 : Int32} : sm_R X 23 3 [.ref x0, .int x1, sm_J] [.int s0] w Q ↔ sm_R X 23 4 [.ref x0, .int x1, .int s0] [] w Q := sm_R_go d23_3 rfl
theorem d23_4 : decode (sm_code 23) 4 = .ok (.iload_n 2, 1) := by decide +kernel
theorem r23_4 {X : sm_X} {w : sm_W} {Q : Option Value → sm_W → Prop} {x0 : Nat} {x1 : Int32} {x2 : Int32} : sm_R X 23 4 [.ref x0, .int x1, .int x2] [] w Q ↔ sm_R X 23 5 [.ref x0, .int x1, .int x2] [.int x2] w Q := sm_R_go d23_4 rfl
theorem d23_5 : decode (sm_code 23) 5 = .ok (.aload_n 0, 1) := by decide +kernel
theorem r23_5 {X : sm_X} {w : sm_W} {Q : Option Value → sm_W → Prop} {x0 : Nat} {x1 : Int32} {x2 : Int32} {s0 : Int32} : sm_R X 23 5 [.ref x0, .int x1, .int x2] [.int s0] w Q ↔ sm_R X 23 6 [.ref x0, .int x1, .int x2] [.ref x0, .int s0] w Q := sm_R_go d23_5 rfl
theorem d23_6 : decode (sm_code 23) 6 = .ok (.getfield 18, 3) := by decide +kernel
theorem r23_6 {X : sm_X} {w : sm_W} {Q : Option Value → sm_W → Prop} {x0 : Nat} {x1 : Int32} {x2 : Int32} {s0 : Nat} {s1 : Int32} : sm_R X 23 6 [.ref x0, .int x1, .int x2] [.ref s0, .int s1] w Q ↔ sm_wp (sm_fld 1 1 (sm_at w s0)) (fun v => sm_R X 23 9 [.ref x0, .int x1, .int x2] [v, .int s1] w Q) := sm_q_getf d23_6 rfl (by decide)
theorem d23_9 : decode (sm_code 23) 9 = .ok (.if_icmp .ge 24, 3) := by decide +kernel
theorem r23_9 {X : sm_X} {w : sm_W} {Q : Option Value → sm_W → Prop} {x0 : Nat} {x1 : Int32} {x2 : Int32} {s0 : Int32} {s1 : Int32} : sm_R X 23 9 [.ref x0, .int x1, .int x2] [.int s0, .int s1] w Q ↔ (if s0 ≤ s1 then sm_R X 23 33 [.ref x0, .int x1, .int x2] [] w Q else sm_R X 23 12 [.ref x0, .int x1, .int x2] [] w Q) := sm_q_br d23_9 rfl
theorem d23_12 : decode (sm_code 23) 12 = .ok (.aload_n 0, 1) := by decide +kernel
theorem r23_12 {X : sm_X} {w : sm_W} {Q : Option Value → sm_W → Prop} {x0 : Nat} {x1 : Int32} {x2 : Int32} : sm_R X 23 12 [.ref x0, .int x1, .int x2] [] w Q ↔ sm_R X 23 13 [.ref x0, .int x1, .int x2] [.ref x0] w Q := sm_R_go d23_12 rfl
theorem d23_13 : decode (sm_code 23) 13 = .ok (.getfield 11, 3) := by decide +kernel
theorem r23_13 {X : sm_X} {w : sm_W} {Q : Option Value → sm_W → Prop} {x0 : Nat} {x1 : Int32} {x2 : Int32} {s0 : Nat} : sm_R X 23 13 [.ref x0, .int x1, .int x2] [.ref s0] w Q ↔ sm_wp (sm_fld 1 0 (sm_at w s0)) (fun v => sm_R X 23 16 [.ref x0, .int x1, .int x2] [v] w Q) := sm_q_getf d23_13 rfl (by decide)
theorem d23_16 : decode (sm_code 23) 16 = .ok (.iload_n 2, 1) := by decide +kernel
theorem r23_16 {X : sm_X} {w : sm_W} {Q : Option Value → sm_W → Prop} {x0 : Nat} {x1 : Int32} {x2 : Int32} {s0 : Nat} : sm_R X 23 16 [.ref x0, .int x1, .int x2] [.ref s0] w Q ↔ sm_R X 23 17 [.ref x0, .int x1, .int x2] [.int x2, .ref s0] w Q := sm_R_go d23_16 rfl
theorem d23_17 : decode (sm_code 23) 17 = .ok (.aaload, 1) := by decide +kernel
theorem r23_17 {X : sm_X} {w : sm_W} {Q : Option Value → sm_W → Prop} {x0 : Nat} {x1 : Int32} {x2 : Int32} {s0 : Int32} {s1 : Nat} : sm_R X 23 17 [.ref x0, .int x1, .int x2] [.int s0, .ref s1] w Q ↔ sm_wp (sm_aa s1 s0 (sm_get X w s1)) (fun v => sm_R X 23 18 [.ref x0, .int x1, .int x2] [.ref v] w Q) := sm_q_aald d23_17
theorem d23_18 : decode (sm_code 23) 18 = .ok (.getfield 22, 3) := by decide +kernel
theorem r23_18 {X : sm_X} {w : sm_W} {Q : Option Value → sm_W → Prop} {x0 : Nat} {x1 : Int32} {x2 : Int32} {s0 : Nat} : sm_R X 23 18 [.ref x0, .int x1, .int x2] [.ref s0] w Q ↔ sm_wp (sm_fld 5 0 (sm_at w s0)) (fun v => sm_R X 23 21 [.ref x0, .int x1, .int x2] [v] w Q) := sm_q_getf d23_18 rfl (by decide)
theorem d23_21 : decode (sm_code 23) 21 = .ok (.ifCond .ne 6, 3) := by decide +kernel
theorem r23_21 {X : sm_X} {w : sm_W} {Q : Option Value → sm_W → Prop} {x0 : Nat} {x1 : Int32} {x2 : Int32} {s0 : Int32} : sm_R X 23 21 [.ref x0, .int x1, .int x2] [.int s0] w Q ↔ (if s0 = 0 then sm_R X 23 24 [.ref x0, .int x1, .int x2] [] w Q else sm_R X 23 27 [.ref x0, .int x1, .int x2] [] w Q) := sm_q_br d23_21 rfl
theorem d23_24 : decode (sm_code 23) 24 = .ok (.iinc 1 1, 3) := by decide +kernel
theorem r23_24 {X : sm_X} {w : sm_W} {Q : Option Value → sm_W → Prop} {x0 : Nat} {x1 : Int32} {x2 : Int32} : sm_R X 23 24 [.ref x0, .int x1, .int x2] [] w Q ↔ sm_R X 23 27 [.ref x0, .int (x1 + 1), .int x2] [] w Q := sm_R_go d23_24 rfl
theorem d23_27 : decode (sm_code 23) 27 = .ok (.iinc 2 1, 3) := by decide +kernel
theorem r23_27 {X : sm_X} {w : sm_W} {Q : Option Value → sm_W → Prop} {x0 : Nat} {x1 : Int32} {x2 : Int32} : sm_R X 23 27 [.ref x0, .int x1, .int x2] [] w Q ↔ sm_R X 23 30 [.ref x0, .int x1, .int (x2 + 1)] [] w Q := sm_R_go d23_27 rfl
theorem d23_30 : decode (sm_code 23) 30 = .ok (.goto (-26), 3) := by decide +kernel
theorem r23_30 {X : sm_X} {w : sm_W} {Q : Option Value → sm_W → Prop} {x0 : Nat} {x1 : Int32} {x2 : Int32} : sm_R X 23 30 [.ref x0, .int x1, .int x2] [] w Q ↔ sm_R X 23 4 [.ref x0, .int x1, .int x2] [] w Q := sm_R_go d23_30 rfl
theorem d23_33 : decode (sm_code 23) 33 = .ok (.iload_n 1, 1) := by decide +kernel
theorem r23_33 {X : sm_X} {w : sm_W} {Q : Option Value → sm_W → Prop} {x0 : Nat} {x1 : Int32} {x2 : Int32} : sm_R X 23 33 [.ref x0, .int x1, .int x2] [] w Q ↔ sm_R X 23 34 [.ref x0, .int x1, .int x2] [.int x1] w Q := sm_R_go d23_33 rfl
theorem d23_34 : decode (sm_code 23) 34 = .ok (.ireturn, 1) := by decide +kernel
theorem r23_34 {X : sm_X} {w : sm_W} {Q : Option Value → sm_W → Prop} {x0 : Nat} {x1 : Int32} {x2 : Int32} {s0 : Int32} : sm_R X 23 34 [.ref x0, .int x1, .int x2] [.int s0] w Q ↔ Q (some (.int s0)) w := sm_q_iret d23_34 rfl
-- GroupLedger.carryOut(I)I
theorem d24_0 : decode (sm_code 24) 0 = .ok (.aload_n 0, 1) := by decide +kernel
theorem r24_0 {X : sm_X} {w : sm_W} {Q : Option Value → sm_W → Prop} {x0 : Nat} {x1 : Int32} : sm_R X 24 0 [.ref x0, .int x1, sm_J, sm_J, sm_J] [] w Q ↔ sm_R X 24 1 [.ref x0, .int x1, sm_J, sm_J, sm_J] [.ref x0] w Q := sm_R_go d24_0 rfl
theorem d24_1 : decode (sm_code 24) 1 = .ok (.getfield 33, 3) := by decide +kernel
theorem r24_1 {X : sm_X} {w : sm_W} {Q : Option Value → sm_W → Prop} {x0 : Nat} {x1 : Int32} {s0 : Nat} : sm_R X 24 1 [.ref x0, .int x1, sm_J, sm_J, sm_J] [.ref s0] w Q ↔ sm_wp (sm_fld 6 4 (sm_at w s0)) (fun v => sm_R X 24 4 [.ref x0, .int x1, sm_J, sm_J, sm_J] [v] w Q) := sm_q_getf d24_1 rfl (by decide)
theorem d24_4 : decode (sm_code 24) 4 = .ok (.getfield 87, 3) := by decide +kernel
theorem r24_4 {X : sm_X} {w : sm_W} {Q : Option Value → sm_W → Prop} {x0 : Nat} {x1 : Int32} {s0 : Nat} : sm_R X 24 4 [.ref x0, .int x1, sm_J, sm_J, sm_J] [.ref s0] w Q ↔ sm_wp (sm_fld 1 0 (sm_at w s0)) (fun v => sm_R X 24 7 [.ref x0, .int x1, sm_J, sm_J, sm_J] [v] w Q) := sm_q_getf d24_4 rfl (by decide)
theorem d24_7 : decode (sm_code 24) 7 = .ok (.iload_n 1, 1) := by decide +kernel
theorem r24_7 {X : sm_X} {w : sm_W} {Q : Option Value → sm_W → Prop} {x0 : Nat} {x1 : Int32} {s0 : Nat} : sm_R X 24 7 [.ref x0, .int x1, sm_J, sm_J, sm_J] [.ref s0] w Q ↔ sm_R X 24 8 [.ref x0, .int x1, sm_J, sm_J, sm_J] [.int x1, .ref s0] w Q := sm_R_go d24_7 rfl
theorem d24_8 : decode (sm_code 24) 8 = .ok (.aaload, 1) := by decide +kernel
theorem r24_8 {X : sm_X} {w : sm_W} {Q : Option Value → sm_W → Prop} {x0 : Nat} {x1 : Int32} {s0 : Int32} {s1 : Nat} : sm_R X 24 8 [.ref x0, .int x1, sm_J, sm_J, sm_J] [.int s0, .ref s1] w Q ↔ sm_wp (sm_aa s1 s0 (sm_get X w s1)) (fun v => sm_R X 24 9 [.ref x0, .int x1, sm_J, sm_J, sm_J] [.ref v] w Q) := sm_q_aald d24_8
theorem d24_9 : decode (sm_code 24) 9 = .ok (.astore_n 2, 1) := by decide +kernel
theorem r24_9 {X : sm_X} {w : sm_W} {Q : Option Value → sm_W → Prop} {x0 : Nat} {x1 : Int32} {s0 : Nat} : sm_R X 24 9 [.ref x0, .int x1, sm_J, sm_J, sm_J] [.ref s0] w Q ↔ sm_R X 24 10 [.ref x0, .int x1, .ref s0, sm_J, sm_J] [] w Q := sm_R_go d24_9 rfl
theorem d24_10 : decode (sm_code 24) 10 = .ok (.aload_n 0, 1) := by decide +kernel
theorem r24_10 {X : sm_X} {w : sm_W} {Q : Option Value → sm_W → Prop} {x0 : Nat} {x1 : Int32} {x2 : Nat} : sm_R X 24 10 [.ref x0, .int x1, .ref x2, sm_J, sm_J] [] w Q ↔ sm_R X 24 11 [.ref x0, .int x1, .ref x2, sm_J, sm_J] [.ref x0] w Q := sm_R_go d24_10 rfl
theorem d24_11 : decode (sm_code 24) 11 = .ok (.getfield 10, 3) := by decide +kernel
theorem r24_11 {X : sm_X} {w : sm_W} {Q : Option Value → sm_W → Prop} {x0 : Nat} {x1 : Int32} {x2 : Nat} {s0 : Nat} : sm_R X 24 11 [.ref x0, .int x1, .ref x2, sm_J, sm_J] [.ref s0] w Q ↔ sm_wp (sm_fld 6 0 (sm_at w s0)) (fun v => sm_R X 24 14 [.ref x0, .int x1, .ref x2, sm_J, sm_J] [v] w Q) := sm_q_getf d24_11 rfl (by decide)
theorem d24_14 : decode (sm_code 24) 14 = .ok (.getfield 57, 3) := by decide +kernel
theorem r24_14 {X : sm_X} {w : sm_W} {Q : Option Value → sm_W → Prop} {x0 : Nat} {x1 : Int32} {x2 : Nat} {s0 : Nat} : sm_R X 24 14 [.ref x0, .int x1, .ref x2, sm_J, sm_J] [.ref s0] w Q ↔ sm_wp (sm_fld 0 0 (sm_at w s0)) (fun v => sm_R X 24 17 [.ref x0, .int x1, .ref x2, sm_J, sm_J] [v] w Q) := sm_q_getf d24_14 rfl (by decide)
theorem d24_17 : decode (sm_code 24) 17 = .ok (.aload_n 2, 1) := by decide +kernel
theorem r24_17 {X : sm_X} {w : sm_W} {Q : Option Value → sm_W → Prop} {x0 : Nat} {x1 : Int32} {x2 : Nat} {s0 : Nat} : sm_R X 24 17 [.ref x0, .int x1, .ref x2, sm_J, sm_J] [.ref s0] w Q ↔ sm_R X 24 18 [.ref x0, .int x1, .ref x2, sm_J, sm_J] [.ref x2, .ref s0] w Q := sm_R_go d24_17 rfl
theorem d24_18 : decode (sm_code 24) 18 = .ok (.getfield 145, 3) := by decide +kernel
theorem r24_18 {X : sm_X} {w : sm_W} {Q : Option Value → sm_W → Prop} {x0 : Nat} {x1 : Int32} {x2 : Nat} {s0 : Nat} {s1 : Nat} : sm_R X 24 18 [.ref x0, .int x1, .ref x2, sm_J, sm_J] [.ref s0, .ref s1] w Q ↔ sm_wp (sm_fld 5 1 (sm_at w s0)) (fun v => sm_R X 24 21 [.ref x0, .int x1, .ref x2, sm_J, sm_J] [v, .ref s1] w Q) := sm_q_getf d24_18 rfl (by decide)
theorem d24_21 : decode (sm_code 24) 21 = .ok (.iaload, 1) := by decide +kernel
theorem r24_21 {X : sm_X} {w : sm_W} {Q : Option Value → sm_W → Prop} {x0 : Nat} {x1 : Int32} {x2 : Nat} {s0 : Int32} {s1 : Nat} : sm_R X 24 21 [.ref x0, .int x1, .ref x2, sm_J, sm_J] [.int s0, .ref s1] w Q ↔ sm_wp (sm_ai s0 (sm_get X w s1)) (fun v => sm_R X 24 22 [.ref x0, .int x1, .ref x2, sm_J, sm_J] [.int v] w Q) := sm_q_iald d24_21
theorem d24_22 : decode (sm_code 24) 22 = .ok (.iconst 1, 1) := by decide +kernel
theorem r24_22 {X : sm_X} {w : sm_W} {Q : Option Value → sm_W → Prop} {x0 : Nat} {x1 : Int32} {x2 : Nat} {s0 : Int32} : sm_R X 24 22 [.ref x0, .int x1, .ref x2, sm_J, sm_J] [.int s0] w Q ↔ sm_R X 24 23 [.ref x0, .int x1, .ref x2, sm_J, sm_J] [.int 1, .int s0] w Q := sm_R_go d24_22 rfl
theorem d24_23 : decode (sm_code 24) 23 = .ok (.if_icmp .ge 6, 3) := by decide +kernel
theorem r24_23 {X : sm_X} {w : sm_W} {Q : Option Value → sm_W → Prop} {x0 : Nat} {x1 : Int32} {x2 : Nat} {s0 : Int32} {s1 : Int32} : sm_R X 24 23 [.ref x0, .int x1, .ref x2, sm_J, sm_J] [.int s0, .int s1] w Q ↔ (if s0 ≤ s1 then sm_R X 24 29 [.ref x0, .int x1, .ref x2, sm_J, sm_J] [] w Q else sm_R X 24 26 [.ref x0, .int x1, .ref x2, sm_J, sm_J] [] w Q) := sm_q_br d24_23 rfl
theorem d24_26 : decode (sm_code 24) 26 = .ok (.bipush 6, 2) := by decide +kernel
theorem r24_26 {X : sm_X} {w : sm_W} {Q : Option Value → sm_W → Prop} {x0 : Nat} {x1 : Int32} {x2 : Nat} : sm_R X 24 26 [.ref x0, .int x1, .ref x2, sm_J, sm_J] [] w Q ↔ sm_R X 24 28 [.ref x0, .int x1, .ref x2, sm_J, sm_J] [.int 6] w Q := sm_R_go d24_26 rfl
theorem d24_28 : decode (sm_code 24) 28 = .ok (.ireturn, 1) := by decide +kernel
theorem r24_28 {X : sm_X} {w : sm_W} {Q : Option Value → sm_W → Prop} {x0 : Nat} {x1 : Int32} {x2 : Nat} {s0 : Int32} : sm_R X 24 28 [.ref x0, .int x1, .ref x2, sm_J, sm_J] [.int s0] w Q ↔ Q (some (.int s0)) w := sm_q_iret d24_28 rfl
theorem d24_29 : decode (sm_code 24) 29 = .ok (.aload_n 0, 1) := by decide +kernel
theorem r24_29 {X : sm_X} {w : sm_W} {Q : Option Value → sm_W → Prop} {x0 : Nat} {x1 : Int32} {x2 : Nat} : sm_R X 24 29 [.ref x0, .int x1, .ref x2, sm_J, sm_J] [] w Q ↔ sm_R X 24 30 [.ref x0, .int x1, .ref x2, sm_J, sm_J] [.ref x0] w Q := sm_R_go d24_29 rfl
theorem d24_30 : decode (sm_code 24) 30 = .ok (.getfield 10, 3) := by decide +kernel
theorem r24_30 {X : sm_X} {w : sm_W} {Q : Option Value → sm_W → Prop} {x0 : Nat} {x1 : Int32} {x2 : Nat} {s0 : Nat} : sm_R X 24 30 [.ref x0, .int x1, .ref x2, sm_J, sm_J] [.ref s0] w Q ↔ sm_wp (sm_fld 6 0 (sm_at w s0)) (fun v => sm_R X 24 33 [.ref x0, .int x1, .ref x2, sm_J, sm_J] [v] w Q) := sm_q_getf d24_30 rfl (by decide)
theorem d24_33 : decode (sm_code 24) 33 = .ok (.getfield 57, 3) := by decide +kernel
theorem r24_33 {X : sm_X} {w : sm_W} {Q : Option Value → sm_W → Prop} {x0 : Nat} {x1 : Int32} {x2 : Nat} {s0 : Nat} : sm_R X 24 33 [.ref x0, .int x1, .ref x2, sm_J, sm_J] [.ref s0] w Q ↔ sm_wp (sm_fld 0 0 (sm_at w s0)) (fun v => sm_R X 24 36 [.ref x0, .int x1, .ref x2, sm_J, sm_J] [v] w Q) := sm_q_getf d24_33 rfl (by decide)
theorem d24_36 : decode (sm_code 24) 36 = .ok (.aload_n 2, 1) := by decide +kernel
theorem r24_36 {X : sm_X} {w : sm_W} {Q : Option Value → sm_W → Prop} {x0 : Nat} {x1 : Int32} {x2 : Nat} {s0 : Nat} : sm_R X 24 36 [.ref x0, .int x1, .ref x2, sm_J, sm_J] [.ref s0] w Q ↔ sm_R X 24 37 [.ref x0, .int x1, .ref x2, sm_J, sm_J] [.ref x2, .ref s0] w Q := sm_R_go d24_36 rfl
theorem d24_37 : decode (sm_code 24) 37 = .ok (.getfield 145, 3) := by decide +kernel
theorem r24_37 {X : sm_X} {w : sm_W} {Q : Option Value → sm_W → Prop} {x0 : Nat} {x1 : Int32} {x2 : Nat} {s0 : Nat} {s1 : Nat} : sm_R X 24 37 [.ref x0, .int x1, .ref x2, sm_J, sm_J] [.ref s0, .ref s1] w Q ↔ sm_wp (sm_fld 5 1 (sm_at w s0)) (fun v => sm_R X 24 40 [.ref x0, .int x1, .ref x2, sm_J, sm_J] [v, .ref s1] w Q) := sm_q_getf d24_37 rfl (by decide)
theorem d24_40 : decode (sm_code 24) 40 = .ok (.dup2, 1) := by decide +kernel
theorem r24_40 {X : sm_X} {w : sm_W} {Q : Option Value → sm_W → Prop} {x0 : Nat} {x1 : Int32} {x2 : Nat} {s0 : Int32} {s1 : Nat} : sm_R X 24 40 [.ref x0, .int x1, .ref x2, sm_J, sm_J] [.int s0, .ref s1] w Q ↔ sm_R X 24 41 [.ref x0, .int x1, .ref x2, sm_J, sm_J] [.int s0, .ref s1, .int s0, .ref s1] w Q := sm_R_go d24_40 rfl
theorem d24_41 : decode (sm_code 24) 41 = .ok (.iaload, 1) := by decide +kernel
theorem r24_41 {X : sm_X} {w : sm_W} {Q : Option Value → sm_W → Prop} {x0 : Nat} {x1 : Int32} {x2 : Nat} {s0 : Int32} {s1 : Nat} {s2 : Int32} {s3 : Nat} : sm_R X 24 41 [.ref x0, .int x1, .ref x2, sm_J, sm_J] [.int s0, .ref s1, .int s2, .ref s3] w Q ↔ sm_wp (sm_ai s0 (sm_get X w s1)) (fun v => sm_R X 24 42 [.ref x0, .int x1, .ref x2, sm_J, sm_J] [.int v, .int s2, .ref s3] w Q) := sm_q_iald d24_41
theorem d24_42 : decode (sm_code 24) 42 = .ok (.iconst 1, 1) := by decide +kernel
theorem r24_42 {X : sm_X} {w : sm_W} {Q : Option Value → sm_W → Prop} {x0 : Nat} {x1 : Int32} {x2 : Nat} {s0 : Int32} {s1 : Int32} {s2 : Nat} : sm_R X 24 42 [.ref x0, .int x1, .ref x2, sm_J, sm_J] [.int s0, .int s1, .ref s2] w Q ↔ sm_R X 24 43 [.ref x0, .int x1, .ref x2, sm_J, sm_J] [.int 1, .int s0, .int s1, .ref s2] w Q := sm_R_go d24_42 rfl
theorem d24_43 : decode (sm_code 24) 43 = .ok (.isub, 1) := by decide +kernel
theorem r24_43 {X : sm_X} {w : sm_W} {Q : Option Value → sm_W → Prop} {x0 : Nat} {x1 : Int32} {x2 : Nat} {s0 : Int32} {s1 : Int32} {s2 : Int32} {s3 : Nat} : sm_R X 24 43 [.ref x0, .int x1, .ref x2, sm_J, sm_J] [.int s0, .int s1, .int s2, .ref s3] w Q ↔ sm_R X 24 44 [.ref x0, .int x1, .ref x2, sm_J, sm_J] [.int (s1 - s0), .int s2, .ref s3] w Q := sm_R_go d24_43 rfl
theorem d24_44 : decode (sm_code 24) 44 = .ok (.iastore, 1) := by decide +kernel
theorem r24_44 {X : sm_X} {w : sm_W} {Q : Option Value → sm_W → Prop} {x0 : Nat} {x1 : Int32} {x2 : Nat} {s0 : Int32} {s1 : Int32} {s2 : Nat} : sm_R X 24 44 [.ref x0, .int x1, .ref x2, sm_J, sm_J] [.int s0, .int s1, .ref s2] w Q ↔ sm_wp (sm_si s1 s0 (sm_at w s2)) (fun c => sm_R X 24 45 [.ref x0, .int x1, .ref x2, sm_J, sm_J] [] (w.set (s2 - 100) c) Q) := sm_q_iast d24_44
theorem d24_45 : decode (sm_code 24) 45 = .ok (.aload_n 2, 1) := by decide +kernel
theorem r24_45 {X : sm_X} {w : sm_W} {Q : Option Value → sm_W → Prop} {x0 : Nat} {x1 : Int32} {x2 : Nat} : sm_R X 24 45 [.ref x0, .int x1, .ref x2, sm_J, sm_J] [] w Q ↔ sm_R X 24 46 [.ref x0, .int x1, .ref x2, sm_J, sm_J] [.ref x2] w Q := sm_R_go d24_45 rfl
theorem d24_46 : decode (sm_code 24) 46 = .ok (.getfield 148, 3) := by decide +kernel
theorem r24_46 {X : sm_X} {w : sm_W} {Q : Option Value → sm_W → Prop} {x0 : Nat} {x1 : Int32} {x2 : Nat} {s0 : Nat} : sm_R X 24 46 [.ref x0, .int x1, .ref x2, sm_J, sm_J] [.ref s0] w Q ↔ sm_wp (sm_fld 5 0 (sm_at w s0)) (fun v => sm_R X 24 49 [.ref x0, .int x1, .ref x2, sm_J, sm_J] [v] w Q) := sm_q_getf d24_46 rfl (by decide)
theorem d24_49 : decode (sm_code 24) 49 = .ok (.ifCond .eq 11, 3) := by decide +kernel
theorem r24_49 {X : sm_X} {w : sm_W} {Q : Option Value → sm_W → Prop} {x0 : Nat} {x1 : Int32} {x2 : Nat} {s0 : Int32} : sm_R X 24 49 [.ref x0, .int x1, .ref x2, sm_J, sm_J] [.int s0] w Q ↔ (if s0 = 0 then sm_R X 24 60 [.ref x0, .int x1, .ref x2, sm_J, sm_J] [] w Q else sm_R X 24 52 [.ref x0, .int x1, .ref x2, sm_J, sm_J] [] w Q) := sm_q_br d24_49 rfl
theorem d24_52 : decode (sm_code 24) 52 = .ok (.aload_n 0, 1) := by decide +kernel
theorem r24_52 {X : sm_X} {w : sm_W} {Q : Option Value → sm_W → Prop} {x0 : Nat} {x1 : Int32} {x2 : Nat} : sm_R X 24 52 [.ref x0, .int x1, .ref x2, sm_J, sm_J] [] w Q ↔ sm_R X 24 53 [.ref x0, .int x1, .ref x2, sm_J, sm_J] [.ref x0] w Q := sm_R_go d24_52 rfl
theorem d24_53 : decode (sm_code 24) 53 = .ok (.aload_n 2, 1) := by decide +kernel
theorem r24_53 {X : sm_X} {w : sm_W} {Q : Option Value → sm_W → Prop} {x0 : Nat} {x1 : Int32} {x2 : Nat} {s0 : Nat} : sm_R X 24 53 [.ref x0, .int x1, .ref x2, sm_J, sm_J] [.ref s0] w Q ↔ sm_R X 24 54 [.ref x0, .int x1, .ref x2, sm_J, sm_J] [.ref x2, .ref s0] w Q := sm_R_go d24_53 rfl
theorem d24_54 : decode (sm_code 24) 54 = .ok (.invokevirtual 152, 3) := by decide +kernel
theorem r24_54 {X : sm_X} {w : sm_W} {Q : Option Value → sm_W → Prop} {x0 : Nat} {x1 : Int32} {x2 : Nat} {s0 : Nat} {s1 : Nat} : sm_R X 24 54 [.ref x0, .int x1, .ref x2, sm_J, sm_J] [.ref s0, .ref s1] w Q ↔ (sm_cN (sm_at w s1) = some 6 ∧ sm_R X 25 0 [.ref s1, .ref s0] [] w (fun v w => sm_R X 24 57 [.ref x0, .int x1, .ref x2, sm_J, sm_J] (v.toList ++ []) w Q)) := sm_q_vir (k := 25) (as := [.ref s1, .ref s0]) (rest := []) d24_54 rfl rfl rfl rfl rfl
theorem d24_57 : decode (sm_code 24) 57 = .ok (.goto 9, 3) := by decide +kernel
theorem r24_57 {X : sm_X} {w : sm_W} {Q : Option Value → sm_W → Prop} {x0 : Nat} {x1 : Int32} {x2 : Nat} {s0 : Int32} : sm_R X 24 57 [.ref x0, .int x1, .ref x2, sm_J, sm_J] [.int s0] w Q ↔ sm_R X 24 66 [.ref x0, .int x1, .ref x2, sm_J, sm_J] [.int s0] w Q := sm_R_go d24_57 rfl
theorem d24_60 : decode (sm_code 24) 60 = .ok (.aload_n 0, 1) := by decide +kernel
theorem r24_60 {X : sm_X} {w : sm_W} {Q : Option Value → sm_W → Prop} {x0 : Nat} {x1 : Int32} {x2 : Nat} : sm_R X 24 60 [.ref x0, .int x1, .ref x2, sm_J, sm_J] [] w Q ↔ sm_R X 24 61 [.ref x0, .int x1, .ref x2, sm_J, sm_J] [.ref x0] w Q := sm_R_go d24_60 rfl
theorem d24_61 : decode (sm_code 24) 61 = .ok (.aload_n 2, 1) := by decide +kernel
theorem r24_61 {X : sm_X} {w : sm_W} {Q : Option Value → sm_W → Prop} {x0 : Nat} {x1 : Int32} {x2 : Nat} {s0 : Nat} : sm_R X 24 61 [.ref x0, .int x1, .ref x2, sm_J, sm_J] [.ref s0] w Q ↔ sm_R X 24 62 [.ref x0, .int x1, .ref x2, sm_J, sm_J] [.ref x2, .ref s0] w Q := sm_R_go d24_61 rfl
theorem d24_62 : decode (sm_code 24) 62 = .ok (.iload_n 1, 1) := by decide +kernel
theorem r24_62 {X : sm_X} {w : sm_W} {Q : Option Value → sm_W → Prop} {x0 : Nat} {x1 : Int32} {x2 : Nat} {s0 : Nat} {s1 : Nat} : sm_R X 24 62 [.ref x0, .int x1, .ref x2, sm_J, sm_J] [.ref s0, .ref s1] w Q ↔ sm_R X 24 63 [.ref x0, .int x1, .ref x2, sm_J, sm_J] [.int x1, .ref s0, .ref s1] w Q := sm_R_go d24_62 rfl
theorem d24_63 : decode (sm_code 24) 63 = .ok (.invokevirtual 156, 3) := by decide +kernel
theorem r24_63 {X : sm_X} {w : sm_W} {Q : Option Value → sm_W → Prop} {x0 : Nat} {x1 : Int32} {x2 : Nat} {s0 : Int32} {s1 : Nat} {s2 : Nat} : sm_R X 24 63 [.ref x0, .int x1, .ref x2, sm_J, sm_J] [.int s0, .ref s1, .ref s2] w Q ↔ (sm_cN (sm_at w s2) = some 6 ∧ sm_R X 26 0 [.ref s2, .ref s1, .int s0, sm_J, sm_J, sm_J] [] w (fun v w => sm_R X 24 66 [.ref x0, .int x1, .ref x2, sm_J, sm_J] (v.toList ++ []) w Q)) := sm_q_vir (k := 26) (as := [.ref s2, .ref s1, .int s0]) (rest := []) d24_63 rfl rfl rfl rfl rfl
theorem d24_66 : decode (sm_code 24) 66 = .ok (.istore_n 3, 1) := by decide +kernel
theorem r24_66 {X : sm_X} {w : sm_W} {Q : Option Value → sm_W → Prop} {x0 : Nat} {x1 : Int32} {x2 : Nat} {s0 : Int32} : sm_R X 24 66 [.ref x0, .int x1, .ref x2, sm_J, sm_J] [.int s0] w Q ↔ sm_R X 24 67 [.ref x0, .int x1, .ref x2, .int s0, sm_J] [] w Q := sm_R_go d24_66 rfl
theorem d24_67 : decode (sm_code 24) 67 = .ok (.iload_n 3, 1) := by decide +kernel
theorem r24_67 {X : sm_X} {w : sm_W} {Q : Option Value → sm_W → Prop} {x0 : Nat} {x1 : Int32} {x2 : Nat} {x3 : Int32} : sm_R X 24 67 [.ref x0, .int x1, .ref x2, .int x3, sm_J] [] w Q ↔ sm_R X 24 68 [.ref x0, .int x1, .ref x2, .int x3, sm_J] [.int x3] w Q := sm_R_go d24_67 rfl
theorem d24_68 : decode (sm_code 24) 68 = .ok (.ifCond .eq 5, 3) := by decide +kernel
theorem r24_68 {X : sm_X} {w : sm_W} {Q : Option Value → sm_W → Prop} {x0 : Nat} {x1 : Int32} {x2 : Nat} {x3 : Int32} {s0 : Int32} : sm_R X 24 68 [.ref x0, .int x1, .ref x2, .int x3, sm_J] [.int s0] w Q ↔ (if s0 = 0 then sm_R X 24 73 [.ref x0, .int x1, .ref x2, .int x3, sm_J] [] w Q else sm_R X 24 71 [.ref x0, .int x1, .ref x2, .int x3, sm_J] [] w Q) := sm_q_br d24_68 rfl
theorem d24_71 : decode (sm_code 24) 71 = .ok (.iload_n 3, 1) := by decide +kernel
theorem r24_71 {X : sm_X} {w : sm_W} {Q : Option Value → sm_W → Prop} {x0 : Nat} {x1 : Int32} {x2 : Nat} {x3 : Int32} : sm_R X 24 71 [.ref x0, .int x1, .ref x2, .int x3, sm_J] [] w Q ↔ sm_R X 24 72 [.ref x0, .int x1, .ref x2, .int x3, sm_J] [.int x3] w Q := sm_R_go d24_71 rfl
theorem d24_72 : decode (sm_code 24) 72 = .ok (.ireturn, 1) := by decide +kernel
theorem r24_72 {X : sm_X} {w : sm_W} {Q : Option Value → sm_W → Prop} {x0 : Nat} {x1 : Int32} {x2 : Nat} {x3 : Int32} {s0 : Int32} : sm_R X 24 72 [.ref x0, .int x1, .ref x2, .int x3, sm_J] [.int s0] w Q ↔ Q (some (.int s0)) w := sm_q_iret d24_72 rfl
theorem d24_73 : decode (sm_code 24) 73 = .ok (.aload_n 0, 1) := by decide +kernel
theorem r24_73 {X : sm_X} {w : sm_W} {Q : Option Value → sm_W → Prop} {x0 : Nat} {x1 : Int32} {x2 : Nat} {x3 : Int32} : sm_R X 24 73 [.ref x0, .int x1, .ref x2, .int x3, sm_J] [] w Q ↔ sm_R X 24 74 [.ref x0, .int x1, .ref x2, .int x3, sm_J] [.ref x0] w Q := sm_R_go d24_73 rfl
theorem d24_74 : decode (sm_code 24) 74 = .ok (.getfield 10, 3) := by decide +kernel
theorem r24_74 {X : sm_X} {w : sm_W} {Q : Option Value → sm_W → Prop} {x0 : Nat} {x1 : Int32} {x2 : Nat} {x3 : Int32} {s0 : Nat} : sm_R X 24 74 [.ref x0, .int x1, .ref x2, .int x3, sm_J] [.ref s0] w Q ↔ sm_wp (sm_fld 6 0 (sm_at w s0)) (fun v => sm_R X 24 77 [.ref x0, .int x1, .ref x2, .int x3, sm_J] [v] w Q) := sm_q_getf d24_74 rfl (by decide)
theorem d24_77 : decode (sm_code 24) 77 = .ok (.aload_n 2, 1) := by decide +kernel
theorem r24_77 {X : sm_X} {w : sm_W} {Q : Option Value → sm_W → Prop} {x0 : Nat} {x1 : Int32} {x2 : Nat} {x3 : Int32} {s0 : Nat} : sm_R X 24 77 [.ref x0, .int x1, .ref x2, .int x3, sm_J] [.ref s0] w Q ↔ sm_R X 24 78 [.ref x0, .int x1, .ref x2, .int x3, sm_J] [.ref x2, .ref s0] w Q := sm_R_go d24_77 rfl
theorem d24_78 : decode (sm_code 24) 78 = .ok (.getfield 145, 3) := by decide +kernel
theorem r24_78 {X : sm_X} {w : sm_W} {Q : Option Value → sm_W → Prop} {x0 : Nat} {x1 : Int32} {x2 : Nat} {x3 : Int32} {s0 : Nat} {s1 : Nat} : sm_R X 24 78 [.ref x0, .int x1, .ref x2, .int x3, sm_J] [.ref s0, .ref s1] w Q ↔ sm_wp (sm_fld 5 1 (sm_at w s0)) (fun v => sm_R X 24 81 [.ref x0, .int x1, .ref x2, .int x3, sm_J] [v, .ref s1] w Q) := sm_q_getf d24_78 rfl (by decide)
theorem d24_81 : decode (sm_code 24) 81 = .ok (.invokevirtual 160, 3) := by decide +kernel
theorem r24_81 {X : sm_X} {w : sm_W} {Q : Option Value → sm_W → Prop} {x0 : Nat} {x1 : Int32} {x2 : Nat} {x3 : Int32} {s0 : Int32} {s1 : Nat} : sm_R X 24 81 [.ref x0, .int x1, .ref x2, .int x3, sm_J] [.int s0, .ref s1] w Q ↔ (sm_cN (sm_at w s1) = some 0 ∧ sm_R X 48 0 [.ref s1, .int s0] [] w (fun v w => sm_R X 24 84 [.ref x0, .int x1, .ref x2, .int x3, sm_J] (v.toList ++ []) w Q)) := sm_q_vir (k := 48) (as := [.ref s1, .int s0]) (rest := []) d24_81 rfl rfl rfl rfl rfl
theorem d24_84 : decode (sm_code 24) 84 = .ok (.ifCond .ne 24, 3) := by decide +kernel
theorem r24_84 {X : sm_X} {w : sm_W} {Q : Option Value → sm_W → Prop} {x0 : Nat} {x1 : Int32} {x2 : Nat} {x3 : Int32} {s0 : Int32} : sm_R X 24 84 [.ref x0, .int x1, .ref x2, .int x3, sm_J] [.int s0] w Q ↔ (if s0 = 0 then sm_R X 24 87 [.ref x0, .int x1, .ref x2, .int x3, sm_J] [] w Q else sm_R X 24 108 [.ref x0, .int x1, .ref x2, .int x3, sm_J] [] w Q) := sm_q_br d24_84 rfl
theorem d24_87 : decode (sm_code 24) 87 = .ok (.aload_n 2, 1) := by decide +kernel
theorem r24_87 {X : sm_X} {w : sm_W} {Q : Option Value → sm_W → Prop} {x0 : Nat} {x1 : Int32} {x2 : Nat} {x3 : Int32} : sm_R X 24 87 [.ref x0, .int x1, .ref x2, .int x3, sm_J] [] w Q ↔ sm_R X 24 88 [.ref x0, .int x1, .ref x2, .int x3, sm_J] [.ref x2] w Q := sm_R_go d24_87 rfl
theorem d24_88 : decode (sm_code 24) 88 = .ok (.getfield 148, 3) := by decide +kernel
theorem r24_88 {X : sm_X} {w : sm_W} {Q : Option Value → sm_W → Prop} {x0 : Nat} {x1 : Int32} {x2 : Nat} {x3 : Int32} {s0 : Nat} : sm_R X 24 88 [.ref x0, .int x1, .ref x2, .int x3, sm_J] [.ref s0] w Q ↔ sm_wp (sm_fld 5 0 (sm_at w s0)) (fun v => sm_R X 24 91 [.ref x0, .int x1, .ref x2, .int x3, sm_J] [v] w Q) := sm_q_getf d24_88 rfl (by decide)
theorem d24_91 : decode (sm_code 24) 91 = .ok (.ifCond .eq 21, 3) := by decide +kernel
theorem r24_91 {X : sm_X} {w : sm_W} {Q : Option Value → sm_W → Prop} {x0 : Nat} {x1 : Int32} {x2 : Nat} {x3 : Int32} {s0 : Int32} : sm_R X 24 91 [.ref x0, .int x1, .ref x2, .int x3, sm_J] [.int s0] w Q ↔ (if s0 = 0 then sm_R X 24 112 [.ref x0, .int x1, .ref x2, .int x3, sm_J] [] w Q else sm_R X 24 94 [.ref x0, .int x1, .ref x2, .int x3, sm_J] [] w Q) := sm_q_br d24_91 rfl
theorem d24_94 : decode (sm_code 24) 94 = .ok (.aload_n 0, 1) := by decide +kernel
theorem r24_94 {X : sm_X} {w : sm_W} {Q : Option Value → sm_W → Prop} {x0 : Nat} {x1 : Int32} {x2 : Nat} {x3 : Int32} : sm_R X 24 94 [.ref x0, .int x1, .ref x2, .int x3, sm_J] [] w Q ↔ sm_R X 24 95 [.ref x0, .int x1, .ref x2, .int x3, sm_J] [.ref x0] w Q := sm_R_go d24_94 rfl
theorem d24_95 : decode (sm_code 24) 95 = .ok (.getfield 10, 3) := by decide +kernel
theorem r24_95 {X : sm_X} {w : sm_W} {Q : Option Value → sm_W → Prop} {x0 : Nat} {x1 : Int32} {x2 : Nat} {x3 : Int32} {s0 : Nat} : sm_R X 24 95 [.ref x0, .int x1, .ref x2, .int x3, sm_J] [.ref s0] w Q ↔ sm_wp (sm_fld 6 0 (sm_at w s0)) (fun v => sm_R X 24 98 [.ref x0, .int x1, .ref x2, .int x3, sm_J] [v] w Q) := sm_q_getf d24_95 rfl (by decide)
theorem d24_98 : decode (sm_code 24) 98 = .ok (.aload_n 2, 1) := by decide +kernel
theorem r24_98 {X : sm_X} {w : sm_W} {Q : Option Value → sm_W → Prop} {x0 : Nat} {x1 : Int32} {x2 : Nat} {x3 : Int32} {s0 : Nat} : sm_R X 24 98 [.ref x0, .int x1, .ref x2, .int x3, sm_J] [.ref s0] w Q ↔ sm_R X 24 99 [.ref x0, .int x1, .ref x2, .int x3, sm_J] [.ref x2, .ref s0] w Q := sm_R_go d24_98 rfl
theorem d24_99 : decode (sm_code 24) 99 = .ok (.getfield 163, 3) := by decide +kernel
theorem r24_99 {X : sm_X} {w : sm_W} {Q : Option Value → sm_W → Prop} {x0 : Nat} {x1 : Int32} {x2 : Nat} {x3 : Int32} {s0 : Nat} {s1 : Nat} : sm_R X 24 99 [.ref x0, .int x1, .ref x2, .int x3, sm_J] [.ref s0, .ref s1] w Q ↔ sm_wp (sm_fld 5 2 (sm_at w s0)) (fun v => sm_R X 24 102 [.ref x0, .int x1, .ref x2, .int x3, sm_J] [v, .ref s1] w Q) := sm_q_getf d24_99 rfl (by decide)
theorem d24_102 : decode (sm_code 24) 102 = .ok (.invokevirtual 160, 3) := by decide +kernel
theorem r24_102 {X : sm_X} {w : sm_W} {Q : Option Value → sm_W → Prop} {x0 : Nat} {x1 : Int32} {x2 : Nat} {x3 : Int32} {s0 : Int32} {s1 : Nat} : sm_R X 24 102 [.ref x0, .int x1, .ref x2, .int x3, sm_J] [.int s0, .ref s1] w Q ↔ (sm_cN (sm_at w s1) = some 0 ∧ sm_R X 48 0 [.ref s1, .int s0] [] w (fun v w => sm_R X 24 105 [.ref x0, .int x1, .ref x2, .int x3, sm_J] (v.toList ++ []) w Q)) := sm_q_vir (k := 48) (as := [.ref s1, .int s0]) (rest := []) d24_102 rfl rfl rfl rfl rfl
theorem d24_105 : decode (sm_code 24) 105 = .ok (.ifCond .eq 7, 3) := by decide +kernel
theorem r24_105 {X : sm_X} {w : sm_W} {Q : Option Value → sm_W → Prop} {x0 : Nat} {x1 : Int32} {x2 : Nat} {x3 : Int32} {s0 : Int32} : sm_R X 24 105 [.ref x0, .int x1, .ref x2, .int x3, sm_J] [.int s0] w Q ↔ (if s0 = 0 then sm_R X 24 112 [.ref x0, .int x1, .ref x2, .int x3, sm_J] [] w Q else sm_R X 24 108 [.ref x0, .int x1, .ref x2, .int x3, sm_J] [] w Q) := sm_q_br d24_105 rfl
theorem d24_108 : decode (sm_code 24) 108 = .ok (.iconst 1, 1) := by decide +kernel
theorem r24_108 {X : sm_X} {w : sm_W} {Q : Option Value → sm_W → Prop} {x0 : Nat} {x1 : Int32} {x2 : Nat} {x3 : Int32} : sm_R X 24 108 [.ref x0, .int x1, .ref x2, .int x3, sm_J] [] w Q ↔ sm_R X 24 109 [.ref x0, .int x1, .ref x2, .int x3, sm_J] [.int 1] w Q := sm_R_go d24_108 rfl
theorem d24_109 : decode (sm_code 24) 109 = .ok (.goto 4, 3) := by decide +kernel
theorem r24_109 {X : sm_X} {w : sm_W} {Q : Option Value → sm_W → Prop} {x0 : Nat} {x1 : Int32} {x2 : Nat} {x3 : Int32} {s0 : Int32} : sm_R X 24 109 [.ref x0, .int x1, .ref x2, .int x3, sm_J] [.int s0] w Q ↔ sm_R X 24 113 [.ref x0, .int x1, .ref x2, .int x3, sm_J] [.int s0] w Q := sm_R_go d24_109 rfl
theorem d24_112 : decode (sm_code 24) 112 = .ok (.iconst 0, 1) := by decide +kernel
theorem r24_112 {X : sm_X} {w : sm_W} {Q : Option Value → sm_W → Prop} {x0 : Nat} {x1 : Int32} {x2 : Nat} {x3 : Int32} : sm_R X 24 112 [.ref x0, .int x1, .ref x2, .int x3, sm_J] [] w Q ↔ sm_R X 24 113 [.ref x0, .int x1, .ref x2, .int x3, sm_J] [.int 0] w Q := sm_R_go d24_112 rfl
theorem d24_113 : decode (sm_code 24) 113 = .ok (.istore 4, 2) := by decide +kernel
theorem r24_113 {X : sm_X} {w : sm_W} {Q : Option Value → sm_W → Prop} {x0 : Nat} {x1 : Int32} {x2 : Nat} {x3 : Int32} {s0 : Int32} : sm_R X 24 113 [.ref x0, .int x1, .ref x2, .int x3, sm_J] [.int s0] w Q ↔ sm_R X 24 115 [.ref x0, .int x1, .ref x2, .int x3, .int s0] [] w Q := sm_R_go d24_113 rfl
theorem d24_115 : decode (sm_code 24) 115 = .ok (.iload 4, 2) := by decide +kernel
theorem r24_115 {X : sm_X} {w : sm_W} {Q : Option Value → sm_W → Prop} {x0 : Nat} {x1 : Int32} {x2 : Nat} {x3 : Int32} {x4 : Int32} : sm_R X 24 115 [.ref x0, .int x1, .ref x2, .int x3, .int x4] [] w Q ↔ sm_R X 24 117 [.ref x0, .int x1, .ref x2, .int x3, .int x4] [.int x4] w Q := sm_R_go d24_115 rfl
theorem d24_117 : decode (sm_code 24) 117 = .ok (.ifCond .eq 8, 3) := by decide +kernel
theorem r24_117 {X : sm_X} {w : sm_W} {Q : Option Value → sm_W → Prop} {x0 : Nat} {x1 : Int32} {x2 : Nat} {x3 : Int32} {x4 : Int32} {s0 : Int32} : sm_R X 24 117 [.ref x0, .int x1, .ref x2, .int x3, .int x4] [.int s0] w Q ↔ (if s0 = 0 then sm_R X 24 125 [.ref x0, .int x1, .ref x2, .int x3, .int x4] [] w Q else sm_R X 24 120 [.ref x0, .int x1, .ref x2, .int x3, .int x4] [] w Q) := sm_q_br d24_117 rfl
theorem d24_120 : decode (sm_code 24) 120 = .ok (.bipush 10, 2) := by decide +kernel
theorem r24_120 {X : sm_X} {w : sm_W} {Q : Option Value → sm_W → Prop} {x0 : Nat} {x1 : Int32} {x2 : Nat} {x3 : Int32} {x4 : Int32} : sm_R X 24 120 [.ref x0, .int x1, .ref x2, .int x3, .int x4] [] w Q ↔ sm_R X 24 122 [.ref x0, .int x1, .ref x2, .int x3, .int x4] [.int 10] w Q := sm_R_go d24_120 rfl
theorem d24_122 : decode (sm_code 24) 122 = .ok (.goto 4, 3) := by decide +kernel
theorem r24_122 {X : sm_X} {w : sm_W} {Q : Option Value → sm_W → Prop} {x0 : Nat} {x1 : Int32} {x2 : Nat} {x3 : Int32} {x4 : Int32} {s0 : Int32} : sm_R X 24 122 [.ref x0, .int x1, .ref x2, .int x3, .int x4] [.int s0] w Q ↔ sm_R X 24 126 [.ref x0, .int x1, .ref x2, .int x3, .int x4] [.int s0] w Q := sm_R_go d24_122 rfl
theorem d24_125 : decode (sm_code 24) 125 = .ok (.iconst 0, 1) := by decide +kernel
theorem r24_125 {X : sm_X} {w : sm_W} {Q : Option Value → sm_W → Prop} {x0 : Nat} {x1 : Int32} {x2 : Nat} {x3 : Int32} {x4 : Int32} : sm_R X 24 125 [.ref x0, .int x1, .ref x2, .int x3, .int x4] [] w Q ↔ sm_R X 24 126 [.ref x0, .int x1, .ref x2, .int x3, .int x4] [.int 0] w Q := sm_R_go d24_125 rfl
theorem d24_126 : decode (sm_code 24) 126 = .ok (.ireturn, 1) := by decide +kernel
theorem r24_126 {X : sm_X} {w : sm_W} {Q : Option Value → sm_W → Prop} {x0 : Nat} {x1 : Int32} {x2 : Nat} {x3 : Int32} {x4 : Int32} {s0 : Int32} : sm_R X 24 126 [.ref x0, .int x1, .ref x2, .int x3, .int x4] [.int s0] w Q ↔ Q (some (.int s0)) w := sm_q_iret d24_126 rfl
-- GroupLedger.carryOutPayment(LGroupLedger$Transaction;)I
theorem d25_0 : decode (sm_code 25) 0 = .ok (.aload_n 0, 1) := by decide +kernel
theorem r25_0 {X : sm_X} {w : sm_W} {Q : Option Value → sm_W → Prop} {x0 : Nat} {x1 : Nat} : sm_R X 25 0 [.ref x0, .ref x1] [] w Q ↔ sm_R X 25 1 [.ref x0, .ref x1] [.ref x0] w Q := sm_R_go d25_0 rfl
theorem d25_1 : decode (sm_code 25) 1 = .ok (.getfield 10, 3) := by decide +kernel
theorem r25_1 {X : sm_X} {w : sm_W} {Q : Option Value → sm_W → Prop} {x0 : Nat} {x1 : Nat} {s0 : Nat} : sm_R X 25 1 [.ref x0, .ref x1] [.ref s0] w Q ↔ sm_wp (sm_fld 6 0 (sm_at w s0)) (fun v => sm_R X 25 4 [.ref x0, .ref x1] [v] w Q) := sm_q_getf d25_1 rfl (by decide)
theorem d25_4 : decode (sm_code 25) 4 = .ok (.getfield 57, 3) := by decide +kernel
theorem r25_4 {X : sm_X} {w : sm_W} {Q : Option Value → sm_W → Prop} {x0 : Nat} {x1 : Nat} {s0 : Nat} : sm_R X 25 4 [.ref x0, .ref x1] [.ref s0] w Q ↔ sm_wp (sm_fld 0 0 (sm_at w s0)) (fun v => sm_R X 25 7 [.ref x0, .ref x1] [v] w Q) := sm_q_getf d25_4 rfl (by decide)
theorem d25_7 : decode (sm_code 25) 7 = .ok (.aload_n 1, 1) := by decide +kernel
theorem r25_7 {X : sm_X} {w : sm_W} {Q : Option Value → sm_W → Prop} {x0 : Nat} {x1 : Nat} {s0 : Nat} : sm_R X 25 7 [.ref x0, .ref x1] [.ref s0] w Q ↔ sm_R X 25 8 [.ref x0, .ref x1] [.ref x1, .ref s0] w Q := sm_R_go d25_7 rfl
theorem d25_8 : decode (sm_code 25) 8 = .ok (.getfield 145, 3) := by decide +kernel
theorem r25_8 {X : sm_X} {w : sm_W} {Q : Option Value → sm_W → Prop} {x0 : Nat} {x1 : Nat} {s0 : Nat} {s1 : Nat} : sm_R X 25 8 [.ref x0, .ref x1] [.ref s0, .ref s1] w Q ↔ sm_wp (sm_fld 5 1 (sm_at w s0)) (fun v => sm_R X 25 11 [.ref x0, .ref x1] [v, .ref s1] w Q) := sm_q_getf d25_8 rfl (by decide)
theorem d25_11 : decode (sm_code 25) 11 = .ok (.iaload, 1) := by decide +kernel
theorem r25_11 {X : sm_X} {w : sm_W} {Q : Option Value → sm_W → Prop} {x0 : Nat} {x1 : Nat} {s0 : Int32} {s1 : Nat} : sm_R X 25 11 [.ref x0, .ref x1] [.int s0, .ref s1] w Q ↔ sm_wp (sm_ai s0 (sm_get X w s1)) (fun v => sm_R X 25 12 [.ref x0, .ref x1] [.int v] w Q) := sm_q_iald d25_11
theorem d25_12 : decode (sm_code 25) 12 = .ok (.aload_n 1, 1) := by decide +kernel
theorem r25_12 {X : sm_X} {w : sm_W} {Q : Option Value → sm_W → Prop} {x0 : Nat} {x1 : Nat} {s0 : Int32} : sm_R X 25 12 [.ref x0, .ref x1] [.int s0] w Q ↔ sm_R X 25 13 [.ref x0, .ref x1] [.ref x1, .int s0] w Q := sm_R_go d25_12 rfl
theorem d25_13 : decode (sm_code 25) 13 = .ok (.getfield 166, 3) := by decide +kernel
theorem r25_13 {X : sm_X} {w : sm_W} {Q : Option Value → sm_W → Prop} {x0 : Nat} {x1 : Nat} {s0 : Nat} {s1 : Int32} : sm_R X 25 13 [.ref x0, .ref x1] [.ref s0, .int s1] w Q ↔ sm_wp (sm_fld 5 3 (sm_at w s0)) (fun v => sm_R X 25 16 [.ref x0, .ref x1] [v, .int s1] w Q) := sm_q_getf d25_13 rfl (by decide)
theorem d25_16 : decode (sm_code 25) 16 = .ok (.if_icmp .ge 6, 3) := by decide +kernel
theorem r25_16 {X : sm_X} {w : sm_W} {Q : Option Value → sm_W → Prop} {x0 : Nat} {x1 : Nat} {s0 : Int32} {s1 : Int32} : sm_R X 25 16 [.ref x0, .ref x1] [.int s0, .int s1] w Q ↔ (if s0 ≤ s1 then sm_R X 25 22 [.ref x0, .ref x1] [] w Q else sm_R X 25 19 [.ref x0, .ref x1] [] w Q) := sm_q_br d25_16 rfl
theorem d25_19 : decode (sm_code 25) 19 = .ok (.bipush 6, 2) := by decide +kernel
theorem r25_19 {X : sm_X} {w : sm_W} {Q : Option Value → sm_W → Prop} {x0 : Nat} {x1 : Nat} : sm_R X 25 19 [.ref x0, .ref x1] [] w Q ↔ sm_R X 25 21 [.ref x0, .ref x1] [.int 6] w Q := sm_R_go d25_19 rfl
theorem d25_21 : decode (sm_code 25) 21 = .ok (.ireturn, 1) := by decide +kernel
theorem r25_21 {X : sm_X} {w : sm_W} {Q : Option Value → sm_W → Prop} {x0 : Nat} {x1 : Nat} {s0 : Int32} : sm_R X 25 21 [.ref x0, .ref x1] [.int s0] w Q ↔ Q (some (.int s0)) w := sm_q_iret d25_21 rfl
theorem d25_22 : decode (sm_code 25) 22 = .ok (.aload_n 0, 1) := by decide +kernel
theorem r25_22 {X : sm_X} {w : sm_W} {Q : Option Value → sm_W → Prop} {x0 : Nat} {x1 : Nat} : sm_R X 25 22 [.ref x0, .ref x1] [] w Q ↔ sm_R X 25 23 [.ref x0, .ref x1] [.ref x0] w Q := sm_R_go d25_22 rfl
theorem d25_23 : decode (sm_code 25) 23 = .ok (.getfield 10, 3) := by decide +kernel
theorem r25_23 {X : sm_X} {w : sm_W} {Q : Option Value → sm_W → Prop} {x0 : Nat} {x1 : Nat} {s0 : Nat} : sm_R X 25 23 [.ref x0, .ref x1] [.ref s0] w Q ↔ sm_wp (sm_fld 6 0 (sm_at w s0)) (fun v => sm_R X 25 26 [.ref x0, .ref x1] [v] w Q) := sm_q_getf d25_23 rfl (by decide)
theorem d25_26 : decode (sm_code 25) 26 = .ok (.getfield 57, 3) := by decide +kernel
theorem r25_26 {X : sm_X} {w : sm_W} {Q : Option Value → sm_W → Prop} {x0 : Nat} {x1 : Nat} {s0 : Nat} : sm_R X 25 26 [.ref x0, .ref x1] [.ref s0] w Q ↔ sm_wp (sm_fld 0 0 (sm_at w s0)) (fun v => sm_R X 25 29 [.ref x0, .ref x1] [v] w Q) := sm_q_getf d25_26 rfl (by decide)
theorem d25_29 : decode (sm_code 25) 29 = .ok (.aload_n 1, 1) := by decide +kernel
theorem r25_29 {X : sm_X} {w : sm_W} {Q : Option Value → sm_W → Prop} {x0 : Nat} {x1 : Nat} {s0 : Nat} : sm_R X 25 29 [.ref x0, .ref x1] [.ref s0] w Q ↔ sm_R X 25 30 [.ref x0, .ref x1] [.ref x1, .ref s0] w Q := sm_R_go d25_29 rfl
theorem d25_30 : decode (sm_code 25) 30 = .ok (.getfield 145, 3) := by decide +kernel
theorem r25_30 {X : sm_X} {w : sm_W} {Q : Option Value → sm_W → Prop} {x0 : Nat} {x1 : Nat} {s0 : Nat} {s1 : Nat} : sm_R X 25 30 [.ref x0, .ref x1] [.ref s0, .ref s1] w Q ↔ sm_wp (sm_fld 5 1 (sm_at w s0)) (fun v => sm_R X 25 33 [.ref x0, .ref x1] [v, .ref s1] w Q) := sm_q_getf d25_30 rfl (by decide)
theorem d25_33 : decode (sm_code 25) 33 = .ok (.dup2, 1) := by decide +kernel
theorem r25_33 {X : sm_X} {w : sm_W} {Q : Option Value → sm_W → Prop} {x0 : Nat} {x1 : Nat} {s0 : Int32} {s1 : Nat} : sm_R X 25 33 [.ref x0, .ref x1] [.int s0, .ref s1] w Q ↔ sm_R X 25 34 [.ref x0, .ref x1] [.int s0, .ref s1, .int s0, .ref s1] w Q := sm_R_go d25_33 rfl
theorem d25_34 : decode (sm_code 25) 34 = .ok (.iaload, 1) := by decide +kernel
theorem r25_34 {X : sm_X} {w : sm_W} {Q : Option Value → sm_W → Prop} {x0 : Nat} {x1 : Nat} {s0 : Int32} {s1 : Nat} {s2 : Int32} {s3 : Nat} : sm_R X 25 34 [.ref x0, .ref x1] [.int s0, .ref s1, .int s2, .ref s3] w Q ↔ sm_wp (sm_ai s0 (sm_get X w s1)) (fun v => sm_R X 25 35 [.ref x0, .ref x1] [.int v, .int s2, .ref s3] w Q) := sm_q_iald d25_34
theorem d25_35 : decode (sm_code 25) 35 = .ok (.aload_n 1, 1) := by decide +kernel
theorem r25_35 {X : sm_X} {w : sm_W} {Q : Option Value → sm_W → Prop} {x0 : Nat} {x1 : Nat} {s0 : Int32} {s1 : Int32} {s2 : Nat} : sm_R X 25 35 [.ref x0, .ref x1] [.int s0, .int s1, .ref s2] w Q ↔ sm_R X 25 36 [.ref x0, .ref x1] [.ref x1, .int s0, .int s1, .ref s2] w Q := sm_R_go d25_35 rfl
theorem d25_36 : decode (sm_code 25) 36 = .ok (.getfield 166, 3) := by decide +kernel
theorem r25_36 {X : sm_X} {w : sm_W} {Q : Option Value → sm_W → Prop} {x0 : Nat} {x1 : Nat} {s0 : Nat} {s1 : Int32} {s2 : Int32} {s3 : Nat} : sm_R X 25 36 [.ref x0, .ref x1] [.ref s0, .int s1, .int s2, .ref s3] w Q ↔ sm_wp (sm_fld 5 3 (sm_at w s0)) (fun v => sm_R X 25 39 [.ref x0, .ref x1] [v, .int s1, .int s2, .ref s3] w Q) := sm_q_getf d25_36 rfl (by decide)
theorem d25_39 : decode (sm_code 25) 39 = .ok (.isub, 1) := by decide +kernel
theorem r25_39 {X : sm_X} {w : sm_W} {Q : Option Value → sm_W → Prop} {x0 : Nat} {x1 : Nat} {s0 : Int32} {s1 : Int32} {s2 : Int32} {s3 : Nat} : sm_R X 25 39 [.ref x0, .ref x1] [.int s0, .int s1, .int s2, .ref s3] w Q ↔ sm_R X 25 40 [.ref x0, .ref x1] [.int (s1 - s0), .int s2, .ref s3] w Q := sm_R_go d25_39 rfl
theorem d25_40 : decode (sm_code 25) 40 = .ok (.iastore, 1) := by decide +kernel
theorem r25_40 {X : sm_X} {w : sm_W} {Q : Option Value → sm_W → Prop} {x0 : Nat} {x1 : Nat} {s0 : Int32} {s1 : Int32} {s2 : Nat} : sm_R X 25 40 [.ref x0, .ref x1] [.int s0, .int s1, .ref s2] w Q ↔ sm_wp (sm_si s1 s0 (sm_at w s2)) (fun c => sm_R X 25 41 [.ref x0, .ref x1] [] (w.set (s2 - 100) c) Q) := sm_q_iast d25_40
theorem d25_41 : decode (sm_code 25) 41 = .ok (.aload_n 0, 1) := by decide +kernel
theorem r25_41 {X : sm_X} {w : sm_W} {Q : Option Value → sm_W → Prop} {x0 : Nat} {x1 : Nat} : sm_R X 25 41 [.ref x0, .ref x1] [] w Q ↔ sm_R X 25 42 [.ref x0, .ref x1] [.ref x0] w Q := sm_R_go d25_41 rfl
theorem d25_42 : decode (sm_code 25) 42 = .ok (.getfield 10, 3) := by decide +kernel
theorem r25_42 {X : sm_X} {w : sm_W} {Q : Option Value → sm_W → Prop} {x0 : Nat} {x1 : Nat} {s0 : Nat} : sm_R X 25 42 [.ref x0, .ref x1] [.ref s0] w Q ↔ sm_wp (sm_fld 6 0 (sm_at w s0)) (fun v => sm_R X 25 45 [.ref x0, .ref x1] [v] w Q) := sm_q_getf d25_42 rfl (by decide)
theorem d25_45 : decode (sm_code 25) 45 = .ok (.aload_n 1, 1) := by decide +kernel
theorem r25_45 {X : sm_X} {w : sm_W} {Q : Option Value → sm_W → Prop} {x0 : Nat} {x1 : Nat} {s0 : Nat} : sm_R X 25 45 [.ref x0, .ref x1] [.ref s0] w Q ↔ sm_R X 25 46 [.ref x0, .ref x1] [.ref x1, .ref s0] w Q := sm_R_go d25_45 rfl
theorem d25_46 : decode (sm_code 25) 46 = .ok (.getfield 163, 3) := by decide +kernel
theorem r25_46 {X : sm_X} {w : sm_W} {Q : Option Value → sm_W → Prop} {x0 : Nat} {x1 : Nat} {s0 : Nat} {s1 : Nat} : sm_R X 25 46 [.ref x0, .ref x1] [.ref s0, .ref s1] w Q ↔ sm_wp (sm_fld 5 2 (sm_at w s0)) (fun v => sm_R X 25 49 [.ref x0, .ref x1] [v, .ref s1] w Q) := sm_q_getf d25_46 rfl (by decide)
theorem d25_49 : decode (sm_code 25) 49 = .ok (.aload_n 1, 1) := by decide +kernel
theorem r25_49 {X : sm_X} {w : sm_W} {Q : Option Value → sm_W → Prop} {x0 : Nat} {x1 : Nat} {s0 : Int32} {s1 : Nat} : sm_R X 25 49 [.ref x0, .ref x1] [.int s0, .ref s1] w Q ↔ sm_R X 25 50 [.ref x0, .ref x1] [.ref x1, .int s0, .ref s1] w Q := sm_R_go d25_49 rfl
theorem d25_50 : decode (sm_code 25) 50 = .ok (.getfield 166, 3) := by decide +kernel
theorem r25_50 {X : sm_X} {w : sm_W} {Q : Option Value → sm_W → Prop} {x0 : Nat} {x1 : Nat} {s0 : Nat} {s1 : Int32} {s2 : Nat} : sm_R X 25 50 [.ref x0, .ref x1] [.ref s0, .int s1, .ref s2] w Q ↔ sm_wp (sm_fld 5 3 (sm_at w s0)) (fun v => sm_R X 25 53 [.ref x0, .ref x1] [v, .int s1, .ref s2] w Q) := sm_q_getf d25_50 rfl (by decide)
theorem d25_53 : decode (sm_code 25) 53 = .ok (.invokevirtual 54, 3) := by decide +kernel
theorem r25_53 {X : sm_X} {w : sm_W} {Q : Option Value → sm_W → Prop} {x0 : Nat} {x1 : Nat} {s0 : Int32} {s1 : Int32} {s2 : Nat} : sm_R X 25 53 [.ref x0, .ref x1] [.int s0, .int s1, .ref s2] w Q ↔ (sm_cN (sm_at w s2) = some 0 ∧ sm_R X 9 0 [.ref s2, .int s1, .int s0] [] w (fun v w => sm_R X 25 56 [.ref x0, .ref x1] (v.toList ++ []) w Q)) := sm_q_vir (k := 9) (as := [.ref s2, .int s1, .int s0]) (rest := []) d25_53 rfl rfl rfl rfl rfl
theorem d25_56 : decode (sm_code 25) 56 = .ok (.ifCond .ne 6, 3) := by decide +kernel
theorem r25_56 {X : sm_X} {w : sm_W} {Q : Option Value → sm_W → Prop} {x0 : Nat} {x1 : Nat} {s0 : Int32} : sm_R X 25 56 [.ref x0, .ref x1] [.int s0] w Q ↔ (if s0 = 0 then sm_R X 25 59 [.ref x0, .ref x1] [] w Q else sm_R X 25 62 [.ref x0, .ref x1] [] w Q) := sm_q_br d25_56 rfl
theorem d25_59 : decode (sm_code 25) 59 = .ok (.bipush 7, 2) := by decide +kernel
theorem r25_59 {X : sm_X} {w : sm_W} {Q : Option Value → sm_W → Prop} {x0 : Nat} {x1 : Nat} : sm_R X 25 59 [.ref x0, .ref x1] [] w Q ↔ sm_R X 25 61 [.ref x0, .ref x1] [.int 7] w Q := sm_R_go d25_59 rfl
theorem d25_61 : decode (sm_code 25) 61 = .ok (.ireturn, 1) := by decide +kernel
theorem r25_61 {X : sm_X} {w : sm_W} {Q : Option Value → sm_W → Prop} {x0 : Nat} {x1 : Nat} {s0 : Int32} : sm_R X 25 61 [.ref x0, .ref x1] [.int s0] w Q ↔ Q (some (.int s0)) w := sm_q_iret d25_61 rfl
theorem d25_62 : decode (sm_code 25) 62 = .ok (.aload_n 0, 1) := by decide +kernel
theorem r25_62 {X : sm_X} {w : sm_W} {Q : Option Value → sm_W → Prop} {x0 : Nat} {x1 : Nat} : sm_R X 25 62 [.ref x0, .ref x1] [] w Q ↔ sm_R X 25 63 [.ref x0, .ref x1] [.ref x0] w Q := sm_R_go d25_62 rfl
theorem d25_63 : decode (sm_code 25) 63 = .ok (.getfield 10, 3) := by decide +kernel
theorem r25_63 {X : sm_X} {w : sm_W} {Q : Option Value → sm_W → Prop} {x0 : Nat} {x1 : Nat} {s0 : Nat} : sm_R X 25 63 [.ref x0, .ref x1] [.ref s0] w Q ↔ sm_wp (sm_fld 6 0 (sm_at w s0)) (fun v => sm_R X 25 66 [.ref x0, .ref x1] [v] w Q) := sm_q_getf d25_63 rfl (by decide)
theorem d25_66 : decode (sm_code 25) 66 = .ok (.getfield 57, 3) := by decide +kernel
theorem r25_66 {X : sm_X} {w : sm_W} {Q : Option Value → sm_W → Prop} {x0 : Nat} {x1 : Nat} {s0 : Nat} : sm_R X 25 66 [.ref x0, .ref x1] [.ref s0] w Q ↔ sm_wp (sm_fld 0 0 (sm_at w s0)) (fun v => sm_R X 25 69 [.ref x0, .ref x1] [v] w Q) := sm_q_getf d25_66 rfl (by decide)
theorem d25_69 : decode (sm_code 25) 69 = .ok (.aload_n 1, 1) := by decide +kernel
theorem r25_69 {X : sm_X} {w : sm_W} {Q : Option Value → sm_W → Prop} {x0 : Nat} {x1 : Nat} {s0 : Nat} : sm_R X 25 69 [.ref x0, .ref x1] [.ref s0] w Q ↔ sm_R X 25 70 [.ref x0, .ref x1] [.ref x1, .ref s0] w Q := sm_R_go d25_69 rfl
theorem d25_70 : decode (sm_code 25) 70 = .ok (.getfield 163, 3) := by decide +kernel
theorem r25_70 {X : sm_X} {w : sm_W} {Q : Option Value → sm_W → Prop} {x0 : Nat} {x1 : Nat} {s0 : Nat} {s1 : Nat} : sm_R X 25 70 [.ref x0, .ref x1] [.ref s0, .ref s1] w Q ↔ sm_wp (sm_fld 5 2 (sm_at w s0)) (fun v => sm_R X 25 73 [.ref x0, .ref x1] [v, .ref s1] w Q) := sm_q_getf d25_70 rfl (by decide)
theorem d25_73 : decode (sm_code 25) 73 = .ok (.dup2, 1) := by decide +kernel
theorem r25_73 {X : sm_X} {w : sm_W} {Q : Option Value → sm_W → Prop} {x0 : Nat} {x1 : Nat} {s0 : Int32} {s1 : Nat} : sm_R X 25 73 [.ref x0, .ref x1] [.int s0, .ref s1] w Q ↔ sm_R X 25 74 [.ref x0, .ref x1] [.int s0, .ref s1, .int s0, .ref s1] w Q := sm_R_go d25_73 rfl
theorem d25_74 : decode (sm_code 25) 74 = .ok (.iaload, 1) := by decide +kernel
theorem r25_74 {X : sm_X} {w : sm_W} {Q : Option Value → sm_W → Prop} {x0 : Nat} {x1 : Nat} {s0 : Int32} {s1 : Nat} {s2 : Int32} {s3 : Nat} : sm_R X 25 74 [.ref x0, .ref x1] [.int s0, .ref s1, .int s2, .ref s3] w Q ↔ sm_wp (sm_ai s0 (sm_get X w s1)) (fun v => sm_R X 25 75 [.ref x0, .ref x1] [.int v, .int s2, .ref s3] w Q) := sm_q_iald d25_74
theorem d25_75 : decode (sm_code 25) 75 = .ok (.aload_n 1, 1) := by decide +kernel
theorem r25_75 {X : sm_X} {w : sm_W} {Q : Option Value → sm_W → Prop} {x0 : Nat} {x1 : Nat} {s0 : Int32} {s1 : Int32} {s2 : Nat} : sm_R X 25 75 [.ref x0, .ref x1] [.int s0, .int s1, .ref s2] w Q ↔ sm_R X 25 76 [.ref x0, .ref x1] [.ref x1, .int s0, .int s1, .ref s2] w Q := sm_R_go d25_75 rfl
theorem d25_76 : decode (sm_code 25) 76 = .ok (.getfield 166, 3) := by decide +kernel
theorem r25_76 {X : sm_X} {w : sm_W} {Q : Option Value → sm_W → Prop} {x0 : Nat} {x1 : Nat} {s0 : Nat} {s1 : Int32} {s2 : Int32} {s3 : Nat} : sm_R X 25 76 [.ref x0, .ref x1] [.ref s0, .int s1, .int s2, .ref s3] w Q ↔ sm_wp (sm_fld 5 3 (sm_at w s0)) (fun v => sm_R X 25 79 [.ref x0, .ref x1] [v, .int s1, .int s2, .ref s3] w Q) := sm_q_getf d25_76 rfl (by decide)
theorem d25_79 : decode (sm_code 25) 79 = .ok (.iadd, 1) := by decide +kernel
theorem r25_79 {X : sm_X} {w : sm_W} {Q : Option Value → sm_W → Prop} {x0 : Nat} {x1 : Nat} {s0 : Int32} {s1 : Int32} {s2 : Int32} {s3 : Nat} : sm_R X 25 79 [.ref x0, .ref x1] [.int s0, .int s1, .int s2, .ref s3] w Q ↔ sm_R X 25 80 [.ref x0, .ref x1] [.int (s1 + s0), .int s2, .ref s3] w Q := sm_R_go d25_79 rfl
theorem d25_80 : decode (sm_code 25) 80 = .ok (.iastore, 1) := by decide +kernel
theorem r25_80 {X : sm_X} {w : sm_W} {Q : Option Value → sm_W → Prop} {x0 : Nat} {x1 : Nat} {s0 : Int32} {s1 : Int32} {s2 : Nat} : sm_R X 25 80 [.ref x0, .ref x1] [.int s0, .int s1, .ref s2] w Q ↔ sm_wp (sm_si s1 s0 (sm_at w s2)) (fun c => sm_R X 25 81 [.ref x0, .ref x1] [] (w.set (s2 - 100) c) Q) := sm_q_iast d25_80
theorem d25_81 : decode (sm_code 25) 81 = .ok (.iconst 0, 1) := by decide +kernel
theorem r25_81 {X : sm_X} {w : sm_W} {Q : Option Value → sm_W → Prop} {x0 : Nat} {x1 : Nat} : sm_R X 25 81 [.ref x0, .ref x1] [] w Q ↔ sm_R X 25 82 [.ref x0, .ref x1] [.int 0] w Q := sm_R_go d25_81 rfl
theorem d25_82 : decode (sm_code 25) 82 = .ok (.ireturn, 1) := by decide +kernel
theorem r25_82 {X : sm_X} {w : sm_W} {Q : Option Value → sm_W → Prop} {x0 : Nat} {x1 : Nat} {s0 : Int32} : sm_R X 25 82 [.ref x0, .ref x1] [.int s0] w Q ↔ Q (some (.int s0)) w := sm_q_iret d25_82 rfl
-- GroupLedger.carryOutCall(LGroupLedger$Transaction;I)I
theorem d26_0 : decode (sm_code 26) 0 = .ok (.aload_n 0, 1) := by decide +kernel
theorem r26_0 {X : sm_X} {w : sm_W} {Q : Option Value → sm_W → Prop} {x0 : Nat} {x1 : Nat} {x2 : Int32} : sm_R X 26 0 [.ref x0, .ref x1, .int x2, sm_J, sm_J, sm_J] [] w Q ↔ sm_R X 26 1 [.ref x0, .ref x1, .int x2, sm_J, sm_J, sm_J] [.ref x0] w Q := sm_R_go d26_0 rfl
theorem d26_1 : decode (sm_code 26) 1 = .ok (.getfield 10, 3) := by decide +kernel
theorem r26_1 {X : sm_X} {w : sm_W} {Q : Option Value → sm_W → Prop} {x0 : Nat} {x1 : Nat} {x2 : Int32} {s0 : Nat} : sm_R X 26 1 [.ref x0, .ref x1, .int x2, sm_J, sm_J, sm_J] [.ref s0] w Q ↔ sm_wp (sm_fld 6 0 (sm_at w s0)) (fun v => sm_R X 26 4 [.ref x0, .ref x1, .int x2, sm_J, sm_J, sm_J] [v] w Q) := sm_q_getf d26_1 rfl (by decide)
theorem d26_4 : decode (sm_code 26) 4 = .ok (.aload_n 1, 1) := by decide +kernel
theorem r26_4 {X : sm_X} {w : sm_W} {Q : Option Value → sm_W → Prop} {x0 : Nat} {x1 : Nat} {x2 : Int32} {s0 : Nat} : sm_R X 26 4 [.ref x0, .ref x1, .int x2, sm_J, sm_J, sm_J] [.ref s0] w Q ↔ sm_R X 26 5 [.ref x0, .ref x1, .int x2, sm_J, sm_J, sm_J] [.ref x1, .ref s0] w Q := sm_R_go d26_4 rfl
theorem d26_5 : decode (sm_code 26) 5 = .ok (.getfield 169, 3) := by decide +kernel
theorem r26_5 {X : sm_X} {w : sm_W} {Q : Option Value → sm_W → Prop} {x0 : Nat} {x1 : Nat} {x2 : Int32} {s0 : Nat} {s1 : Nat} : sm_R X 26 5 [.ref x0, .ref x1, .int x2, sm_J, sm_J, sm_J] [.ref s0, .ref s1] w Q ↔ sm_wp (sm_fld 5 4 (sm_at w s0)) (fun v => sm_R X 26 8 [.ref x0, .ref x1, .int x2, sm_J, sm_J, sm_J] [v, .ref s1] w Q) := sm_q_getf d26_5 rfl (by decide)
theorem d26_8 : decode (sm_code 26) 8 = .ok (.aload_n 1, 1) := by decide +kernel
theorem r26_8 {X : sm_X} {w : sm_W} {Q : Option Value → sm_W → Prop} {x0 : Nat} {x1 : Nat} {x2 : Int32} {s0 : Int32} {s1 : Nat} : sm_R X 26 8 [.ref x0, .ref x1, .int x2, sm_J, sm_J, sm_J] [.int s0, .ref s1] w Q ↔ sm_R X 26 9 [.ref x0, .ref x1, .int x2, sm_J, sm_J, sm_J] [.ref x1, .int s0, .ref s1] w Q := sm_R_go d26_8 rfl
theorem d26_9 : decode (sm_code 26) 9 = .ok (.getfield 145, 3) := by decide +kernel
theorem r26_9 {X : sm_X} {w : sm_W} {Q : Option Value → sm_W → Prop} {x0 : Nat} {x1 : Nat} {x2 : Int32} {s0 : Nat} {s1 : Int32} {s2 : Nat} : sm_R X 26 9 [.ref x0, .ref x1, .int x2, sm_J, sm_J, sm_J] [.ref s0, .int s1, .ref s2] w Q ↔ sm_wp (sm_fld 5 1 (sm_at w s0)) (fun v => sm_R X 26 12 [.ref x0, .ref x1, .int x2, sm_J, sm_J, sm_J] [v, .int s1, .ref s2] w Q) := sm_q_getf d26_9 rfl (by decide)
theorem d26_12 : decode (sm_code 26) 12 = .ok (.invokevirtual 121, 3) := by decide +kernel
theorem r26_12 {X : sm_X} {w : sm_W} {Q : Option Value → sm_W → Prop} {x0 : Nat} {x1 : Nat} {x2 : Int32} {s0 : Int32} {s1 : Int32} {s2 : Nat} : sm_R X 26 12 [.ref x0, .ref x1, .int x2, sm_J, sm_J, sm_J] [.int s0, .int s1, .ref s2] w Q ↔ (sm_cN (sm_at w s2) = some 0 ∧ sm_R X 27 0 [.ref s2, .int s1, .int s0] [] w (fun v w => sm_R X 26 15 [.ref x0, .ref x1, .int x2, sm_J, sm_J, sm_J] (v.toList ++ []) w Q)) := sm_q_vir (k := 27) (as := [.ref s2, .int s1, .int s0]) (rest := []) d26_12 rfl rfl rfl rfl rfl
theorem d26_15 : decode (sm_code 26) 15 = .ok (.istore_n 3, 1) := by decide +kernel
theorem r26_15 {X : sm_X} {w : sm_W} {Q : Option Value → sm_W → Prop} {x0 : Nat} {x1 : Nat} {x2 : Int32} {s0 : Int32} : sm_R X 26 15 [.ref x0, .ref x1, .int x2, sm_J, sm_J, sm_J] [.int s0] w Q ↔ sm_R X 26 16 [.ref x0, .ref x1, .int x2, .int s0, sm_J, sm_J] [] w Q := sm_R_go d26_15 rfl
theorem d26_16 : decode (sm_code 26) 16 = .ok (.aload_n 1, 1) := by decide +kernel
theorem r26_16 {X : sm_X} {w : sm_W} {Q : Option Value → sm_W → Prop} {x0 : Nat} {x1 : Nat} {x2 : Int32} {x3 : Int32} : sm_R X 26 16 [.ref x0, .ref x1, .int x2, .int x3, sm_J, sm_J] [] w Q ↔ sm_R X 26 17 [.ref x0, .ref x1, .int x2, .int x3, sm_J, sm_J] [.ref x1] w Q := sm_R_go d26_16 rfl
theorem d26_17 : decode (sm_code 26) 17 = .ok (.getfield 172, 3) := by decide +kernel
theorem r26_17 {X : sm_X} {w : sm_W} {Q : Option Value → sm_W → Prop} {x0 : Nat} {x1 : Nat} {x2 : Int32} {x3 : Int32} {s0 : Nat} : sm_R X 26 17 [.ref x0, .ref x1, .int x2, .int x3, sm_J, sm_J] [.ref s0] w Q ↔ sm_wp (sm_fld 5 5 (sm_at w s0)) (fun v => sm_R X 26 20 [.ref x0, .ref x1, .int x2, .int x3, sm_J, sm_J] [v] w Q) := sm_q_getf d26_17 rfl (by decide)
theorem d26_20 : decode (sm_code 26) 20 = .ok (.iconst 1, 1) := by decide +kernel
theorem r26_20 {X : sm_X} {w : sm_W} {Q : Option Value → sm_W → Prop} {x0 : Nat} {x1 : Nat} {x2 : Int32} {x3 : Int32} {s0 : Int32} : sm_R X 26 20 [.ref x0, .ref x1, .int x2, .int x3, sm_J, sm_J] [.int s0] w Q ↔ sm_R X 26 21 [.ref x0, .ref x1, .int x2, .int x3, sm_J, sm_J] [.int 1, .int s0] w Q := sm_R_go d26_20 rfl
theorem d26_21 : decode (sm_code 26) 21 = .ok (.if_icmp .ne 7, 3) := by decide +kernel
theorem r26_21 {X : sm_X} {w : sm_W} {Q : Option Value → sm_W → Prop} {x0 : Nat} {x1 : Nat} {x2 : Int32} {x3 : Int32} {s0 : Int32} {s1 : Int32} : sm_R X 26 21 [.ref x0, .ref x1, .int x2, .int x3, sm_J, sm_J] [.int s0, .int s1] w Q ↔ (if s1 = s0 then sm_R X 26 24 [.ref x0, .ref x1, .int x2, .int x3, sm_J, sm_J] [] w Q else sm_R X 26 28 [.ref x0, .ref x1, .int x2, .int x3, sm_J, sm_J] [] w Q) := sm_q_br d26_21 rfl
theorem d26_24 : decode (sm_code 26) 24 = .ok (.iload_n 3, 1) := by decide +kernel
theorem r26_24 {X : sm_X} {w : sm_W} {Q : Option Value → sm_W → Prop} {x0 : Nat} {x1 : Nat} {x2 : Int32} {x3 : Int32} : sm_R X 26 24 [.ref x0, .ref x1, .int x2, .int x3, sm_J, sm_J] [] w Q ↔ sm_R X 26 25 [.ref x0, .ref x1, .int x2, .int x3, sm_J, sm_J] [.int x3] w Q := sm_R_go d26_24 rfl
theorem d26_25 : decode (sm_code 26) 25 = .ok (.ifCond .ne 15, 3) := by decide +kernel
theorem r26_25 {X : sm_X} {w : sm_W} {Q : Option Value → sm_W → Prop} {x0 : Nat} {x1 : Nat} {x2 : Int32} {x3 : Int32} {s0 : Int32} : sm_R X 26 25 [.ref x0, .ref x1, .int x2, .int x3, sm_J, sm_J] [.int s0] w Q ↔ (if s0 = 0 then sm_R X 26 28 [.ref x0, .ref x1, .int x2, .int x3, sm_J, sm_J] [] w Q else sm_R X 26 40 [.ref x0, .ref x1, .int x2, .int x3, sm_J, sm_J] [] w Q) := sm_q_br d26_25 rfl
theorem d26_28 : decode (sm_code 26) 28 = .ok (.aload_n 1, 1) := by decide +kernel
theorem r26_28 {X : sm_X} {w : sm_W} {Q : Option Value → sm_W → Prop} {x0 : Nat} {x1 : Nat} {x2 : Int32} {x3 : Int32} : sm_R X 26 28 [.ref x0, .ref x1, .int x2, .int x3, sm_J, sm_J] [] w Q ↔ sm_R X 26 29 [.ref x0, .ref x1, .int x2, .int x3, sm_J, sm_J] [.ref x1] w Q := sm_R_go d26_28 rfl
theorem d26_29 : decode (sm_code 26) 29 = .ok (.getfield 172, 3) := by decide +kernel
theorem r26_29 {X : sm_X} {w : sm_W} {Q : Option Value → sm_W → Prop} {x0 : Nat} {x1 : Nat} {x2 : Int32} {x3 : Int32} {s0 : Nat} : sm_R X 26 29 [.ref x0, .ref x1, .int x2, .int x3, sm_J, sm_J] [.ref s0] w Q ↔ sm_wp (sm_fld 5 5 (sm_at w s0)) (fun v => sm_R X 26 32 [.ref x0, .ref x1, .int x2, .int x3, sm_J, sm_J] [v] w Q) := sm_q_getf d26_29 rfl (by decide)
theorem d26_32 : decode (sm_code 26) 32 = .ok (.iconst 2, 1) := by decide +kernel
theorem r26_32 {X : sm_X} {w : sm_W} {Q : Option Value → sm_W → Prop} {x0 : Nat} {x1 : Nat} {x2 : Int32} {x3 : Int32} {s0 : Int32} : sm_R X 26 32 [.ref x0, .ref x1, .int x2, .int x3, sm_J, sm_J] [.int s0] w Q ↔ sm_R X 26 33 [.ref x0, .ref x1, .int x2, .int x3, sm_J, sm_J] [.int 2, .int s0] w Q := sm_R_go d26_32 rfl
theorem d26_33 : decode (sm_code 26) 33 = .ok (.if_icmp .ne 10, 3) := by decide +kernel
theorem r26_33 {X : sm_X} {w : sm_W} {Q : Option Value → sm_W → Prop} {x0 : Nat} {x1 : Nat} {x2 : Int32} {x3 : Int32} {s0 : Int32} {s1 : Int32} : sm_R X 26 33 [.ref x0, .ref x1, .int x2, .int x3, sm_J, sm_J] [.int s0, .int s1] w Q ↔ (if s1 = s0 then sm_R X 26 36 [.ref x0, .ref x1, .int x2, .int x3, sm_J, sm_J] [] w Q else sm_R X 26 43 [.ref x0, .ref x1, .int x2, .int x3, sm_J, sm_J] [] w Q) := sm_q_br d26_33 rfl
theorem d26_36 : decode (sm_code 26) 36 = .ok (.iload_n 3, 1) := by decide +kernel
theorem r26_36 {X : sm_X} {w : sm_W} {Q : Option Value → sm_W → Prop} {x0 : Nat} {x1 : Nat} {x2 : Int32} {x3 : Int32} : sm_R X 26 36 [.ref x0, .ref x1, .int x2, .int x3, sm_J, sm_J] [] w Q ↔ sm_R X 26 37 [.ref x0, .ref x1, .int x2, .int x3, sm_J, sm_J] [.int x3] w Q := sm_R_go d26_36 rfl
theorem d26_37 : decode (sm_code 26) 37 = .ok (.ifCond .ne 6, 3) := by decide +kernel
theorem r26_37 {X : sm_X} {w : sm_W} {Q : Option Value → sm_W → Prop} {x0 : Nat} {x1 : Nat} {x2 : Int32} {x3 : Int32} {s0 : Int32} : sm_R X 26 37 [.ref x0, .ref x1, .int x2, .int x3, sm_J, sm_J] [.int s0] w Q ↔ (if s0 = 0 then sm_R X 26 40 [.ref x0, .ref x1, .int x2, .int x3, sm_J, sm_J] [] w Q else sm_R X 26 43 [.ref x0, .ref x1, .int x2, .int x3, sm_J, sm_J] [] w Q) := sm_q_br d26_37 rfl
theorem d26_40 : decode (sm_code 26) 40 = .ok (.bipush 8, 2) := by decide +kernel
theorem r26_40 {X : sm_X} {w : sm_W} {Q : Option Value → sm_W → Prop} {x0 : Nat} {x1 : Nat} {x2 : Int32} {x3 : Int32} : sm_R X 26 40 [.ref x0, .ref x1, .int x2, .int x3, sm_J, sm_J] [] w Q ↔ sm_R X 26 42 [.ref x0, .ref x1, .int x2, .int x3, sm_J, sm_J] [.int 8] w Q := sm_R_go d26_40 rfl
theorem d26_42 : decode (sm_code 26) 42 = .ok (.ireturn, 1) := by decide +kernel
theorem r26_42 {X : sm_X} {w : sm_W} {Q : Option Value → sm_W → Prop} {x0 : Nat} {x1 : Nat} {x2 : Int32} {x3 : Int32} {s0 : Int32} : sm_R X 26 42 [.ref x0, .ref x1, .int x2, .int x3, sm_J, sm_J] [.int s0] w Q ↔ Q (some (.int s0)) w := sm_q_iret d26_42 rfl
theorem d26_43 : decode (sm_code 26) 43 = .ok (.aload_n 1, 1) := by decide +kernel
theorem r26_43 {X : sm_X} {w : sm_W} {Q : Option Value → sm_W → Prop} {x0 : Nat} {x1 : Nat} {x2 : Int32} {x3 : Int32} : sm_R X 26 43 [.ref x0, .ref x1, .int x2, .int x3, sm_J, sm_J] [] w Q ↔ sm_R X 26 44 [.ref x0, .ref x1, .int x2, .int x3, sm_J, sm_J] [.ref x1] w Q := sm_R_go d26_43 rfl
theorem d26_44 : decode (sm_code 26) 44 = .ok (.getfield 172, 3) := by decide +kernel
theorem r26_44 {X : sm_X} {w : sm_W} {Q : Option Value → sm_W → Prop} {x0 : Nat} {x1 : Nat} {x2 : Int32} {x3 : Int32} {s0 : Nat} : sm_R X 26 44 [.ref x0, .ref x1, .int x2, .int x3, sm_J, sm_J] [.ref s0] w Q ↔ sm_wp (sm_fld 5 5 (sm_at w s0)) (fun v => sm_R X 26 47 [.ref x0, .ref x1, .int x2, .int x3, sm_J, sm_J] [v] w Q) := sm_q_getf d26_44 rfl (by decide)
theorem d26_47 : decode (sm_code 26) 47 = .ok (.iconst 1, 1) := by decide +kernel
theorem r26_47 {X : sm_X} {w : sm_W} {Q : Option Value → sm_W → Prop} {x0 : Nat} {x1 : Nat} {x2 : Int32} {x3 : Int32} {s0 : Int32} : sm_R X 26 47 [.ref x0, .ref x1, .int x2, .int x3, sm_J, sm_J] [.int s0] w Q ↔ sm_R X 26 48 [.ref x0, .ref x1, .int x2, .int x3, sm_J, sm_J] [.int 1, .int s0] w Q := sm_R_go d26_47 rfl
theorem d26_48 : decode (sm_code 26) 48 = .ok (.if_icmp .ne 18, 3) := by decide +kernel
theorem r26_48 {X : sm_X} {w : sm_W} {Q : Option Value → sm_W → Prop} {x0 : Nat} {x1 : Nat} {x2 : Int32} {x3 : Int32} {s0 : Int32} {s1 : Int32} : sm_R X 26 48 [.ref x0, .ref x1, .int x2, .int x3, sm_J, sm_J] [.int s0, .int s1] w Q ↔ (if s1 = s0 then sm_R X 26 51 [.ref x0, .ref x1, .int x2, .int x3, sm_J, sm_J] [] w Q else sm_R X 26 66 [.ref x0, .ref x1, .int x2, .int x3, sm_J, sm_J] [] w Q) := sm_q_br d26_48 rfl
theorem d26_51 : decode (sm_code 26) 51 = .ok (.aload_n 0, 1) := by decide +kernel
theorem r26_51 {X : sm_X} {w : sm_W} {Q : Option Value → sm_W → Prop} {x0 : Nat} {x1 : Nat} {x2 : Int32} {x3 : Int32} : sm_R X 26 51 [.ref x0, .ref x1, .int x2, .int x3, sm_J, sm_J] [] w Q ↔ sm_R X 26 52 [.ref x0, .ref x1, .int x2, .int x3, sm_J, sm_J] [.ref x0] w Q := sm_R_go d26_51 rfl
theorem d26_52 : decode (sm_code 26) 52 = .ok (.getfield 10, 3) := by decide +kernel
theorem r26_52 {X : sm_X} {w : sm_W} {Q : Option Value → sm_W → Prop} {x0 : Nat} {x1 : Nat} {x2 : Int32} {x3 : Int32} {s0 : Nat} : sm_R X 26 52 [.ref x0, .ref x1, .int x2, .int x3, sm_J, sm_J] [.ref s0] w Q ↔ sm_wp (sm_fld 6 0 (sm_at w s0)) (fun v => sm_R X 26 55 [.ref x0, .ref x1, .int x2, .int x3, sm_J, sm_J] [v] w Q) := sm_q_getf d26_52 rfl (by decide)
theorem d26_55 : decode (sm_code 26) 55 = .ok (.aload_n 1, 1) := by decide +kernel
theorem r26_55 {X : sm_X} {w : sm_W} {Q : Option Value → sm_W → Prop} {x0 : Nat} {x1 : Nat} {x2 : Int32} {x3 : Int32} {s0 : Nat} : sm_R X 26 55 [.ref x0, .ref x1, .int x2, .int x3, sm_J, sm_J] [.ref s0] w Q ↔ sm_R X 26 56 [.ref x0, .ref x1, .int x2, .int x3, sm_J, sm_J] [.ref x1, .ref s0] w Q := sm_R_go d26_55 rfl
theorem d26_56 : decode (sm_code 26) 56 = .ok (.getfield 169, 3) := by decide +kernel
theorem r26_56 {X : sm_X} {w : sm_W} {Q : Option Value → sm_W → Prop} {x0 : Nat} {x1 : Nat} {x2 : Int32} {x3 : Int32} {s0 : Nat} {s1 : Nat} : sm_R X 26 56 [.ref x0, .ref x1, .int x2, .int x3, sm_J, sm_J] [.ref s0, .ref s1] w Q ↔ sm_wp (sm_fld 5 4 (sm_at w s0)) (fun v => sm_R X 26 59 [.ref x0, .ref x1, .int x2, .int x3, sm_J, sm_J] [v, .ref s1] w Q) := sm_q_getf d26_56 rfl (by decide)
theorem d26_59 : decode (sm_code 26) 59 = .ok (.aload_n 1, 1) := by decide +kernel
theorem r26_59 {X : sm_X} {w : sm_W} {Q : Option Value → sm_W → Prop} {x0 : Nat} {x1 : Nat} {x2 : Int32} {x3 : Int32} {s0 : Int32} {s1 : Nat} : sm_R X 26 59 [.ref x0, .ref x1, .int x2, .int x3, sm_J, sm_J] [.int s0, .ref s1] w Q ↔ sm_R X 26 60 [.ref x0, .ref x1, .int x2, .int x3, sm_J, sm_J] [.ref x1, .int s0, .ref s1] w Q := sm_R_go d26_59 rfl
theorem d26_60 : decode (sm_code 26) 60 = .ok (.getfield 145, 3) := by decide +kernel
theorem r26_60 {X : sm_X} {w : sm_W} {Q : Option Value → sm_W → Prop} {x0 : Nat} {x1 : Nat} {x2 : Int32} {x3 : Int32} {s0 : Nat} {s1 : Int32} {s2 : Nat} : sm_R X 26 60 [.ref x0, .ref x1, .int x2, .int x3, sm_J, sm_J] [.ref s0, .int s1, .ref s2] w Q ↔ sm_wp (sm_fld 5 1 (sm_at w s0)) (fun v => sm_R X 26 63 [.ref x0, .ref x1, .int x2, .int x3, sm_J, sm_J] [v, .int s1, .ref s2] w Q) := sm_q_getf d26_60 rfl (by decide)
theorem d26_63 : decode (sm_code 26) 63 = .ok (.invokevirtual 175, 3) := by decide +kernel
theorem r26_63 {X : sm_X} {w : sm_W} {Q : Option Value → sm_W → Prop} {x0 : Nat} {x1 : Nat} {x2 : Int32} {x3 : Int32} {s0 : Int32} {s1 : Int32} {s2 : Nat} : sm_R X 26 63 [.ref x0, .ref x1, .int x2, .int x3, sm_J, sm_J] [.int s0, .int s1, .ref s2] w Q ↔ (sm_cN (sm_at w s2) = some 0 ∧ sm_R X 28 0 [.ref s2, .int s1, .int s0, sm_J] [] w (fun v w => sm_R X 26 66 [.ref x0, .ref x1, .int x2, .int x3, sm_J, sm_J] (v.toList ++ []) w Q)) := sm_q_vir (k := 28) (as := [.ref s2, .int s1, .int s0]) (rest := []) d26_63 rfl rfl rfl rfl rfl
theorem d26_66 : decode (sm_code 26) 66 = .ok (.aload_n 0, 1) := by decide +kernel
theorem r26_66 {X : sm_X} {w : sm_W} {Q : Option Value → sm_W → Prop} {x0 : Nat} {x1 : Nat} {x2 : Int32} {x3 : Int32} : sm_R X 26 66 [.ref x0, .ref x1, .int x2, .int x3, sm_J, sm_J] [] w Q ↔ sm_R X 26 67 [.ref x0, .ref x1, .int x2, .int x3, sm_J, sm_J] [.ref x0] w Q := sm_R_go d26_66 rfl
theorem d26_67 : decode (sm_code 26) 67 = .ok (.getfield 26, 3) := by decide +kernel
theorem r26_67 {X : sm_X} {w : sm_W} {Q : Option Value → sm_W → Prop} {x0 : Nat} {x1 : Nat} {x2 : Int32} {x3 : Int32} {s0 : Nat} : sm_R X 26 67 [.ref x0, .ref x1, .int x2, .int x3, sm_J, sm_J] [.ref s0] w Q ↔ sm_wp (sm_fld 6 3 (sm_at w s0)) (fun v => sm_R X 26 70 [.ref x0, .ref x1, .int x2, .int x3, sm_J, sm_J] [v] w Q) := sm_q_getf d26_67 rfl (by decide)
theorem d26_70 : decode (sm_code 26) 70 = .ok (.aload_n 1, 1) := by decide +kernel
theorem r26_70 {X : sm_X} {w : sm_W} {Q : Option Value → sm_W → Prop} {x0 : Nat} {x1 : Nat} {x2 : Int32} {x3 : Int32} {s0 : Nat} : sm_R X 26 70 [.ref x0, .ref x1, .int x2, .int x3, sm_J, sm_J] [.ref s0] w Q ↔ sm_R X 26 71 [.ref x0, .ref x1, .int x2, .int x3, sm_J, sm_J] [.ref x1, .ref s0] w Q := sm_R_go d26_70 rfl
theorem d26_71 : decode (sm_code 26) 71 = .ok (.getfield 169, 3) := by decide +kernel
theorem r26_71 {X : sm_X} {w : sm_W} {Q : Option Value → sm_W → Prop} {x0 : Nat} {x1 : Nat} {x2 : Int32} {x3 : Int32} {s0 : Nat} {s1 : Nat} : sm_R X 26 71 [.ref x0, .ref x1, .int x2, .int x3, sm_J, sm_J] [.ref s0, .ref s1] w Q ↔ sm_wp (sm_fld 5 4 (sm_at w s0)) (fun v => sm_R X 26 74 [.ref x0, .ref x1, .int x2, .int x3, sm_J, sm_J] [v, .ref s1] w Q) := sm_q_getf d26_71 rfl (by decide)
theorem d26_74 : decode (sm_code 26) 74 = .ok (.aaload, 1) := by decide +kernel
theorem r26_74 {X : sm_X} {w : sm_W} {Q : Option Value → sm_W → Prop} {x0 : Nat} {x1 : Nat} {x2 : Int32} {x3 : Int32} {s0 : Int32} {s1 : Nat} : sm_R X 26 74 [.ref x0, .ref x1, .int x2, .int x3, sm_J, sm_J] [.int s0, .ref s1] w Q ↔ sm_wp (sm_aa s1 s0 (sm_get X w s1)) (fun v => sm_R X 26 75 [.ref x0, .ref x1, .int x2, .int x3, sm_J, sm_J] [.ref v] w Q) := sm_q_aald d26_74
theorem d26_75 : decode (sm_code 26) 75 = .ok (.astore 4, 2) := by decide +kernel
theorem r26_75 {X : sm_X} {w : sm_W} {Q : Option Value → sm_W → Prop} {x0 : Nat} {x1 : Nat} {x2 : Int32} {x3 : Int32} {s0 : Nat} : sm_R X 26 75 [.ref x0, .ref x1, .int x2, .int x3, sm_J, sm_J] [.ref s0] w Q ↔ sm_R X 26 77 [.ref x0, .ref x1, .int x2, .int x3, .ref s0, sm_J] [] w Q := sm_R_go d26_75 rfl
theorem d26_77 : decode (sm_code 26) 77 = .ok (.aload 4, 2) := by decide +kernel
theorem r26_77 {X : sm_X} {w : sm_W} {Q : Option Value → sm_W → Prop} {x0 : Nat} {x1 : Nat} {x2 : Int32} {x3 : Int32} {x4 : Nat} : sm_R X 26 77 [.ref x0, .ref x1, .int x2, .int x3, .ref x4, sm_J] [] w Q ↔ sm_R X 26 79 [.ref x0, .ref x1, .int x2, .int x3, .ref x4, sm_J] [.ref x4] w Q := sm_R_go d26_77 rfl
theorem d26_79 : decode (sm_code 26) 79 = .ok (.getfield 71, 3) := by decide +kernel
theorem r26_79 {X : sm_X} {w : sm_W} {Q : Option Value → sm_W → Prop} {x0 : Nat} {x1 : Nat} {x2 : Int32} {x3 : Int32} {x4 : Nat} {s0 : Nat} : sm_R X 26 79 [.ref x0, .ref x1, .int x2, .int x3, .ref x4, sm_J] [.ref s0] w Q ↔ sm_wp (sm_fld 3 2 (sm_at w s0)) (fun v => sm_R X 26 82 [.ref x0, .ref x1, .int x2, .int x3, .ref x4, sm_J] [v] w Q) := sm_q_getf d26_79 rfl (by decide)
theorem d26_82 : decode (sm_code 26) 82 = .ok (.ifCond .ne 6, 3) := by decide +kernel
theorem r26_82 {X : sm_X} {w : sm_W} {Q : Option Value → sm_W → Prop} {x0 : Nat} {x1 : Nat} {x2 : Int32} {x3 : Int32} {x4 : Nat} {s0 : Int32} : sm_R X 26 82 [.ref x0, .ref x1, .int x2, .int x3, .ref x4, sm_J] [.int s0] w Q ↔ (if s0 = 0 then sm_R X 26 85 [.ref x0, .ref x1, .int x2, .int x3, .ref x4, sm_J] [] w Q else sm_R X 26 88 [.ref x0, .ref x1, .int x2, .int x3, .ref x4, sm_J] [] w Q) := sm_q_br d26_82 rfl
theorem d26_85 : decode (sm_code 26) 85 = .ok (.bipush 9, 2) := by decide +kernel
theorem r26_85 {X : sm_X} {w : sm_W} {Q : Option Value → sm_W → Prop} {x0 : Nat} {x1 : Nat} {x2 : Int32} {x3 : Int32} {x4 : Nat} : sm_R X 26 85 [.ref x0, .ref x1, .int x2, .int x3, .ref x4, sm_J] [] w Q ↔ sm_R X 26 87 [.ref x0, .ref x1, .int x2, .int x3, .ref x4, sm_J] [.int 9] w Q := sm_R_go d26_85 rfl
theorem d26_87 : decode (sm_code 26) 87 = .ok (.ireturn, 1) := by decide +kernel
theorem r26_87 {X : sm_X} {w : sm_W} {Q : Option Value → sm_W → Prop} {x0 : Nat} {x1 : Nat} {x2 : Int32} {x3 : Int32} {x4 : Nat} {s0 : Int32} : sm_R X 26 87 [.ref x0, .ref x1, .int x2, .int x3, .ref x4, sm_J] [.int s0] w Q ↔ Q (some (.int s0)) w := sm_q_iret d26_87 rfl
theorem d26_88 : decode (sm_code 26) 88 = .ok (.aload_n 0, 1) := by decide +kernel
theorem r26_88 {X : sm_X} {w : sm_W} {Q : Option Value → sm_W → Prop} {x0 : Nat} {x1 : Nat} {x2 : Int32} {x3 : Int32} {x4 : Nat} : sm_R X 26 88 [.ref x0, .ref x1, .int x2, .int x3, .ref x4, sm_J] [] w Q ↔ sm_R X 26 89 [.ref x0, .ref x1, .int x2, .int x3, .ref x4, sm_J] [.ref x0] w Q := sm_R_go d26_88 rfl
theorem d26_89 : decode (sm_code 26) 89 = .ok (.getfield 42, 3) := by decide +kernel
theorem r26_89 {X : sm_X} {w : sm_W} {Q : Option Value → sm_W → Prop} {x0 : Nat} {x1 : Nat} {x2 : Int32} {x3 : Int32} {x4 : Nat} {s0 : Nat} : sm_R X 26 89 [.ref x0, .ref x1, .int x2, .int x3, .ref x4, sm_J] [.ref s0] w Q ↔ sm_wp (sm_fld 6 5 (sm_at w s0)) (fun v => sm_R X 26 92 [.ref x0, .ref x1, .int x2, .int x3, .ref x4, sm_J] [v] w Q) := sm_q_getf d26_89 rfl (by decide)
theorem d26_92 : decode (sm_code 26) 92 = .ok (.aload 4, 2) := by decide +kernel
theorem r26_92 {X : sm_X} {w : sm_W} {Q : Option Value → sm_W → Prop} {x0 : Nat} {x1 : Nat} {x2 : Int32} {x3 : Int32} {x4 : Nat} {s0 : Nat} : sm_R X 26 92 [.ref x0, .ref x1, .int x2, .int x3, .ref x4, sm_J] [.ref s0] w Q ↔ sm_R X 26 94 [.ref x0, .ref x1, .int x2, .int x3, .ref x4, sm_J] [.ref x4, .ref s0] w Q := sm_R_go d26_92 rfl
theorem d26_94 : decode (sm_code 26) 94 = .ok (.iload_n 2, 1) := by decide +kernel
theorem r26_94 {X : sm_X} {w : sm_W} {Q : Option Value → sm_W → Prop} {x0 : Nat} {x1 : Nat} {x2 : Int32} {x3 : Int32} {x4 : Nat} {s0 : Nat} {s1 : Nat} : sm_R X 26 94 [.ref x0, .ref x1, .int x2, .int x3, .ref x4, sm_J] [.ref s0, .ref s1] w Q ↔ sm_R X 26 95 [.ref x0, .ref x1, .int x2, .int x3, .ref x4, sm_J] [.int x2, .ref s0, .ref s1] w Q := sm_R_go d26_94 rfl
theorem d26_95 : decode (sm_code 26) 95 = .ok (.invokevirtual 179, 3) := by decide +kernel
theorem r26_95 {X : sm_X} {w : sm_W} {Q : Option Value → sm_W → Prop} {x0 : Nat} {x1 : Nat} {x2 : Int32} {x3 : Int32} {x4 : Nat} {s0 : Int32} {s1 : Nat} {s2 : Nat} : sm_R X 26 95 [.ref x0, .ref x1, .int x2, .int x3, .ref x4, sm_J] [.int s0, .ref s1, .ref s2] w Q ↔ (sm_cN (sm_at w s2) = some 2 ∧ sm_R X 29 0 [.ref s2, .ref s1, .int s0, sm_J, sm_J, sm_J, sm_J] [] w (fun v w => sm_R X 26 98 [.ref x0, .ref x1, .int x2, .int x3, .ref x4, sm_J] (v.toList ++ []) w Q)) := sm_q_vir (k := 29) (as := [.ref s2, .ref s1, .int s0]) (rest := []) d26_95 rfl rfl rfl rfl rfl
theorem d26_98 : decode (sm_code 26) 98 = .ok (.istore 5, 2) := by decide +kernel
theorem r26_98 {X : sm_X} {w : sm_W} {Q : Option Value → sm_W → Prop} {x0 : Nat} {x1 : Nat} {x2 : Int32} {x3 : Int32} {x4 : Nat} {s0 : Int32} : sm_R X 26 98 [.ref x0, .ref x1, .int x2, .int x3, .ref x4, sm_J] [.int s0] w Q ↔ sm_R X 26 100 [.ref x0, .ref x1, .int x2, .int x3, .ref x4, .int s0] [] w Q := sm_R_go d26_98 rfl
theorem d26_100 : decode (sm_code 26) 100 = .ok (.aload_n 1, 1) := by decide +kernel
theorem r26_100 {X : sm_X} {w : sm_W} {Q : Option Value → sm_W → Prop} {x0 : Nat} {x1 : Nat} {x2 : Int32} {x3 : Int32} {x4 : Nat} {x5 : Int32} : sm_R X 26 100 [.ref x0, .ref x1, .int x2, .int x3, .ref x4, .int x5] [] w Q ↔ sm_R X 26 101 [.ref x0, .ref x1, .int x2, .int x3, .ref x4, .int x5] [.ref x1] w Q := sm_R_go d26_100 rfl
theorem d26_101 : decode (sm_code 26) 101 = .ok (.getfield 172, 3) := by decide +kernel
theorem r26_101 {X : sm_X} {w : sm_W} {Q : Option Value → sm_W → Prop} {x0 : Nat} {x1 : Nat} {x2 : Int32} {x3 : Int32} {x4 : Nat} {x5 : Int32} {s0 : Nat} : sm_R X 26 101 [.ref x0, .ref x1, .int x2, .int x3, .ref x4, .int x5] [.ref s0] w Q ↔ sm_wp (sm_fld 5 5 (sm_at w s0)) (fun v => sm_R X 26 104 [.ref x0, .ref x1, .int x2, .int x3, .ref x4, .int x5] [v] w Q) := sm_q_getf d26_101 rfl (by decide)
theorem d26_104 : decode (sm_code 26) 104 = .ok (.iconst 2, 1) := by decide +kernel
theorem r26_104 {X : sm_X} {w : sm_W} {Q : Option Value → sm_W → Prop} {x0 : Nat} {x1 : Nat} {x2 : Int32} {x3 : Int32} {x4 : Nat} {x5 : Int32} {s0 : Int32} : sm_R X 26 104 [.ref x0, .ref x1, .int x2, .int x3, .ref x4, .int x5] [.int s0] w Q ↔ sm_R X 26 105 [.ref x0, .ref x1, .int x2, .int x3, .ref x4, .int x5] [.int 2, .int s0] w Q := sm_R_go d26_104 rfl
theorem d26_105 : decode (sm_code 26) 105 = .ok (.if_icmp .ne 18, 3) := by decide +kernel
theorem r26_105 {X : sm_X} {w : sm_W} {Q : Option Value → sm_W → Prop} {x0 : Nat} {x1 : Nat} {x2 : Int32} {x3 : Int32} {x4 : Nat} {x5 : Int32} {s0 : Int32} {s1 : Int32} : sm_R X 26 105 [.ref x0, .ref x1, .int x2, .int x3, .ref x4, .int x5] [.int s0, .int s1] w Q ↔ (if s1 = s0 then sm_R X 26 108 [.ref x0, .ref x1, .int x2, .int x3, .ref x4, .int x5] [] w Q else sm_R X 26 123 [.ref x0, .ref x1, .int x2, .int x3, .ref x4, .int x5] [] w Q) := sm_q_br d26_105 rfl
theorem d26_108 : decode (sm_code 26) 108 = .ok (.aload_n 0, 1) := by decide +kernel
theorem r26_108 {X : sm_X} {w : sm_W} {Q : Option Value → sm_W → Prop} {x0 : Nat} {x1 : Nat} {x2 : Int32} {x3 : Int32} {x4 : Nat} {x5 : Int32} : sm_R X 26 108 [.ref x0, .ref x1, .int x2, .int x3, .ref x4, .int x5] [] w Q ↔ sm_R X 26 109 [.ref x0, .ref x1, .int x2, .int x3, .ref x4, .int x5] [.ref x0] w Q := sm_R_go d26_108 rfl
theorem d26_109 : decode (sm_code 26) 109 = .ok (.getfield 10, 3) := by decide +kernel
theorem r26_109 {X : sm_X} {w : sm_W} {Q : Option Value → sm_W → Prop} {x0 : Nat} {x1 : Nat} {x2 : Int32} {x3 : Int32} {x4 : Nat} {x5 : Int32} {s0 : Nat} : sm_R X 26 109 [.ref x0, .ref x1, .int x2, .int x3, .ref x4, .int x5] [.ref s0] w Q ↔ sm_wp (sm_fld 6 0 (sm_at w s0)) (fun v => sm_R X 26 112 [.ref x0, .ref x1, .int x2, .int x3, .ref x4, .int x5] [v] w Q) := sm_q_getf d26_109 rfl (by decide)
theorem d26_112 : decode (sm_code 26) 112 = .ok (.aload_n 1, 1) := by decide +kernel
theorem r26_112 {X : sm_X} {w : sm_W} {Q : Option Value → sm_W → Prop} {x0 : Nat} {x1 : Nat} {x2 : Int32} {x3 : Int32} {x4 : Nat} {x5 : Int32} {s0 : Nat} : sm_R X 26 112 [.ref x0, .ref x1, .int x2, .int x3, .ref x4, .int x5] [.ref s0] w Q ↔ sm_R X 26 113 [.ref x0, .ref x1, .int x2, .int x3, .ref x4, .int x5] [.ref x1, .ref s0] w Q := sm_R_go d26_112 rfl
theorem d26_113 : decode (sm_code 26) 113 = .ok (.getfield 169, 3) := by decide +kernel
theorem r26_113 {X : sm_X} {w : sm_W} {Q : Option Value → sm_W → Prop} {x0 : Nat} {x1 : Nat} {x2 : Int32} {x3 : Int32} {x4 : Nat} {x5 : Int32} {s0 : Nat} {s1 : Nat} : sm_R X 26 113 [.ref x0, .ref x1, .int x2, .int x3, .ref x4, .int x5] [.ref s0, .ref s1] w Q ↔ sm_wp (sm_fld 5 4 (sm_at w s0)) (fun v => sm_R X 26 116 [.ref x0, .ref x1, .int x2, .int x3, .ref x4, .int x5] [v, .ref s1] w Q) := sm_q_getf d26_113 rfl (by decide)
theorem d26_116 : decode (sm_code 26) 116 = .ok (.aload_n 1, 1) := by decide +kernel
theorem r26_116 {X : sm_X} {w : sm_W} {Q : Option Value → sm_W → Prop} {x0 : Nat} {x1 : Nat} {x2 : Int32} {x3 : Int32} {x4 : Nat} {x5 : Int32} {s0 : Int32} {s1 : Nat} : sm_R X 26 116 [.ref x0, .ref x1, .int x2, .int x3, .ref x4, .int x5] [.int s0, .ref s1] w Q ↔ sm_R X 26 117 [.ref x0, .ref x1, .int x2, .int x3, .ref x4, .int x5] [.ref x1, .int s0, .ref s1] w Q := sm_R_go d26_116 rfl
theorem d26_117 : decode (sm_code 26) 117 = .ok (.getfield 145, 3) := by decide +kernel
theorem r26_117 {X : sm_X} {w : sm_W} {Q : Option Value → sm_W → Prop} {x0 : Nat} {x1 : Nat} {x2 : Int32} {x3 : Int32} {x4 : Nat} {x5 : Int32} {s0 : Nat} {s1 : Int32} {s2 : Nat} : sm_R X 26 117 [.ref x0, .ref x1, .int x2, .int x3, .ref x4, .int x5] [.ref s0, .int s1, .ref s2] w Q ↔ sm_wp (sm_fld 5 1 (sm_at w s0)) (fun v => sm_R X 26 120 [.ref x0, .ref x1, .int x2, .int x3, .ref x4, .int x5] [v, .int s1, .ref s2] w Q) := sm_q_getf d26_117 rfl (by decide)
theorem d26_120 : decode (sm_code 26) 120 = .ok (.invokevirtual 183, 3) := by decide +kernel
theorem r26_120 {X : sm_X} {w : sm_W} {Q : Option Value → sm_W → Prop} {x0 : Nat} {x1 : Nat} {x2 : Int32} {x3 : Int32} {x4 : Nat} {x5 : Int32} {s0 : Int32} {s1 : Int32} {s2 : Nat} : sm_R X 26 120 [.ref x0, .ref x1, .int x2, .int x3, .ref x4, .int x5] [.int s0, .int s1, .ref s2] w Q ↔ (sm_cN (sm_at w s2) = some 0 ∧ sm_R X 47 0 [.ref s2, .int s1, .int s0] [] w (fun v w => sm_R X 26 123 [.ref x0, .ref x1, .int x2, .int x3, .ref x4, .int x5] (v.toList ++ []) w Q)) := sm_q_vir (k := 47) (as := [.ref s2, .int s1, .int s0]) (rest := []) d26_120 rfl rfl rfl rfl rfl
theorem d26_123 : decode (sm_code 26) 123 = .ok (.iload 5, 2) := by decide +kernel
theorem r26_123 {X : sm_X} {w : sm_W} {Q : Option Value → sm_W → Prop} {x0 : Nat} {x1 : Nat} {x2 : Int32} {x3 : Int32} {x4 : Nat} {x5 : Int32} : sm_R X 26 123 [.ref x0, .ref x1, .int x2, .int x3, .ref x4, .int x5] [] w Q ↔ sm_R X 26 125 [.ref x0, .ref x1, .int x2, .int x3, .ref x4, .int x5] [.int x5] w Q := sm_R_go d26_123 rfl
theorem d26_125 : decode (sm_code 26) 125 = .ok (.ireturn, 1) := by decide +kernel
theorem r26_125 {X : sm_X} {w : sm_W} {Q : Option Value → sm_W → Prop} {x0 : Nat} {x1 : Nat} {x2 : Int32} {x3 : Int32} {x4 : Nat} {x5 : Int32} {s0 : Int32} : sm_R X 26 125 [.ref x0, .ref x1, .int x2, .int x3, .ref x4, .int x5] [.int s0] w Q ↔ Q (some (.int s0)) w := sm_q_iret d26_125 rfl
-- GroupLedger$Books.isOpted(II)Z
theorem d27_0 : decode (sm_code 27) 0 = .ok (.aload_n 0, 1) := by decide +kernel
theorem r27_0 {X : sm_X} {w : sm_W} {Q : Option Value → sm_W → Prop} {x0 : Nat} {x1 : Int32} {x2 : Int32} : sm_R X 27 0 [.ref x0, .int x1, .int x2] [] w Q ↔ sm_R X 27 1 [.ref x0, .int x1, .int x2] [.ref x0] w Q := sm_R_go d27_0 rfl
theorem d27_1 : decode (sm_code 27) 1 = .ok (.getfield 23, 3) := by decide +kernel
theorem r27_1 {X : sm_X} {w : sm_W} {Q : Option Value → sm_W → Prop} {x0 : Nat} {x1 : Int32} {x2 : Int32} {s0 : Nat} : sm_R X 27 1 [.ref x0, .int x1, .int x2] [.ref s0] w Q ↔ sm_wp (sm_fld 0 3 (sm_at w s0)) (fun v => sm_R X 27 4 [.ref x0, .int x1, .int x2] [v] w Q) := sm_q_getf d27_1 rfl (by decide)
theorem d27_4 : decode (sm_code 27) 4 = .ok (.iload_n 2, 1) := by decide +kernel
theorem r27_4 {X : sm_X} {w : sm_W} {Q : Option Value → sm_W → Prop} {x0 : Nat} {x1 : Int32} {x2 : Int32} {s0 : Nat} : sm_R X 27 4 [.ref x0, .int x1, .int x2] [.ref s0] w Q ↔ sm_R X 27 5 [.ref x0, .int x1, .int x2] [.int x2, .ref s0] w Q := sm_R_go d27_4 rfl
theorem d27_5 : decode (sm_code 27) 5 = .ok (.iaload, 1) := by decide +kernel
theorem r27_5 {X : sm_X} {w : sm_W} {Q : Option Value → sm_W → Prop} {x0 : Nat} {x1 : Int32} {x2 : Int32} {s0 : Int32} {s1 : Nat} : sm_R X 27 5 [.ref x0, .int x1, .int x2] [.int s0, .ref s1] w Q ↔ sm_wp (sm_ai s0 (sm_get X w s1)) (fun v => sm_R X 27 6 [.ref x0, .int x1, .int x2] [.int v] w Q) := sm_q_iald d27_5
theorem d27_6 : decode (sm_code 27) 6 = .ok (.iconst 1, 1) := by decide +kernel
theorem r27_6 {X : sm_X} {w : sm_W} {Q : Option Value → sm_W → Prop} {x0 : Nat} {x1 : Int32} {x2 : Int32} {s0 : Int32} : sm_R X 27 6 [.ref x0, .int x1, .int x2] [.int s0] w Q ↔ sm_R X 27 7 [.ref x0, .int x1, .int x2] [.int 1, .int s0] w Q := sm_R_go d27_6 rfl
theorem d27_7 : decode (sm_code 27) 7 = .ok (.iload_n 1, 1) := by decide +kernel
theorem r27_7 {X : sm_X} {w : sm_W} {Q : Option Value → sm_W → Prop} {x0 : Nat} {x1 : Int32} {x2 : Int32} {s0 : Int32} {s1 : Int32} : sm_R X 27 7 [.ref x0, .int x1, .int x2] [.int s0, .int s1] w Q ↔ sm_R X 27 8 [.ref x0, .int x1, .int x2] [.int x1, .int s0, .int s1] w Q := sm_R_go d27_7 rfl
theorem d27_8 : decode (sm_code 27) 8 = .ok (.ishl, 1) := by decide +kernel
theorem r27_8 {X : sm_X} {w : sm_W} {Q : Option Value → sm_W → Prop} {x0 : Nat} {x1 : Int32} {x2 : Int32} {s0 : Int32} {s1 : Int32} {s2 : Int32} : sm_R X 27 8 [.ref x0, .int x1, .int x2] [.int s0, .int s1, .int s2] w Q ↔ sm_R X 27 9 [.ref x0, .int x1, .int x2] [.int (s1 <<< (s0 &&& 31)), .int s2] w Q := sm_R_go d27_8 rfl
theorem d27_9 : decode (sm_code 27) 9 = .ok (.iand, 1) := by decide +kernel
theorem r27_9 {X : sm_X} {w : sm_W} {Q : Option Value → sm_W → Prop} {x0 : Nat} {x1 : Int32} {x2 : Int32} {s0 : Int32} {s1 : Int32} : sm_R X 27 9 [.ref x0, .int x1, .int x2] [.int s0, .int s1] w Q ↔ sm_R X 27 10 [.ref x0, .int x1, .int x2] [.int (s1 &&& s0)] w Q := sm_R_go d27_9 rfl
theorem d27_10 : decode (sm_code 27) 10 = .ok (.ifCond .eq 7, 3) := by decide +kernel
theorem r27_10 {X : sm_X} {w : sm_W} {Q : Option Value → sm_W → Prop} {x0 : Nat} {x1 : Int32} {x2 : Int32} {s0 : Int32} : sm_R X 27 10 [.ref x0, .int x1, .int x2] [.int s0] w Q ↔ (if s0 = 0 then sm_R X 27 17 [.ref x0, .int x1, .int x2] [] w Q else sm_R X 27 13 [.ref x0, .int x1, .int x2] [] w Q) := sm_q_br d27_10 rfl
theorem d27_13 : decode (sm_code 27) 13 = .ok (.iconst 1, 1) := by decide +kernel
theorem r27_13 {X : sm_X} {w : sm_W} {Q : Option Value → sm_W → Prop} {x0 : Nat} {x1 : Int32} {x2 : Int32} : sm_R X 27 13 [.ref x0, .int x1, .int x2] [] w Q ↔ sm_R X 27 14 [.ref x0, .int x1, .int x2] [.int 1] w Q := sm_R_go d27_13 rfl
theorem d27_14 : decode (sm_code 27) 14 = .ok (.goto 4, 3) := by decide +kernel
theorem r27_14 {X : sm_X} {w : sm_W} {Q : Option Value → sm_W → Prop} {x0 : Nat} {x1 : Int32} {x2 : Int32} {s0 : Int32} : sm_R X 27 14 [.ref x0, .int x1, .int x2] [.int s0] w Q ↔ sm_R X 27 18 [.ref x0, .int x1, .int x2] [.int s0] w Q := sm_R_go d27_14 rfl
theorem d27_17 : decode (sm_code 27) 17 = .ok (.iconst 0, 1) := by decide +kernel
theorem r27_17 {X : sm_X} {w : sm_W} {Q : Option Value → sm_W → Prop} {x0 : Nat} {x1 : Int32} {x2 : Int32} : sm_R X 27 17 [.ref x0, .int x1, .int x2] [] w Q ↔ sm_R X 27 18 [.ref x0, .int x1, .int x2] [.int 0] w Q := sm_R_go d27_17 rfl
theorem d27_18 : decode (sm_code 27) 18 = .ok (.ireturn, 1) := by decide +kernel
theorem r27_18 {X : sm_X} {w : sm_W} {Q : Option Value → sm_W → Prop} {x0 : Nat} {x1 : Int32} {x2 : Int32} {s0 : Int32} (h : s0 = 0 ∨ s0 = 1) : sm_R X 27 18 [.ref x0, .int x1, .int x2] [.int s0] w Q ↔ Q (some (.int s0)) w := sm_q_zret d27_18 rfl h
-- GroupLedger$Books.optIn(II)V
theorem d28_0 : decode (sm_code 28) 0 = .ok (.aload_n 0, 1) := by decide +kernel
theorem r28_0 {X : sm_X} {w : sm_W} {Q : Option Value → sm_W → Prop} {x0 : Nat} {x1 : Int32} {x2 : Int32} : sm_R X 28 0 [.ref x0, .int x1, .int x2, sm_J] [] w Q ↔ sm_R X 28 1 [.ref x0, .int x1, .int x2, sm_J] [.ref x0] w Q := sm_R_go d28_0 rfl
theorem d28_1 : decode (sm_code 28) 1 = .ok (.getfield 23, 3) := by decide +kernel
theorem r28_1 {X : sm_X} {w : sm_W} {Q : Option Value → sm_W → Prop} {x0 : Nat} {x1 : Int32} {x2 : Int32} {s0 : Nat} : sm_R X 28 1 [.ref x0, .int x1, .int x2, sm_J] [.ref s0] w Q ↔ sm_wp (sm_fld 0 3 (sm_at w s0)) (fun v => sm_R X 28 4 [.ref x0, .int x1, .int x2, sm_J] [v] w Q) := sm_q_getf d28_1 rfl (by decide)
theorem d28_4 : decode (sm_code 28) 4 = .ok (.iload_n 2, 1) := by decide +kernel
theorem r28_4 {X : sm_X} {w : sm_W} {Q : Option Value → sm_W → Prop} {x0 : Nat} {x1 : Int32} {x2 : Int32} {s0 : Nat} : sm_R X 28 4 [.ref x0, .int x1, .int x2, sm_J] [.ref s0] w Q ↔ sm_R X 28 5 [.ref x0, .int x1, .int x2, sm_J] [.int x2, .ref s0] w Q := sm_R_go d28_4 rfl
theorem d28_5 : decode (sm_code 28) 5 = .ok (.dup2, 1) := by decide +kernel
theorem r28_5 {X : sm_X} {w : sm_W} {Q : Option Value → sm_W → Prop} {x0 : Nat} {x1 : Int32} {x2 : Int32} {s0 : Int32} {s1 : Nat} : sm_R X 28 5 [.ref x0, .int x1, .int x2, sm_J] [.int s0, .ref s1] w Q ↔ sm_R X 28 6 [.ref x0, .int x1, .int x2, sm_J] [.int s0, .ref s1, .int s0, .ref s1] w Q := sm_R_go d28_5 rfl
theorem d28_6 : decode (sm_code 28) 6 = .ok (.iaload, 1) := by decide +kernel
theorem r28_6 {X : sm_X} {w : sm_W} {Q : Option Value → sm_W → Prop} {x0 : Nat} {x1 : Int32} {x2 : Int32} {s0 : Int32} {s1 : Nat} {s2 : Int32} {s3 : Nat} : sm_R X 28 6 [.ref x0, .int x1, .int x2, sm_J] [.int s0, .ref s1, .int s2, .ref s3] w Q ↔ sm_wp (sm_ai s0 (sm_get X w s1)) (fun v => sm_R X 28 7 [.ref x0, .int x1, .int x2, sm_J] [.int v, .int s2, .ref s3] w Q) := sm_q_iald d28_6
theorem d28_7 : decode (sm_code 28) 7 = .ok (.iconst 1, 1) := by decide +kernel
theorem r28_7 {X : sm_X} {w : sm_W} {Q : Option Value → sm_W → Prop} {x0 : Nat} {x1 : Int32} {x2 : Int32} {s0 : Int32} {s1 : Int32} {s2 : Nat} : sm_R X 28 7 [.ref x0, .int x1, .int x2, sm_J] [.int s0, .int s1, .ref s2] w Q ↔ sm_R X 28 8 [.ref x0, .int x1, .int x2, sm_J] [.int 1, .int s0, .int s1, .ref s2] w Q := sm_R_go d28_7 rfl
theorem d28_8 : decode (sm_code 28) 8 = .ok (.iload_n 1, 1) := by decide +kernel
theorem r28_8 {X : sm_X} {w : sm_W} {Q : Option Value → sm_W → Prop} {x0 : Nat} {x1 : Int32} {x2 : Int32} {s0 : Int32} {s1 : Int32} {s2 : Int32} {s3 : Nat} : sm_R X 28 8 [.ref x0, .int x1, .int x2, sm_J] [.int s0, .int s1, .int s2, .ref s3] w Q ↔ sm_R X 28 9 [.ref x0, .int x1, .int x2, sm_J] [.int x1, .int s0, .int s1, .int s2, .ref s3] w Q := sm_R_go d28_8 rfl
theorem d28_9 : decode (sm_code 28) 9 = .ok (.ishl, 1) := by decide +kernel
theorem r28_9 {X : sm_X} {w : sm_W} {Q : Option Value → sm_W → Prop} {x0 : Nat} {x1 : Int32} {x2 : Int32} {s0 : Int32} {s1 : Int32} {s2 : Int32} {s3 : Int32} {s4 : Nat} : sm_R X 28 9 [.ref x0, .int x1, .int x2, sm_J] [.int s0, .int s1, .int s2, .int s3, .ref s4] w Q ↔ sm_R X 28 10 [.ref x0, .int x1, .int x2, sm_J] [.int (s1 <<< (s0 &&& 31)), .int s2, .int s3, .ref s4] w Q := sm_R_go d28_9 rfl
theorem d28_10 : decode (sm_code 28) 10 = .ok (.ior, 1) := by decide +kernel
theorem r28_10 {X : sm_X} {w : sm_W} {Q : Option Value → sm_W → Prop} {x0 : Nat} {x1 : Int32} {x2 : Int32} {s0 : Int32} {s1 : Int32} {s2 : Int32} {s3 : Nat} : sm_R X 28 10 [.ref x0, .int x1, .int x2, sm_J] [.int s0, .int s1, .int s2, .ref s3] w Q ↔ sm_R X 28 11 [.ref x0, .int x1, .int x2, sm_J] [.int (s1 ||| s0), .int s2, .ref s3] w Q := sm_R_go d28_10 rfl
theorem d28_11 : decode (sm_code 28) 11 = .ok (.iastore, 1) := by decide +kernel
theorem r28_11 {X : sm_X} {w : sm_W} {Q : Option Value → sm_W → Prop} {x0 : Nat} {x1 : Int32} {x2 : Int32} {s0 : Int32} {s1 : Int32} {s2 : Nat} : sm_R X 28 11 [.ref x0, .int x1, .int x2, sm_J] [.int s0, .int s1, .ref s2] w Q ↔ sm_wp (sm_si s1 s0 (sm_at w s2)) (fun c => sm_R X 28 12 [.ref x0, .int x1, .int x2, sm_J] [] (w.set (s2 - 100) c) Q) := sm_q_iast d28_11
theorem d28_12 : decode (sm_code 28) 12 = .ok (.iconst 0, 1) := by decide +kernel
theorem r28_12 {X : sm_X} {w : sm_W} {Q : Option Value → sm_W → Prop} {x0 : Nat} {x1 : Int32} {x2 : Int32} : sm_R X 28 12 [.ref x0, .int x1, .int x2, sm_J] [] w Q ↔ sm_R X 28 13 [.ref x0, .int x1, .int x2, sm_J] [.int 0] w Q := sm_R_go d28_12 rfl
theorem d28_13 : decode (sm_code 28) 13 = .ok (.istore_n 3, 1) := by decide +kernel
theorem r28_13 {X : sm_X} {w : sm_W} {Q : Option Value → sm_W → Prop} {x0 : Nat} {x1 : Int32} {x2 : Int32} {s0 : Int32} : sm_R X 28 13 [.ref x0, .int x1, .int x2, sm_J] [.int s0] w Q ↔ sm_R X 28 14 [.ref x0, .int x1, .int x2, .int s0] [] w Q := sm_R_go d28_13 rfl
theorem d28_14 : decode (sm_code 28) 14 = .ok (.iload_n 3, 1) := by decide +kernel
theorem r28_14 {X : sm_X} {w : sm_W} {Q : Option Value → sm_W → Prop} {x0 : Nat} {x1 : Int32} {x2 : Int32} {x3 : Int32} : sm_R X 28 14 [.ref x0, .int x1, .int x2, .int x3] [] w Q ↔ sm_R X 28 15 [.ref x0, .int x1, .int x2, .int x3] [.int x3] w Q := sm_R_go d28_14 rfl
theorem d28_15 : decode (sm_code 28) 15 = .ok (.iconst 2, 1) := by decide +kernel
theorem r28_15 {X : sm_X} {w : sm_W} {Q : Option Value → sm_W → Prop} {x0 : Nat} {x1 : Int32} {x2 : Int32} {x3 : Int32} {s0 : Int32} : sm_R X 28 15 [.ref x0, .int x1, .int x2, .int x3] [.int s0] w Q ↔ sm_R X 28 16 [.ref x0, .int x1, .int x2, .int x3] [.int 2, .int s0] w Q := sm_R_go d28_15 rfl
theorem d28_16 : decode (sm_code 28) 16 = .ok (.if_icmp .ge 22, 3) := by decide +kernel
theorem r28_16 {X : sm_X} {w : sm_W} {Q : Option Value → sm_W → Prop} {x0 : Nat} {x1 : Int32} {x2 : Int32} {x3 : Int32} {s0 : Int32} {s1 : Int32} : sm_R X 28 16 [.ref x0, .int x1, .int x2, .int x3] [.int s0, .int s1] w Q ↔ (if s0 ≤ s1 then sm_R X 28 38 [.ref x0, .int x1, .int x2, .int x3] [] w Q else sm_R X 28 19 [.ref x0, .int x1, .int x2, .int x3] [] w Q) := sm_q_br d28_16 rfl
theorem d28_19 : decode (sm_code 28) 19 = .ok (.aload_n 0, 1) := by decide +kernel
theorem r28_19 {X : sm_X} {w : sm_W} {Q : Option Value → sm_W → Prop} {x0 : Nat} {x1 : Int32} {x2 : Int32} {x3 : Int32} : sm_R X 28 19 [.ref x0, .int x1, .int x2, .int x3] [] w Q ↔ sm_R X 28 20 [.ref x0, .int x1, .int x2, .int x3] [.ref x0] w Q := sm_R_go d28_19 rfl
theorem d28_20 : decode (sm_code 28) 20 = .ok (.getfield 20, 3) := by decide +kernel
theorem r28_20 {X : sm_X} {w : sm_W} {Q : Option Value → sm_W → Prop} {x0 : Nat} {x1 : Int32} {x2 : Int32} {x3 : Int32} {s0 : Nat} : sm_R X 28 20 [.ref x0, .int x1, .int x2, .int x3] [.ref s0] w Q ↔ sm_wp (sm_fld 0 2 (sm_at w s0)) (fun v => sm_R X 28 23 [.ref x0, .int x1, .int x2, .int x3] [v] w Q) := sm_q_getf d28_20 rfl (by decide)
theorem d28_23 : decode (sm_code 28) 23 = .ok (.iload_n 1, 1) := by decide +kernel
theorem r28_23 {X : sm_X} {w : sm_W} {Q : Option Value → sm_W → Prop} {x0 : Nat} {x1 : Int32} {x2 : Int32} {x3 : Int32} {s0 : Nat} : sm_R X 28 23 [.ref x0, .int x1, .int x2, .int x3] [.ref s0] w Q ↔ sm_R X 28 24 [.ref x0, .int x1, .int x2, .int x3] [.int x1, .ref s0] w Q := sm_R_go d28_23 rfl
theorem d28_24 : decode (sm_code 28) 24 = .ok (.aaload, 1) := by decide +kernel
theorem r28_24 {X : sm_X} {w : sm_W} {Q : Option Value → sm_W → Prop} {x0 : Nat} {x1 : Int32} {x2 : Int32} {x3 : Int32} {s0 : Int32} {s1 : Nat} : sm_R X 28 24 [.ref x0, .int x1, .int x2, .int x3] [.int s0, .ref s1] w Q ↔ sm_wp (sm_aa s1 s0 (sm_get X w s1)) (fun v => sm_R X 28 25 [.ref x0, .int x1, .int x2, .int x3] [.ref v] w Q) := sm_q_aald d28_24
theorem d28_25 : decode (sm_code 28) 25 = .ok (.iload_n 2, 1) := by decide +kernel
theorem r28_25 {X : sm_X} {w : sm_W} {Q : Option Value → sm_W → Prop} {x0 : Nat} {x1 : Int32} {x2 : Int32} {x3 : Int32} {s0 : Nat} : sm_R X 28 25 [.ref x0, .int x1, .int x2, .int x3] [.ref s0] w Q ↔ sm_R X 28 26 [.ref x0, .int x1, .int x2, .int x3] [.int x2, .ref s0] w Q := sm_R_go d28_25 rfl
theorem d28_26 : decode (sm_code 28) 26 = .ok (.iconst 2, 1) := by decide +kernel
theorem r28_26 {X : sm_X} {w : sm_W} {Q : Option Value → sm_W → Prop} {x0 : Nat} {x1 : Int32} {x2 : Int32} {x3 : Int32} {s0 : Int32} {s1 : Nat} : sm_R X 28 26 [.ref x0, .int x1, .int x2, .int x3] [.int s0, .ref s1] w Q ↔ sm_R X 28 27 [.ref x0, .int x1, .int x2, .int x3] [.int 2, .int s0, .ref s1] w Q := sm_R_go d28_26 rfl
theorem d28_27 : decode (sm_code 28) 27 = .ok (.imul, 1) := by decide +kernel
theorem r28_27 {X : sm_X} {w : sm_W} {Q : Option Value → sm_W → Prop} {x0 : Nat} {x1 : Int32} {x2 : Int32} {x3 : Int32} {s0 : Int32} {s1 : Int32} {s2 : Nat} : sm_R X 28 27 [.ref x0, .int x1, .int x2, .int x3] [.int s0, .int s1, .ref s2] w Q ↔ sm_R X 28 28 [.ref x0, .int x1, .int x2, .int x3] [.int (s1 * s0), .ref s2] w Q := sm_R_go d28_27 rfl
theorem d28_28 : decode (sm_code 28) 28 = .ok (.iload_n 3, 1) := by decide +kernel
theorem r28_28 {X : sm_X} {w : sm_W} {Q : Option Value → sm_W → Prop} {x0 : Nat} {x1 : Int32} {x2 : Int32} {x3 : Int32} {s0 : Int32} {s1 : Nat} : sm_R X 28 28 [.ref x0, .int x1, .int x2, .int x3] [.int s0, .ref s1] w Q ↔ sm_R X 28 29 [.ref x0, .int x1, .int x2, .int x3] [.int x3, .int s0, .ref s1] w Q := sm_R_go d28_28 rfl
theorem d28_29 : decode (sm_code 28) 29 = .ok (.iadd, 1) := by decide +kernel
theorem r28_29 {X : sm_X} {w : sm_W} {Q : Option Value → sm_W → Prop} {x0 : Nat} {x1 : Int32} {x2 : Int32} {x3 : Int32} {s0 : Int32} {s1 : Int32} {s2 : Nat} : sm_R X 28 29 [.ref x0, .int x1, .int x2, .int x3] [.int s0, .int s1, .ref s2] w Q ↔ sm_R X 28 30 [.ref x0, .int x1, .int x2, .int x3] [.int (s1 + s0), .ref s2] w Q := sm_R_go d28_29 rfl
theorem d28_30 : decode (sm_code 28) 30 = .ok (.iconst 0, 1) := by decide +kernel
theorem r28_30 {X : sm_X} {w : sm_W} {Q : Option Value → sm_W → Prop} {x0 : Nat} {x1 : Int32} {x2 : Int32} {x3 : Int32} {s0 : Int32} {s1 : Nat} : sm_R X 28 30 [.ref x0, .int x1, .int x2, .int x3] [.int s0, .ref s1] w Q ↔ sm_R X 28 31 [.ref x0, .int x1, .int x2, .int x3] [.int 0, .int s0, .ref s1] w Q := sm_R_go d28_30 rfl
theorem d28_31 : decode (sm_code 28) 31 = .ok (.iastore, 1) := by decide +kernel
theorem r28_31 {X : sm_X} {w : sm_W} {Q : Option Value → sm_W → Prop} {x0 : Nat} {x1 : Int32} {x2 : Int32} {x3 : Int32} {s0 : Int32} {s1 : Int32} {s2 : Nat} : sm_R X 28 31 [.ref x0, .int x1, .int x2, .int x3] [.int s0, .int s1, .ref s2] w Q ↔ sm_wp (sm_si s1 s0 (sm_at w s2)) (fun c => sm_R X 28 32 [.ref x0, .int x1, .int x2, .int x3] [] (w.set (s2 - 100) c) Q) := sm_q_iast d28_31
theorem d28_32 : decode (sm_code 28) 32 = .ok (.iinc 3 1, 3) := by decide +kernel
theorem r28_32 {X : sm_X} {w : sm_W} {Q : Option Value → sm_W → Prop} {x0 : Nat} {x1 : Int32} {x2 : Int32} {x3 : Int32} : sm_R X 28 32 [.ref x0, .int x1, .int x2, .int x3] [] w Q ↔ sm_R X 28 35 [.ref x0, .int x1, .int x2, .int (x3 + 1)] [] w Q := sm_R_go d28_32 rfl
theorem d28_35 : decode (sm_code 28) 35 = .ok (.goto (-21), 3) := by decide +kernel
theorem r28_35 {X : sm_X} {w : sm_W} {Q : Option Value → sm_W → Prop} {x0 : Nat} {x1 : Int32} {x2 : Int32} {x3 : Int32} : sm_R X 28 35 [.ref x0, .int x1, .int x2, .int x3] [] w Q ↔ sm_R X 28 14 [.ref x0, .int x1, .int x2, .int x3] [] w Q := sm_R_go d28_35 rfl
theorem d28_38 : decode (sm_code 28) 38 = .ok (.return_, 1) := by decide +kernel
theorem r28_38 {X : sm_X} {w : sm_W} {Q : Option Value → sm_W → Prop} {x0 : Nat} {x1 : Int32} {x2 : Int32} {x3 : Int32} : sm_R X 28 38 [.ref x0, .int x1, .int x2, .int x3] [] w Q ↔ Q none w := sm_R_ret d28_38 rfl
-- GroupLedger$Machine.run(LGroupLedger$Program;I)I
theorem d29_0 : decode (sm_code 29) 0 = .ok (.aload_n 0, 1) := by decide +kernel
theorem r29_0 {X : sm_X} {w : sm_W} {Q : Option Value → sm_W → Prop} {x0 : Nat} {x1 : Nat} {x2 : Int32} : sm_R X 29 0 [.ref x0, .ref x1, .int x2, sm_J, sm_J, sm_J, sm_J] [] w Q ↔ sm_R X 29 1 [.ref x0, .ref x1, .int x2, sm_J, sm_J, sm_J, sm_J] [.ref x0] w Q := sm_R_go d29_0 rfl
theorem d29_1 : decode (sm_code 29) 1 = .ok (.aload_n 0, 1) := by decide +kernel
theorem r29_1 {X : sm_X} {w : sm_W} {Q : Option Value → sm_W → Prop} {x0 : Nat} {x1 : Nat} {x2 : Int32} {s0 : Nat} : sm_R X 29 1 [.ref x0, .ref x1, .int x2, sm_J, sm_J, sm_J, sm_J] [.ref s0] w Q ↔ sm_R X 29 2 [.ref x0, .ref x1, .int x2, sm_J, sm_J, sm_J, sm_J] [.ref x0, .ref s0] w Q := sm_R_go d29_1 rfl
theorem d29_2 : decode (sm_code 29) 2 = .ok (.getfield 26, 3) := by decide +kernel
theorem r29_2 {X : sm_X} {w : sm_W} {Q : Option Value → sm_W → Prop} {x0 : Nat} {x1 : Nat} {x2 : Int32} {s0 : Nat} {s1 : Nat} : sm_R X 29 2 [.ref x0, .ref x1, .int x2, sm_J, sm_J, sm_J, sm_J] [.ref s0, .ref s1] w Q ↔ sm_wp (sm_fld 2 1 (sm_at w s0)) (fun v => sm_R X 29 5 [.ref x0, .ref x1, .int x2, sm_J, sm_J, sm_J, sm_J] [v, .ref s1] w Q) := sm_q_getf d29_2 rfl (by decide)
theorem d29_5 : decode (sm_code 29) 5 = .ok (.getfield 30, 3) := by decide +kernel
theorem r29_5 {X : sm_X} {w : sm_W} {Q : Option Value → sm_W → Prop} {x0 : Nat} {x1 : Nat} {x2 : Int32} {s0 : Nat} {s1 : Nat} : sm_R X 29 5 [.ref x0, .ref x1, .int x2, sm_J, sm_J, sm_J, sm_J] [.ref s0, .ref s1] w Q ↔ sm_wp (sm_fld 1 0 (sm_at w s0)) (fun v => sm_R X 29 8 [.ref x0, .ref x1, .int x2, sm_J, sm_J, sm_J, sm_J] [v, .ref s1] w Q) := sm_q_getf d29_5 rfl (by decide)
theorem d29_8 : decode (sm_code 29) 8 = .ok (.iload_n 2, 1) := by decide +kernel
theorem r29_8 {X : sm_X} {w : sm_W} {Q : Option Value → sm_W → Prop} {x0 : Nat} {x1 : Nat} {x2 : Int32} {s0 : Nat} {s1 : Nat} : sm_R X 29 8 [.ref x0, .ref x1, .int x2, sm_J, sm_J, sm_J, sm_J] [.ref s0, .ref s1] w Q ↔ sm_R X 29 9 [.ref x0, .ref x1, .int x2, sm_J, sm_J, sm_J, sm_J] [.int x2, .ref s0, .ref s1] w Q := sm_R_go d29_8 rfl
theorem d29_9 : decode (sm_code 29) 9 = .ok (.aaload, 1) := by decide +kernel
theorem r29_9 {X : sm_X} {w : sm_W} {Q : Option Value → sm_W → Prop} {x0 : Nat} {x1 : Nat} {x2 : Int32} {s0 : Int32} {s1 : Nat} {s2 : Nat} : sm_R X 29 9 [.ref x0, .ref x1, .int x2, sm_J, sm_J, sm_J, sm_J] [.int s0, .ref s1, .ref s2] w Q ↔ sm_wp (sm_aa s1 s0 (sm_get X w s1)) (fun v => sm_R X 29 10 [.ref x0, .ref x1, .int x2, sm_J, sm_J, sm_J, sm_J] [.ref v, .ref s2] w Q) := sm_q_aald d29_9
theorem d29_10 : decode (sm_code 29) 10 = .ok (.putfield 36, 3) := by decide +kernel
theorem r29_10 {X : sm_X} {w : sm_W} {Q : Option Value → sm_W → Prop} {x0 : Nat} {x1 : Nat} {x2 : Int32} {s0 : Nat} {s1 : Nat} : sm_R X 29 10 [.ref x0, .ref x1, .int x2, sm_J, sm_J, sm_J, sm_J] [.ref s0, .ref s1] w Q ↔ sm_wp (sm_pfl 2 7 (.ref s0) (sm_at w s1)) (fun c => sm_R X 29 13 [.ref x0, .ref x1, .int x2, sm_J, sm_J, sm_J, sm_J] [] (w.set (s1 - 100) c) Q) := sm_q_putf d29_10 rfl rfl rfl (by decide)
theorem d29_13 : decode (sm_code 29) 13 = .ok (.aload_n 0, 1) := by decide +kernel
theorem r29_13 {X : sm_X} {w : sm_W} {Q : Option Value → sm_W → Prop} {x0 : Nat} {x1 : Nat} {x2 : Int32} : sm_R X 29 13 [.ref x0, .ref x1, .int x2, sm_J, sm_J, sm_J, sm_J] [] w Q ↔ sm_R X 29 14 [.ref x0, .ref x1, .int x2, sm_J, sm_J, sm_J, sm_J] [.ref x0] w Q := sm_R_go d29_13 rfl
theorem d29_14 : decode (sm_code 29) 14 = .ok (.getfield 36, 3) := by decide +kernel
theorem r29_14 {X : sm_X} {w : sm_W} {Q : Option Value → sm_W → Prop} {x0 : Nat} {x1 : Nat} {x2 : Int32} {s0 : Nat} : sm_R X 29 14 [.ref x0, .ref x1, .int x2, sm_J, sm_J, sm_J, sm_J] [.ref s0] w Q ↔ sm_wp (sm_fld 2 7 (sm_at w s0)) (fun v => sm_R X 29 17 [.ref x0, .ref x1, .int x2, sm_J, sm_J, sm_J, sm_J] [v] w Q) := sm_q_getf d29_14 rfl (by decide)
theorem d29_17 : decode (sm_code 29) 17 = .ok (.invokevirtual 53, 3) := by decide +kernel
theorem r29_17 {X : sm_X} {w : sm_W} {Q : Option Value → sm_W → Prop} {x0 : Nat} {x1 : Nat} {x2 : Int32} {s0 : Nat} : sm_R X 29 17 [.ref x0, .ref x1, .int x2, sm_J, sm_J, sm_J, sm_J] [.ref s0] w Q ↔ (sm_cN (sm_at w s0) = some 5 ∧ sm_R X 30 0 [.ref s0, sm_J] [] w (fun v w => sm_R X 29 20 [.ref x0, .ref x1, .int x2, sm_J, sm_J, sm_J, sm_J] (v.toList ++ []) w Q)) := sm_q_vir (k := 30) (as := [.ref s0]) (rest := []) d29_17 rfl rfl rfl rfl rfl
theorem d29_20 : decode (sm_code 29) 20 = .ok (.aload_n 0, 1) := by decide +kernel
theorem r29_20 {X : sm_X} {w : sm_W} {Q : Option Value → sm_W → Prop} {x0 : Nat} {x1 : Nat} {x2 : Int32} : sm_R X 29 20 [.ref x0, .ref x1, .int x2, sm_J, sm_J, sm_J, sm_J] [] w Q ↔ sm_R X 29 21 [.ref x0, .ref x1, .int x2, sm_J, sm_J, sm_J, sm_J] [.ref x0] w Q := sm_R_go d29_20 rfl
theorem d29_21 : decode (sm_code 29) 21 = .ok (.iload_n 2, 1) := by decide +kernel
theorem r29_21 {X : sm_X} {w : sm_W} {Q : Option Value → sm_W → Prop} {x0 : Nat} {x1 : Nat} {x2 : Int32} {s0 : Nat} : sm_R X 29 21 [.ref x0, .ref x1, .int x2, sm_J, sm_J, sm_J, sm_J] [.ref s0] w Q ↔ sm_R X 29 22 [.ref x0, .ref x1, .int x2, sm_J, sm_J, sm_J, sm_J] [.int x2, .ref s0] w Q := sm_R_go d29_21 rfl
theorem d29_22 : decode (sm_code 29) 22 = .ok (.putfield 58, 3) := by decide +kernel
theorem r29_22 {X : sm_X} {w : sm_W} {Q : Option Value → sm_W → Prop} {x0 : Nat} {x1 : Nat} {x2 : Int32} {s0 : Int32} {s1 : Nat} : sm_R X 29 22 [.ref x0, .ref x1, .int x2, sm_J, sm_J, sm_J, sm_J] [.int s0, .ref s1] w Q ↔ sm_wp (sm_pfl 2 8 (.int s0) (sm_at w s1)) (fun c => sm_R X 29 25 [.ref x0, .ref x1, .int x2, sm_J, sm_J, sm_J, sm_J] [] (w.set (s1 - 100) c) Q) := sm_q_putf d29_22 rfl rfl rfl (by decide)
theorem d29_25 : decode (sm_code 29) 25 = .ok (.aload_n 0, 1) := by decide +kernel
theorem r29_25 {X : sm_X} {w : sm_W} {Q : Option Value → sm_W → Prop} {x0 : Nat} {x1 : Nat} {x2 : Int32} : sm_R X 29 25 [.ref x0, .ref x1, .int x2, sm_J, sm_J, sm_J, sm_J] [] w Q ↔ sm_R X 29 26 [.ref x0, .ref x1, .int x2, sm_J, sm_J, sm_J, sm_J] [.ref x0] w Q := sm_R_go d29_25 rfl
theorem d29_26 : decode (sm_code 29) 26 = .ok (.iconst 0, 1) := by decide +kernel
theorem r29_26 {X : sm_X} {w : sm_W} {Q : Option Value → sm_W → Prop} {x0 : Nat} {x1 : Nat} {x2 : Int32} {s0 : Nat} : sm_R X 29 26 [.ref x0, .ref x1, .int x2, sm_J, sm_J, sm_J, sm_J] [.ref s0] w Q ↔ sm_R X 29 27 [.ref x0, .ref x1, .int x2, sm_J, sm_J, sm_J, sm_J] [.int 0, .ref s0] w Q := sm_R_go d29_26 rfl
theorem d29_27 : decode (sm_code 29) 27 = .ok (.putfield 61, 3) := by decide +kernel
theorem r29_27 {X : sm_X} {w : sm_W} {Q : Option Value → sm_W → Prop} {x0 : Nat} {x1 : Nat} {x2 : Int32} {s0 : Int32} {s1 : Nat} : sm_R X 29 27 [.ref x0, .ref x1, .int x2, sm_J, sm_J, sm_J, sm_J] [.int s0, .ref s1] w Q ↔ sm_wp (sm_pfl 2 9 (.int s0) (sm_at w s1)) (fun c => sm_R X 29 30 [.ref x0, .ref x1, .int x2, sm_J, sm_J, sm_J, sm_J] [] (w.set (s1 - 100) c) Q) := sm_q_putf d29_27 rfl rfl rfl (by decide)
theorem d29_30 : decode (sm_code 29) 30 = .ok (.aload_n 0, 1) := by decide +kernel
theorem r29_30 {X : sm_X} {w : sm_W} {Q : Option Value → sm_W → Prop} {x0 : Nat} {x1 : Nat} {x2 : Int32} : sm_R X 29 30 [.ref x0, .ref x1, .int x2, sm_J, sm_J, sm_J, sm_J] [] w Q ↔ sm_R X 29 31 [.ref x0, .ref x1, .int x2, sm_J, sm_J, sm_J, sm_J] [.ref x0] w Q := sm_R_go d29_30 rfl
theorem d29_31 : decode (sm_code 29) 31 = .ok (.iconst 0, 1) := by decide +kernel
theorem r29_31 {X : sm_X} {w : sm_W} {Q : Option Value → sm_W → Prop} {x0 : Nat} {x1 : Nat} {x2 : Int32} {s0 : Nat} : sm_R X 29 31 [.ref x0, .ref x1, .int x2, sm_J, sm_J, sm_J, sm_J] [.ref s0] w Q ↔ sm_R X 29 32 [.ref x0, .ref x1, .int x2, sm_J, sm_J, sm_J, sm_J] [.int 0, .ref s0] w Q := sm_R_go d29_31 rfl
theorem d29_32 : decode (sm_code 29) 32 = .ok (.putfield 64, 3) := by decide +kernel
theorem r29_32 {X : sm_X} {w : sm_W} {Q : Option Value → sm_W → Prop} {x0 : Nat} {x1 : Nat} {x2 : Int32} {s0 : Int32} {s1 : Nat} (h : s0 = 0 ∨ s0 = 1) : sm_R X 29 32 [.ref x0, .ref x1, .int x2, sm_J, sm_J, sm_J, sm_J] [.int s0, .ref s1] w Q ↔ sm_wp (sm_pfl 2 10 (.int s0) (sm_at w s1)) (fun c => sm_R X 29 35 [.ref x0, .ref x1, .int x2, sm_J, sm_J, sm_J, sm_J] [] (w.set (s1 - 100) c) Q) := sm_q_putf d29_32 rfl (sm_bn h) (sm_bf h) (by decide)
theorem d29_35 : decode (sm_code 29) 35 = .ok (.aload_n 0, 1) := by decide +kernel
theorem r29_35 {X : sm_X} {w : sm_W} {Q : Option Value → sm_W → Prop} {x0 : Nat} {x1 : Nat} {x2 : Int32} : sm_R X 29 35 [.ref x0, .ref x1, .int x2, sm_J, sm_J, sm_J, sm_J] [] w Q ↔ sm_R X 29 36 [.ref x0, .ref x1, .int x2, sm_J, sm_J, sm_J, sm_J] [.ref x0] w Q := sm_R_go d29_35 rfl
theorem d29_36 : decode (sm_code 29) 36 = .ok (.getfield 12, 3) := by decide +kernel
theorem r29_36 {X : sm_X} {w : sm_W} {Q : Option Value → sm_W → Prop} {x0 : Nat} {x1 : Nat} {x2 : Int32} {s0 : Nat} : sm_R X 29 36 [.ref x0, .ref x1, .int x2, sm_J, sm_J, sm_J, sm_J] [.ref s0] w Q ↔ sm_wp (sm_fld 2 2 (sm_at w s0)) (fun v => sm_R X 29 39 [.ref x0, .ref x1, .int x2, sm_J, sm_J, sm_J, sm_J] [v] w Q) := sm_q_getf d29_36 rfl (by decide)
theorem d29_39 : decode (sm_code 29) 39 = .ok (.iconst 0, 1) := by decide +kernel
theorem r29_39 {X : sm_X} {w : sm_W} {Q : Option Value → sm_W → Prop} {x0 : Nat} {x1 : Nat} {x2 : Int32} {s0 : Nat} : sm_R X 29 39 [.ref x0, .ref x1, .int x2, sm_J, sm_J, sm_J, sm_J] [.ref s0] w Q ↔ sm_R X 29 40 [.ref x0, .ref x1, .int x2, sm_J, sm_J, sm_J, sm_J] [.int 0, .ref s0] w Q := sm_R_go d29_39 rfl
theorem d29_40 : decode (sm_code 29) 40 = .ok (.putfield 68, 3) := by decide +kernel
theorem r29_40 {X : sm_X} {w : sm_W} {Q : Option Value → sm_W → Prop} {x0 : Nat} {x1 : Nat} {x2 : Int32} {s0 : Int32} {s1 : Nat} : sm_R X 29 40 [.ref x0, .ref x1, .int x2, sm_J, sm_J, sm_J, sm_J] [.int s0, .ref s1] w Q ↔ sm_wp (sm_pfl 4 2 (.int s0) (sm_at w s1)) (fun c => sm_R X 29 43 [.ref x0, .ref x1, .int x2, sm_J, sm_J, sm_J, sm_J] [] (w.set (s1 - 100) c) Q) := sm_q_putf d29_40 rfl rfl rfl (by decide)
theorem d29_43 : decode (sm_code 29) 43 = .ok (.iconst 0, 1) := by decide +kernel
theorem r29_43 {X : sm_X} {w : sm_W} {Q : Option Value → sm_W → Prop} {x0 : Nat} {x1 : Nat} {x2 : Int32} : sm_R X 29 43 [.ref x0, .ref x1, .int x2, sm_J, sm_J, sm_J, sm_J] [] w Q ↔ sm_R X 29 44 [.ref x0, .ref x1, .int x2, sm_J, sm_J, sm_J, sm_J] [.int 0] w Q := sm_R_go d29_43 rfl
theorem d29_44 : decode (sm_code 29) 44 = .ok (.istore_n 3, 1) := by decide +kernel
theorem r29_44 {X : sm_X} {w : sm_W} {Q : Option Value → sm_W → Prop} {x0 : Nat} {x1 : Nat} {x2 : Int32} {s0 : Int32} : sm_R X 29 44 [.ref x0, .ref x1, .int x2, sm_J, sm_J, sm_J, sm_J] [.int s0] w Q ↔ sm_R X 29 45 [.ref x0, .ref x1, .int x2, .int s0, sm_J, sm_J, sm_J] [] w Q := sm_R_go d29_44 rfl
theorem d29_45 : decode (sm_code 29) 45 = .ok (.iconst 0, 1) := by decide +kernel
theorem r29_45 {X : sm_X} {w : sm_W} {Q : Option Value → sm_W → Prop} {x0 : Nat} {x1 : Nat} {x2 : Int32} {x3 : Int32} : sm_R X 29 45 [.ref x0, .ref x1, .int x2, .int x3, sm_J, sm_J, sm_J] [] w Q ↔ sm_R X 29 46 [.ref x0, .ref x1, .int x2, .int x3, sm_J, sm_J, sm_J] [.int 0] w Q := sm_R_go d29_45 rfl
theorem d29_46 : decode (sm_code 29) 46 = .ok (.istore 4, 2) := by decide +kernel
theorem r29_46 {X : sm_X} {w : sm_W} {Q : Option Value → sm_W → Prop} {x0 : Nat} {x1 : Nat} {x2 : Int32} {x3 : Int32} {s0 : Int32} : sm_R X 29 46 [.ref x0, .ref x1, .int x2, .int x3, sm_J, sm_J, sm_J] [.int s0] w Q ↔ sm_R X 29 48 [.ref x0, .ref x1, .int x2, .int x3, .int s0, sm_J, sm_J] [] w Q := sm_R_go d29_46 rfl
theorem d29_48 : decode (sm_code 29) 48 = .ok (.aload_n 0, 1) := by decide +kernel
theorem r29_48 {X : sm_X} {w : sm_W} {Q : Option Value → sm_W → Prop} {x0 : Nat} {x1 : Nat} {x2 : Int32} {x3 : Int32} {x4 : Int32} : sm_R X 29 48 [.ref x0, .ref x1, .int x2, .int x3, .int x4, sm_J, sm_J] [] w Q ↔ sm_R X 29 49 [.ref x0, .ref x1, .int x2, .int x3, .int x4, sm_J, sm_J] [.ref x0] w Q := sm_R_go d29_48 rfl
theorem d29_49 : decode (sm_code 29) 49 = .ok (.getfield 44, 3) := by decide +kernel
theorem r29_49 {X : sm_X} {w : sm_W} {Q : Option Value → sm_W → Prop} {x0 : Nat} {x1 : Nat} {x2 : Int32} {x3 : Int32} {x4 : Int32} {s0 : Nat} : sm_R X 29 49 [.ref x0, .ref x1, .int x2, .int x3, .int x4, sm_J, sm_J] [.ref s0] w Q ↔ sm_wp (sm_fld 2 3 (sm_at w s0)) (fun v => sm_R X 29 52 [.ref x0, .ref x1, .int x2, .int x3, .int x4, sm_J, sm_J] [v] w Q) := sm_q_getf d29_49 rfl (by decide)
theorem d29_52 : decode (sm_code 29) 52 = .ok (.iconst 1, 1) := by decide +kernel
theorem r29_52 {X : sm_X} {w : sm_W} {Q : Option Value → sm_W → Prop} {x0 : Nat} {x1 : Nat} {x2 : Int32} {x3 : Int32} {x4 : Int32} {s0 : Int32} : sm_R X 29 52 [.ref x0, .ref x1, .int x2, .int x3, .int x4, sm_J, sm_J] [.int s0] w Q ↔ sm_R X 29 53 [.ref x0, .ref x1, .int x2, .int x3, .int x4, sm_J, sm_J] [.int 1, .int s0] w Q := sm_R_go d29_52 rfl
theorem d29_53 : decode (sm_code 29) 53 = .ok (.iadd, 1) := by decide +kernel
theorem r29_53 {X : sm_X} {w : sm_W} {Q : Option Value → sm_W → Prop} {x0 : Nat} {x1 : Nat} {x2 : Int32} {x3 : Int32} {x4 : Int32} {s0 : Int32} {s1 : Int32} : sm_R X 29 53 [.ref x0, .ref x1, .int x2, .int x3, .int x4, sm_J, sm_J] [.int s0, .int s1] w Q ↔ sm_R X 29 54 [.ref x0, .ref x1, .int x2, .int x3, .int x4, sm_J, sm_J] [.int (s1 + s0)] w Q := sm_R_go d29_53 rfl
theorem d29_54 : decode (sm_code 29) 54 = .ok (.istore 5, 2) := by decide +kernel
theorem r29_54 {X : sm_X} {w : sm_W} {Q : Option Value → sm_W → Prop} {x0 : Nat} {x1 : Nat} {x2 : Int32} {x3 : Int32} {x4 : Int32} {s0 : Int32} : sm_R X 29 54 [.ref x0, .ref x1, .int x2, .int x3, .int x4, sm_J, sm_J] [.int s0] w Q ↔ sm_R X 29 56 [.ref x0, .ref x1, .int x2, .int x3, .int x4, .int s0, sm_J] [] w Q := sm_R_go d29_54 rfl
theorem d29_56 : decode (sm_code 29) 56 = .ok (.iconst 0, 1) := by decide +kernel
theorem r29_56 {X : sm_X} {w : sm_W} {Q : Option Value → sm_W → Prop} {x0 : Nat} {x1 : Nat} {x2 : Int32} {x3 : Int32} {x4 : Int32} {x5 : Int32} : sm_R X 29 56 [.ref x0, .ref x1, .int x2, .int x3, .int x4, .int x5, sm_J] [] w Q ↔ sm_R X 29 57 [.ref x0, .ref x1, .int x2, .int x3, .int x4, .int x5, sm_J] [.int 0] w Q := sm_R_go d29_56 rfl
theorem d29_57 : decode (sm_code 29) 57 = .ok (.istore 6, 2) := by decide +kernel
theorem r29_57 {X : sm_X} {w : sm_W} {Q : Option Value → sm_W → Prop} {x0 : Nat} {x1 : Nat} {x2 : Int32} {x3 : Int32} {x4 : Int32} {x5 : Int32} {s0 : Int32} : sm_R X 29 57 [.ref x0, .ref x1, .int x2, .int x3, .int x4, .int x5, sm_J] [.int s0] w Q ↔ sm_R X 29 59 [.ref x0, .ref x1, .int x2, .int x3, .int x4, .int x5, .int s0] [] w Q := sm_R_go d29_57 rfl
theorem d29_59 : decode (sm_code 29) 59 = .ok (.iload 6, 2) := by decide +kernel
theorem r29_59 {X : sm_X} {w : sm_W} {Q : Option Value → sm_W → Prop} {x0 : Nat} {x1 : Nat} {x2 : Int32} {x3 : Int32} {x4 : Int32} {x5 : Int32} {x6 : Int32} : sm_R X 29 59 [.ref x0, .ref x1, .int x2, .int x3, .int x4, .int x5, .int x6] [] w Q ↔ sm_R X 29 61 [.ref x0, .ref x1, .int x2, .int x3, .int x4, .int x5, .int x6] [.int x6] w Q := sm_R_go d29_59 rfl
theorem d29_61 : decode (sm_code 29) 61 = .ok (.iload 5, 2) := by decide +kernel
theorem r29_61 {X : sm_X} {w : sm_W} {Q : Option Value → sm_W → Prop} {x0 : Nat} {x1 : Nat} {x2 : Int32} {x3 : Int32} {x4 : Int32} {x5 : Int32} {x6 : Int32} {s0 : Int32} : sm_R X 29 61 [.ref x0, .ref x1, .int x2, .int x3, .int x4, .int x5, .int x6] [.int s0] w Q ↔ sm_R X 29 63 [.ref x0, .ref x1, .int x2, .int x3, .int x4, .int x5, .int x6] [.int x5, .int s0] w Q := sm_R_go d29_61 rfl
theorem d29_63 : decode (sm_code 29) 63 = .ok (.if_icmp .ge 34, 3) := by decide +kernel
theorem r29_63 {X : sm_X} {w : sm_W} {Q : Option Value → sm_W → Prop} {x0 : Nat} {x1 : Nat} {x2 : Int32} {x3 : Int32} {x4 : Int32} {x5 : Int32} {x6 : Int32} {s0 : Int32} {s1 : Int32} : sm_R X 29 63 [.ref x0, .ref x1, .int x2, .int x3, .int x4, .int x5, .int x6] [.int s0, .int s1] w Q ↔ (if s0 ≤ s1 then sm_R X 29 97 [.ref x0, .ref x1, .int x2, .int x3, .int x4, .int x5, .int x6] [] w Q else sm_R X 29 66 [.ref x0, .ref x1, .int x2, .int x3, .int x4, .int x5, .int x6] [] w Q) := sm_q_br d29_63 rfl
theorem d29_66 : decode (sm_code 29) 66 = .ok (.iload 4, 2) := by decide +kernel
theorem r29_66 {X : sm_X} {w : sm_W} {Q : Option Value → sm_W → Prop} {x0 : Nat} {x1 : Nat} {x2 : Int32} {x3 : Int32} {x4 : Int32} {x5 : Int32} {x6 : Int32} : sm_R X 29 66 [.ref x0, .ref x1, .int x2, .int x3, .int x4, .int x5, .int x6] [] w Q ↔ sm_R X 29 68 [.ref x0, .ref x1, .int x2, .int x3, .int x4, .int x5, .int x6] [.int x4] w Q := sm_R_go d29_66 rfl
theorem d29_68 : decode (sm_code 29) 68 = .ok (.ifCond .ne 29, 3) := by decide +kernel
theorem r29_68 {X : sm_X} {w : sm_W} {Q : Option Value → sm_W → Prop} {x0 : Nat} {x1 : Nat} {x2 : Int32} {x3 : Int32} {x4 : Int32} {x5 : Int32} {x6 : Int32} {s0 : Int32} : sm_R X 29 68 [.ref x0, .ref x1, .int x2, .int x3, .int x4, .int x5, .int x6] [.int s0] w Q ↔ (if s0 = 0 then sm_R X 29 71 [.ref x0, .ref x1, .int x2, .int x3, .int x4, .int x5, .int x6] [] w Q else sm_R X 29 97 [.ref x0, .ref x1, .int x2, .int x3, .int x4, .int x5, .int x6] [] w Q) := sm_q_br d29_68 rfl
theorem d29_71 : decode (sm_code 29) 71 = .ok (.aload_n 0, 1) := by decide +kernel
theorem r29_71 {X : sm_X} {w : sm_W} {Q : Option Value → sm_W → Prop} {x0 : Nat} {x1 : Nat} {x2 : Int32} {x3 : Int32} {x4 : Int32} {x5 : Int32} {x6 : Int32} : sm_R X 29 71 [.ref x0, .ref x1, .int x2, .int x3, .int x4, .int x5, .int x6] [] w Q ↔ sm_R X 29 72 [.ref x0, .ref x1, .int x2, .int x3, .int x4, .int x5, .int x6] [.ref x0] w Q := sm_R_go d29_71 rfl
theorem d29_72 : decode (sm_code 29) 72 = .ok (.getfield 64, 3) := by decide +kernel
theorem r29_72 {X : sm_X} {w : sm_W} {Q : Option Value → sm_W → Prop} {x0 : Nat} {x1 : Nat} {x2 : Int32} {x3 : Int32} {x4 : Int32} {x5 : Int32} {x6 : Int32} {s0 : Nat} : sm_R X 29 72 [.ref x0, .ref x1, .int x2, .int x3, .int x4, .int x5, .int x6] [.ref s0] w Q ↔ sm_wp (sm_fld 2 10 (sm_at w s0)) (fun v => sm_R X 29 75 [.ref x0, .ref x1, .int x2, .int x3, .int x4, .int x5, .int x6] [v] w Q) := sm_q_getf d29_72 rfl (by decide)
theorem d29_75 : decode (sm_code 29) 75 = .ok (.ifCond .ne 22, 3) := by decide +kernel
theorem r29_75 {X : sm_X} {w : sm_W} {Q : Option Value → sm_W → Prop} {x0 : Nat} {x1 : Nat} {x2 : Int32} {x3 : Int32} {x4 : Int32} {x5 : Int32} {x6 : Int32} {s0 : Int32} : sm_R X 29 75 [.ref x0, .ref x1, .int x2, .int x3, .int x4, .int x5, .int x6] [.int s0] w Q ↔ (if s0 = 0 then sm_R X 29 78 [.ref x0, .ref x1, .int x2, .int x3, .int x4, .int x5, .int x6] [] w Q else sm_R X 29 97 [.ref x0, .ref x1, .int x2, .int x3, .int x4, .int x5, .int x6] [] w Q) := sm_q_br d29_75 rfl
theorem d29_78 : decode (sm_code 29) 78 = .ok (.aload_n 0, 1) := by decide +kernel
theorem r29_78 {X : sm_X} {w : sm_W} {Q : Option Value → sm_W → Prop} {x0 : Nat} {x1 : Nat} {x2 : Int32} {x3 : Int32} {x4 : Int32} {x5 : Int32} {x6 : Int32} : sm_R X 29 78 [.ref x0, .ref x1, .int x2, .int x3, .int x4, .int x5, .int x6] [] w Q ↔ sm_R X 29 79 [.ref x0, .ref x1, .int x2, .int x3, .int x4, .int x5, .int x6] [.ref x0] w Q := sm_R_go d29_78 rfl
theorem d29_79 : decode (sm_code 29) 79 = .ok (.getfield 61, 3) := by decide +kernel
theorem r29_79 {X : sm_X} {w : sm_W} {Q : Option Value → sm_W → Prop} {x0 : Nat} {x1 : Nat} {x2 : Int32} {x3 : Int32} {x4 : Int32} {x5 : Int32} {x6 : Int32} {s0 : Nat} : sm_R X 29 79 [.ref x0, .ref x1, .int x2, .int x3, .int x4, .int x5, .int x6] [.ref s0] w Q ↔ sm_wp (sm_fld 2 9 (sm_at w s0)) (fun v => sm_R X 29 82 [.ref x0, .ref x1, .int x2, .int x3, .int x4, .int x5, .int x6] [v] w Q) := sm_q_getf d29_79 rfl (by decide)
theorem d29_82 : decode (sm_code 29) 82 = .ok (.istore_n 3, 1) := by decide +kernel
theorem r29_82 {X : sm_X} {w : sm_W} {Q : Option Value → sm_W → Prop} {x0 : Nat} {x1 : Nat} {x2 : Int32} {x3 : Int32} {x4 : Int32} {x5 : Int32} {x6 : Int32} {s0 : Int32} : sm_R X 29 82 [.ref x0, .ref x1, .int x2, .int x3, .int x4, .int x5, .int x6] [.int s0] w Q ↔ sm_R X 29 83 [.ref x0, .ref x1, .int x2, .int s0, .int x4, .int x5, .int x6] [] w Q := sm_R_go d29_82 rfl
theorem d29_83 : decode (sm_code 29) 83 = .ok (.aload_n 0, 1) := by decide +kernel
theorem r29_83 {X : sm_X} {w : sm_W} {Q : Option Value → sm_W → Prop} {x0 : Nat} {x1 : Nat} {x2 : Int32} {x3 : Int32} {x4 : Int32} {x5 : Int32} {x6 : Int32} : sm_R X 29 83 [.ref x0, .ref x1, .int x2, .int x3, .int x4, .int x5, .int x6] [] w Q ↔ sm_R X 29 84 [.ref x0, .ref x1, .int x2, .int x3, .int x4, .int x5, .int x6] [.ref x0] w Q := sm_R_go d29_83 rfl
theorem d29_84 : decode (sm_code 29) 84 = .ok (.aload_n 1, 1) := by decide +kernel
theorem r29_84 {X : sm_X} {w : sm_W} {Q : Option Value → sm_W → Prop} {x0 : Nat} {x1 : Nat} {x2 : Int32} {x3 : Int32} {x4 : Int32} {x5 : Int32} {x6 : Int32} {s0 : Nat} : sm_R X 29 84 [.ref x0, .ref x1, .int x2, .int x3, .int x4, .int x5, .int x6] [.ref s0] w Q ↔ sm_R X 29 85 [.ref x0, .ref x1, .int x2, .int x3, .int x4, .int x5, .int x6] [.ref x1, .ref s0] w Q := sm_R_go d29_84 rfl
theorem d29_85 : decode (sm_code 29) 85 = .ok (.iload_n 3, 1) := by decide +kernel
theorem r29_85 {X : sm_X} {w : sm_W} {Q : Option Value → sm_W → Prop} {x0 : Nat} {x1 : Nat} {x2 : Int32} {x3 : Int32} {x4 : Int32} {x5 : Int32} {x6 : Int32} {s0 : Nat} {s1 : Nat} : sm_R X 29 85 [.ref x0, .ref x1, .int x2, .int x3, .int x4, .int x5, .int x6] [.ref s0, .ref s1] w Q ↔ sm_R X 29 86 [.ref x0, .ref x1, .int x2, .int x3, .int x4, .int x5, .int x6] [.int x3, .ref s0, .ref s1] w Q := sm_R_go d29_85 rfl
theorem d29_86 : decode (sm_code 29) 86 = .ok (.invokevirtual 71, 3) := by decide +kernel
theorem r29_86 {X : sm_X} {w : sm_W} {Q : Option Value → sm_W → Prop} {x0 : Nat} {x1 : Nat} {x2 : Int32} {x3 : Int32} {x4 : Int32} {x5 : Int32} {x6 : Int32} {s0 : Int32} {s1 : Nat} {s2 : Nat} : sm_R X 29 86 [.ref x0, .ref x1, .int x2, .int x3, .int x4, .int x5, .int x6] [.int s0, .ref s1, .ref s2] w Q ↔ (sm_cN (sm_at w s2) = some 2 ∧ sm_R X 31 0 [.ref s2, .ref s1, .int s0, sm_J, sm_J, sm_J] [] w (fun v w => sm_R X 29 89 [.ref x0, .ref x1, .int x2, .int x3, .int x4, .int x5, .int x6] (v.toList ++ []) w Q)) := sm_q_vir (k := 31) (as := [.ref s2, .ref s1, .int s0]) (rest := []) d29_86 rfl rfl rfl rfl rfl
theorem d29_89 : decode (sm_code 29) 89 = .ok (.istore 4, 2) := by decide +kernel
theorem r29_89 {X : sm_X} {w : sm_W} {Q : Option Value → sm_W → Prop} {x0 : Nat} {x1 : Nat} {x2 : Int32} {x3 : Int32} {x4 : Int32} {x5 : Int32} {x6 : Int32} {s0 : Int32} : sm_R X 29 89 [.ref x0, .ref x1, .int x2, .int x3, .int x4, .int x5, .int x6] [.int s0] w Q ↔ sm_R X 29 91 [.ref x0, .ref x1, .int x2, .int x3, .int s0, .int x5, .int x6] [] w Q := sm_R_go d29_89 rfl
theorem d29_91 : decode (sm_code 29) 91 = .ok (.iinc 6 1, 3) := by decide +kernel
theorem r29_91 {X : sm_X} {w : sm_W} {Q : Option Value → sm_W → Prop} {x0 : Nat} {x1 : Nat} {x2 : Int32} {x3 : Int32} {x4 : Int32} {x5 : Int32} {x6 : Int32} : sm_R X 29 91 [.ref x0, .ref x1, .int x2, .int x3, .int x4, .int x5, .int x6] [] w Q ↔ sm_R X 29 94 [.ref x0, .ref x1, .int x2, .int x3, .int x4, .int x5, .int (x6 + 1)] [] w Q := sm_R_go d29_91 rfl
theorem d29_94 : decode (sm_code 29) 94 = .ok (.goto (-35), 3) := by decide +kernel
theorem r29_94 {X : sm_X} {w : sm_W} {Q : Option Value → sm_W → Prop} {x0 : Nat} {x1 : Nat} {x2 : Int32} {x3 : Int32} {x4 : Int32} {x5 : Int32} {x6 : Int32} : sm_R X 29 94 [.ref x0, .ref x1, .int x2, .int x3, .int x4, .int x5, .int x6] [] w Q ↔ sm_R X 29 59 [.ref x0, .ref x1, .int x2, .int x3, .int x4, .int x5, .int x6] [] w Q := sm_R_go d29_94 rfl
theorem d29_97 : decode (sm_code 29) 97 = .ok (.iload 4, 2) := by decide +kernel
theorem r29_97 {X : sm_X} {w : sm_W} {Q : Option Value → sm_W → Prop} {x0 : Nat} {x1 : Nat} {x2 : Int32} {x3 : Int32} {x4 : Int32} {x5 : Int32} {x6 : Int32} : sm_R X 29 97 [.ref x0, .ref x1, .int x2, .int x3, .int x4, .int x5, .int x6] [] w Q ↔ sm_R X 29 99 [.ref x0, .ref x1, .int x2, .int x3, .int x4, .int x5, .int x6] [.int x4] w Q := sm_R_go d29_97 rfl
theorem d29_99 : decode (sm_code 29) 99 = .ok (.ifCond .eq 8, 3) := by decide +kernel
theorem r29_99 {X : sm_X} {w : sm_W} {Q : Option Value → sm_W → Prop} {x0 : Nat} {x1 : Nat} {x2 : Int32} {x3 : Int32} {x4 : Int32} {x5 : Int32} {x6 : Int32} {s0 : Int32} : sm_R X 29 99 [.ref x0, .ref x1, .int x2, .int x3, .int x4, .int x5, .int x6] [.int s0] w Q ↔ (if s0 = 0 then sm_R X 29 107 [.ref x0, .ref x1, .int x2, .int x3, .int x4, .int x5, .int x6] [] w Q else sm_R X 29 102 [.ref x0, .ref x1, .int x2, .int x3, .int x4, .int x5, .int x6] [] w Q) := sm_q_br d29_99 rfl
theorem d29_102 : decode (sm_code 29) 102 = .ok (.aload_n 0, 1) := by decide +kernel
theorem r29_102 {X : sm_X} {w : sm_W} {Q : Option Value → sm_W → Prop} {x0 : Nat} {x1 : Nat} {x2 : Int32} {x3 : Int32} {x4 : Int32} {x5 : Int32} {x6 : Int32} : sm_R X 29 102 [.ref x0, .ref x1, .int x2, .int x3, .int x4, .int x5, .int x6] [] w Q ↔ sm_R X 29 103 [.ref x0, .ref x1, .int x2, .int x3, .int x4, .int x5, .int x6] [.ref x0] w Q := sm_R_go d29_102 rfl
theorem d29_103 : decode (sm_code 29) 103 = .ok (.iload_n 3, 1) := by decide +kernel
theorem r29_103 {X : sm_X} {w : sm_W} {Q : Option Value → sm_W → Prop} {x0 : Nat} {x1 : Nat} {x2 : Int32} {x3 : Int32} {x4 : Int32} {x5 : Int32} {x6 : Int32} {s0 : Nat} : sm_R X 29 103 [.ref x0, .ref x1, .int x2, .int x3, .int x4, .int x5, .int x6] [.ref s0] w Q ↔ sm_R X 29 104 [.ref x0, .ref x1, .int x2, .int x3, .int x4, .int x5, .int x6] [.int x3, .ref s0] w Q := sm_R_go d29_103 rfl
theorem d29_104 : decode (sm_code 29) 104 = .ok (.putfield 18, 3) := by decide +kernel
theorem r29_104 {X : sm_X} {w : sm_W} {Q : Option Value → sm_W → Prop} {x0 : Nat} {x1 : Nat} {x2 : Int32} {x3 : Int32} {x4 : Int32} {x5 : Int32} {x6 : Int32} {s0 : Int32} {s1 : Nat} : sm_R X 29 104 [.ref x0, .ref x1, .int x2, .int x3, .int x4, .int x5, .int x6] [.int s0, .ref s1] w Q ↔ sm_wp (sm_pfl 2 6 (.int s0) (sm_at w s1)) (fun c => sm_R X 29 107 [.ref x0, .ref x1, .int x2, .int x3, .int x4, .int x5, .int x6] [] (w.set (s1 - 100) c) Q) := sm_q_putf d29_104 rfl rfl rfl (by decide)
theorem d29_107 : decode (sm_code 29) 107 = .ok (.iload 4, 2) := by decide +kernel
theorem r29_107 {X : sm_X} {w : sm_W} {Q : Option Value → sm_W → Prop} {x0 : Nat} {x1 : Nat} {x2 : Int32} {x3 : Int32} {x4 : Int32} {x5 : Int32} {x6 : Int32} : sm_R X 29 107 [.ref x0, .ref x1, .int x2, .int x3, .int x4, .int x5, .int x6] [] w Q ↔ sm_R X 29 109 [.ref x0, .ref x1, .int x2, .int x3, .int x4, .int x5, .int x6] [.int x4] w Q := sm_R_go d29_107 rfl
theorem d29_109 : decode (sm_code 29) 109 = .ok (.ireturn, 1) := by decide +kernel
theorem r29_109 {X : sm_X} {w : sm_W} {Q : Option Value → sm_W → Prop} {x0 : Nat} {x1 : Nat} {x2 : Int32} {x3 : Int32} {x4 : Int32} {x5 : Int32} {x6 : Int32} {s0 : Int32} : sm_R X 29 109 [.ref x0, .ref x1, .int x2, .int x3, .int x4, .int x5, .int x6] [.int s0] w Q ↔ Q (some (.int s0)) w := sm_q_iret d29_109 rfl
-- GroupLedger$Transaction.clearScratch()V
theorem d30_0 : decode (sm_code 30) 0 = .ok (.iconst 0, 1) := by decide +kernel
theorem r30_0 {X : sm_X} {w : sm_W} {Q : Option Value → sm_W → Prop} {x0 : Nat} : sm_R X 30 0 [.ref x0, sm_J] [] w Q ↔ sm_R X 30 1 [.ref x0, sm_J] [.int 0] w Q := sm_R_go d30_0 rfl
theorem d30_1 : decode (sm_code 30) 1 = .ok (.istore_n 1, 1) := by decide +kernel
theorem r30_1 {X : sm_X} {w : sm_W} {Q : Option Value → sm_W → Prop} {x0 : Nat} {s0 : Int32} : sm_R X 30 1 [.ref x0, sm_J] [.int s0] w Q ↔ sm_R X 30 2 [.ref x0, .int s0] [] w Q := sm_R_go d30_1 rfl
theorem d30_2 : decode (sm_code 30) 2 = .ok (.iload_n 1, 1) := by decide +kernel
theorem r30_2 {X : sm_X} {w : sm_W} {Q : Option Value → sm_W → Prop} {x0 : Nat} {x1 : Int32} : sm_R X 30 2 [.ref x0, .int x1] [] w Q ↔ sm_R X 30 3 [.ref x0, .int x1] [.int x1] w Q := sm_R_go d30_2 rfl
theorem d30_3 : decode (sm_code 30) 3 = .ok (.iconst 4, 1) := by decide +kernel
theorem r30_3 {X : sm_X} {w : sm_W} {Q : Option Value → sm_W → Prop} {x0 : Nat} {x1 : Int32} {s0 : Int32} : sm_R X 30 3 [.ref x0, .int x1] [.int s0] w Q ↔ sm_R X 30 4 [.ref x0, .int x1] [.int 4, .int s0] w Q := sm_R_go d30_3 rfl
theorem d30_4 : decode (sm_code 30) 4 = .ok (.if_icmp .ge 16, 3) := by decide +kernel
theorem r30_4 {X : sm_X} {w : sm_W} {Q : Option Value → sm_W → Prop} {x0 : Nat} {x1 : Int32} {s0 : Int32} {s1 : Int32} : sm_R X 30 4 [.ref x0, .int x1] [.int s0, .int s1] w Q ↔ (if s0 ≤ s1 then sm_R X 30 20 [.ref x0, .int x1] [] w Q else sm_R X 30 7 [.ref x0, .int x1] [] w Q) := sm_q_br d30_4 rfl
theorem d30_7 : decode (sm_code 30) 7 = .ok (.aload_n 0, 1) := by decide +kernel
theorem r30_7 {X : sm_X} {w : sm_W} {Q : Option Value → sm_W → Prop} {x0 : Nat} {x1 : Int32} : sm_R X 30 7 [.ref x0, .int x1] [] w Q ↔ sm_R X 30 8 [.ref x0, .int x1] [.ref x0] w Q := sm_R_go d30_7 rfl
theorem d30_8 : decode (sm_code 30) 8 = .ok (.getfield 9, 3) := by decide +kernel
theorem r30_8 {X : sm_X} {w : sm_W} {Q : Option Value → sm_W → Prop} {x0 : Nat} {x1 : Int32} {s0 : Nat} : sm_R X 30 8 [.ref x0, .int x1] [.ref s0] w Q ↔ sm_wp (sm_fld 5 8 (sm_at w s0)) (fun v => sm_R X 30 11 [.ref x0, .int x1] [v] w Q) := sm_q_getf d30_8 rfl (by decide)
theorem d30_11 : decode (sm_code 30) 11 = .ok (.iload_n 1, 1) := by decide +kernel
theorem r30_11 {X : sm_X} {w : sm_W} {Q : Option Value → sm_W → Prop} {x0 : Nat} {x1 : Int32} {s0 : Nat} : sm_R X 30 11 [.ref x0, .int x1] [.ref s0] w Q ↔ sm_R X 30 12 [.ref x0, .int x1] [.int x1, .ref s0] w Q := sm_R_go d30_11 rfl
theorem d30_12 : decode (sm_code 30) 12 = .ok (.iconst 0, 1) := by decide +kernel
theorem r30_12 {X : sm_X} {w : sm_W} {Q : Option Value → sm_W → Prop} {x0 : Nat} {x1 : Int32} {s0 : Int32} {s1 : Nat} : sm_R X 30 12 [.ref x0, .int x1] [.int s0, .ref s1] w Q ↔ sm_R X 30 13 [.ref x0, .int x1] [.int 0, .int s0, .ref s1] w Q := sm_R_go d30_12 rfl
theorem d30_13 : decode (sm_code 30) 13 = .ok (.iastore, 1) := by decide +kernel
theorem r30_13 {X : sm_X} {w : sm_W} {Q : Option Value → sm_W → Prop} {x0 : Nat} {x1 : Int32} {s0 : Int32} {s1 : Int32} {s2 : Nat} : sm_R X 30 13 [.ref x0, .int x1] [.int s0, .int s1, .ref s2] w Q ↔ sm_wp (sm_si s1 s0 (sm_at w s2)) (fun c => sm_R X 30 14 [.ref x0, .int x1] [] (w.set (s2 - 100) c) Q) := sm_q_iast d30_13
theorem d30_14 : decode (sm_code 30) 14 = .ok (.iinc 1 1, 3) := by decide +kernel
theorem r30_14 {X : sm_X} {w : sm_W} {Q : Option Value → sm_W → Prop} {x0 : Nat} {x1 : Int32} : sm_R X 30 14 [.ref x0, .int x1] [] w Q ↔ sm_R X 30 17 [.ref x0, .int (x1 + 1)] [] w Q := sm_R_go d30_14 rfl
theorem d30_17 : decode (sm_code 30) 17 = .ok (.goto (-15), 3) := by decide +kernel
theorem r30_17 {X : sm_X} {w : sm_W} {Q : Option Value → sm_W → Prop} {x0 : Nat} {x1 : Int32} : sm_R X 30 17 [.ref x0, .int x1] [] w Q ↔ sm_R X 30 2 [.ref x0, .int x1] [] w Q := sm_R_go d30_17 rfl
theorem d30_20 : decode (sm_code 30) 20 = .ok (.return_, 1) := by decide +kernel
theorem r30_20 {X : sm_X} {w : sm_W} {Q : Option Value → sm_W → Prop} {x0 : Nat} {x1 : Int32} : sm_R X 30 20 [.ref x0, .int x1] [] w Q ↔ Q none w := sm_R_ret d30_20 rfl
-- GroupLedger$Machine.step(LGroupLedger$Program;I)I
theorem d31_0 : decode (sm_code 31) 0 = .ok (.iload_n 2, 1) := by decide +kernel
theorem r31_0 {X : sm_X} {w : sm_W} {Q : Option Value → sm_W → Prop} {x0 : Nat} {x1 : Nat} {x2 : Int32} : sm_R X 31 0 [.ref x0, .ref x1, .int x2, sm_J, sm_J, sm_J] [] w Q ↔ sm_R X 31 1 [.ref x0, .ref x1, .int x2, sm_J, sm_J, sm_J] [.int x2] w Q := sm_R_go d31_0 rfl
theorem d31_1 : decode (sm_code 31) 1 = .ok (.aload_n 1, 1) := by decide +kernel
theorem r31_1 {X : sm_X} {w : sm_W} {Q : Option Value → sm_W → Prop} {x0 : Nat} {x1 : Nat} {x2 : Int32} {s0 : Int32} : sm_R X 31 1 [.ref x0, .ref x1, .int x2, sm_J, sm_J, sm_J] [.int s0] w Q ↔ sm_R X 31 2 [.ref x0, .ref x1, .int x2, sm_J, sm_J, sm_J] [.ref x1, .int s0] w Q := sm_R_go d31_1 rfl
theorem d31_2 : decode (sm_code 31) 2 = .ok (.getfield 75, 3) := by decide +kernel
theorem r31_2 {X : sm_X} {w : sm_W} {Q : Option Value → sm_W → Prop} {x0 : Nat} {x1 : Nat} {x2 : Int32} {s0 : Nat} {s1 : Int32} : sm_R X 31 2 [.ref x0, .ref x1, .int x2, sm_J, sm_J, sm_J] [.ref s0, .int s1] w Q ↔ sm_wp (sm_fld 3 2 (sm_at w s0)) (fun v => sm_R X 31 5 [.ref x0, .ref x1, .int x2, sm_J, sm_J, sm_J] [v, .int s1] w Q) := sm_q_getf d31_2 rfl (by decide)
theorem d31_5 : decode (sm_code 31) 5 = .ok (.if_icmp .lt 5, 3) := by decide +kernel
theorem r31_5 {X : sm_X} {w : sm_W} {Q : Option Value → sm_W → Prop} {x0 : Nat} {x1 : Nat} {x2 : Int32} {s0 : Int32} {s1 : Int32} : sm_R X 31 5 [.ref x0, .ref x1, .int x2, sm_J, sm_J, sm_J] [.int s0, .int s1] w Q ↔ (if s1 < s0 then sm_R X 31 10 [.ref x0, .ref x1, .int x2, sm_J, sm_J, sm_J] [] w Q else sm_R X 31 8 [.ref x0, .ref x1, .int x2, sm_J, sm_J, sm_J] [] w Q) := sm_q_br d31_5 rfl
theorem d31_8 : decode (sm_code 31) 8 = .ok (.iconst 5, 1) := by decide +kernel
theorem r31_8 {X : sm_X} {w : sm_W} {Q : Option Value → sm_W → Prop} {x0 : Nat} {x1 : Nat} {x2 : Int32} : sm_R X 31 8 [.ref x0, .ref x1, .int x2, sm_J, sm_J, sm_J] [] w Q ↔ sm_R X 31 9 [.ref x0, .ref x1, .int x2, sm_J, sm_J, sm_J] [.int 5] w Q := sm_R_go d31_8 rfl
theorem d31_9 : decode (sm_code 31) 9 = .ok (.ireturn, 1) := by decide +kernel
theorem r31_9 {X : sm_X} {w : sm_W} {Q : Option Value → sm_W → Prop} {x0 : Nat} {x1 : Nat} {x2 : Int32} {s0 : Int32} : sm_R X 31 9 [.ref x0, .ref x1, .int x2, sm_J, sm_J, sm_J] [.int s0] w Q ↔ Q (some (.int s0)) w := sm_q_iret d31_9 rfl
theorem d31_10 : decode (sm_code 31) 10 = .ok (.getstatic 78, 3) := by decide +kernel
theorem r31_10 {X : sm_X} {w : sm_W} {Q : Option Value → sm_W → Prop} {x0 : Nat} {x1 : Nat} {x2 : Int32} : sm_R X 31 10 [.ref x0, .ref x1, .int x2, sm_J, sm_J, sm_J] [] w Q ↔ sm_R X 31 13 [.ref x0, .ref x1, .int x2, sm_J, sm_J, sm_J] [.ref 98] w Q := sm_R_go d31_10 rfl
theorem d31_13 : decode (sm_code 31) 13 = .ok (.aload_n 1, 1) := by decide +kernel
theorem r31_13 {X : sm_X} {w : sm_W} {Q : Option Value → sm_W → Prop} {x0 : Nat} {x1 : Nat} {x2 : Int32} {s0 : Nat} : sm_R X 31 13 [.ref x0, .ref x1, .int x2, sm_J, sm_J, sm_J] [.ref s0] w Q ↔ sm_R X 31 14 [.ref x0, .ref x1, .int x2, sm_J, sm_J, sm_J] [.ref x1, .ref s0] w Q := sm_R_go d31_13 rfl
theorem d31_14 : decode (sm_code 31) 14 = .ok (.getfield 82, 3) := by decide +kernel
theorem r31_14 {X : sm_X} {w : sm_W} {Q : Option Value → sm_W → Prop} {x0 : Nat} {x1 : Nat} {x2 : Int32} {s0 : Nat} {s1 : Nat} : sm_R X 31 14 [.ref x0, .ref x1, .int x2, sm_J, sm_J, sm_J] [.ref s0, .ref s1] w Q ↔ sm_wp (sm_fld 3 0 (sm_at w s0)) (fun v => sm_R X 31 17 [.ref x0, .ref x1, .int x2, sm_J, sm_J, sm_J] [v, .ref s1] w Q) := sm_q_getf d31_14 rfl (by decide)
theorem d31_17 : decode (sm_code 31) 17 = .ok (.iload_n 2, 1) := by decide +kernel
theorem r31_17 {X : sm_X} {w : sm_W} {Q : Option Value → sm_W → Prop} {x0 : Nat} {x1 : Nat} {x2 : Int32} {s0 : Nat} {s1 : Nat} : sm_R X 31 17 [.ref x0, .ref x1, .int x2, sm_J, sm_J, sm_J] [.ref s0, .ref s1] w Q ↔ sm_R X 31 18 [.ref x0, .ref x1, .int x2, sm_J, sm_J, sm_J] [.int x2, .ref s0, .ref s1] w Q := sm_R_go d31_17 rfl
theorem d31_18 : decode (sm_code 31) 18 = .ok (.iaload, 1) := by decide +kernel
theorem r31_18 {X : sm_X} {w : sm_W} {Q : Option Value → sm_W → Prop} {x0 : Nat} {x1 : Nat} {x2 : Int32} {s0 : Int32} {s1 : Nat} {s2 : Nat} : sm_R X 31 18 [.ref x0, .ref x1, .int x2, sm_J, sm_J, sm_J] [.int s0, .ref s1, .ref s2] w Q ↔ sm_wp (sm_ai s0 (sm_get X w s1)) (fun v => sm_R X 31 19 [.ref x0, .ref x1, .int x2, sm_J, sm_J, sm_J] [.int v, .ref s2] w Q) := sm_q_iald d31_18
theorem d31_19 : decode (sm_code 31) 19 = .ok (.aaload, 1) := by decide +kernel
theorem r31_19 {X : sm_X} {w : sm_W} {Q : Option Value → sm_W → Prop} {x0 : Nat} {x1 : Nat} {x2 : Int32} {s0 : Int32} {s1 : Nat} : sm_R X 31 19 [.ref x0, .ref x1, .int x2, sm_J, sm_J, sm_J] [.int s0, .ref s1] w Q ↔ sm_wp (sm_aa s1 s0 (sm_get X w s1)) (fun v => sm_R X 31 20 [.ref x0, .ref x1, .int x2, sm_J, sm_J, sm_J] [.ref v] w Q) := sm_q_aald d31_19
theorem d31_20 : decode (sm_code 31) 20 = .ok (.astore_n 3, 1) := by decide +kernel
theorem r31_20 {X : sm_X} {w : sm_W} {Q : Option Value → sm_W → Prop} {x0 : Nat} {x1 : Nat} {x2 : Int32} {s0 : Nat} : sm_R X 31 20 [.ref x0, .ref x1, .int x2, sm_J, sm_J, sm_J] [.ref s0] w Q ↔ sm_R X 31 21 [.ref x0, .ref x1, .int x2, .ref s0, sm_J, sm_J] [] w Q := sm_R_go d31_20 rfl
theorem d31_21 : decode (sm_code 31) 21 = .ok (.aload_n 1, 1) := by decide +kernel
theorem r31_21 {X : sm_X} {w : sm_W} {Q : Option Value → sm_W → Prop} {x0 : Nat} {x1 : Nat} {x2 : Int32} {x3 : Nat} : sm_R X 31 21 [.ref x0, .ref x1, .int x2, .ref x3, sm_J, sm_J] [] w Q ↔ sm_R X 31 22 [.ref x0, .ref x1, .int x2, .ref x3, sm_J, sm_J] [.ref x1] w Q := sm_R_go d31_21 rfl
theorem d31_22 : decode (sm_code 31) 22 = .ok (.getfield 86, 3) := by decide +kernel
theorem r31_22 {X : sm_X} {w : sm_W} {Q : Option Value → sm_W → Prop} {x0 : Nat} {x1 : Nat} {x2 : Int32} {x3 : Nat} {s0 : Nat} : sm_R X 31 22 [.ref x0, .ref x1, .int x2, .ref x3, sm_J, sm_J] [.ref s0] w Q ↔ sm_wp (sm_fld 3 1 (sm_at w s0)) (fun v => sm_R X 31 25 [.ref x0, .ref x1, .int x2, .ref x3, sm_J, sm_J] [v] w Q) := sm_q_getf d31_22 rfl (by decide)
theorem d31_25 : decode (sm_code 31) 25 = .ok (.iload_n 2, 1) := by decide +kernel
theorem r31_25 {X : sm_X} {w : sm_W} {Q : Option Value → sm_W → Prop} {x0 : Nat} {x1 : Nat} {x2 : Int32} {x3 : Nat} {s0 : Nat} : sm_R X 31 25 [.ref x0, .ref x1, .int x2, .ref x3, sm_J, sm_J] [.ref s0] w Q ↔ sm_R X 31 26 [.ref x0, .ref x1, .int x2, .ref x3, sm_J, sm_J] [.int x2, .ref s0] w Q := sm_R_go d31_25 rfl
theorem d31_26 : decode (sm_code 31) 26 = .ok (.iaload, 1) := by decide +kernel
theorem r31_26 {X : sm_X} {w : sm_W} {Q : Option Value → sm_W → Prop} {x0 : Nat} {x1 : Nat} {x2 : Int32} {x3 : Nat} {s0 : Int32} {s1 : Nat} : sm_R X 31 26 [.ref x0, .ref x1, .int x2, .ref x3, sm_J, sm_J] [.int s0, .ref s1] w Q ↔ sm_wp (sm_ai s0 (sm_get X w s1)) (fun v => sm_R X 31 27 [.ref x0, .ref x1, .int x2, .ref x3, sm_J, sm_J] [.int v] w Q) := sm_q_iald d31_26
theorem d31_27 : decode (sm_code 31) 27 = .ok (.istore 4, 2) := by decide +kernel
theorem r31_27 {X : sm_X} {w : sm_W} {Q : Option Value → sm_W → Prop} {x0 : Nat} {x1 : Nat} {x2 : Int32} {x3 : Nat} {s0 : Int32} : sm_R X 31 27 [.ref x0, .ref x1, .int x2, .ref x3, sm_J, sm_J] [.int s0] w Q ↔ sm_R X 31 29 [.ref x0, .ref x1, .int x2, .ref x3, .int s0, sm_J] [] w Q := sm_R_go d31_27 rfl
theorem d31_29 : decode (sm_code 31) 29 = .ok (.aload_n 0, 1) := by decide +kernel
theorem r31_29 {X : sm_X} {w : sm_W} {Q : Option Value → sm_W → Prop} {x0 : Nat} {x1 : Nat} {x2 : Int32} {x3 : Nat} {x4 : Int32} : sm_R X 31 29 [.ref x0, .ref x1, .int x2, .ref x3, .int x4, sm_J] [] w Q ↔ sm_R X 31 30 [.ref x0, .ref x1, .int x2, .ref x3, .int x4, sm_J] [.ref x0] w Q := sm_R_go d31_29 rfl
theorem d31_30 : decode (sm_code 31) 30 = .ok (.getfield 44, 3) := by decide +kernel
theorem r31_30 {X : sm_X} {w : sm_W} {Q : Option Value → sm_W → Prop} {x0 : Nat} {x1 : Nat} {x2 : Int32} {x3 : Nat} {x4 : Int32} {s0 : Nat} : sm_R X 31 30 [.ref x0, .ref x1, .int x2, .ref x3, .int x4, sm_J] [.ref s0] w Q ↔ sm_wp (sm_fld 2 3 (sm_at w s0)) (fun v => sm_R X 31 33 [.ref x0, .ref x1, .int x2, .ref x3, .int x4, sm_J] [v] w Q) := sm_q_getf d31_30 rfl (by decide)
theorem d31_33 : decode (sm_code 31) 33 = .ok (.aload_n 3, 1) := by decide +kernel
theorem r31_33 {X : sm_X} {w : sm_W} {Q : Option Value → sm_W → Prop} {x0 : Nat} {x1 : Nat} {x2 : Int32} {x3 : Nat} {x4 : Int32} {s0 : Int32} : sm_R X 31 33 [.ref x0, .ref x1, .int x2, .ref x3, .int x4, sm_J] [.int s0] w Q ↔ sm_R X 31 34 [.ref x0, .ref x1, .int x2, .ref x3, .int x4, sm_J] [.ref x3, .int s0] w Q := sm_R_go d31_33 rfl
theorem d31_34 : decode (sm_code 31) 34 = .ok (.getfield 89, 3) := by decide +kernel
theorem r31_34 {X : sm_X} {w : sm_W} {Q : Option Value → sm_W → Prop} {x0 : Nat} {x1 : Nat} {x2 : Int32} {x3 : Nat} {x4 : Int32} {s0 : Nat} {s1 : Int32} (h : s0 < 100) : sm_R X 31 34 [.ref x0, .ref x1, .int x2, .ref x3, .int x4, sm_J] [.ref s0, .int s1] w Q ↔ sm_wp (sm_enF 8 0 s0) (fun v => sm_R X 31 37 [.ref x0, .ref x1, .int x2, .ref x3, .int x4, sm_J] [.int v, .int s1] w Q) := sm_q_gete d31_34 rfl h
theorem d31_37 : decode (sm_code 31) 37 = .ok (.if_icmp .ge 5, 3) := by decide +kernel
theorem r31_37 {X : sm_X} {w : sm_W} {Q : Option Value → sm_W → Prop} {x0 : Nat} {x1 : Nat} {x2 : Int32} {x3 : Nat} {x4 : Int32} {s0 : Int32} {s1 : Int32} : sm_R X 31 37 [.ref x0, .ref x1, .int x2, .ref x3, .int x4, sm_J] [.int s0, .int s1] w Q ↔ (if s0 ≤ s1 then sm_R X 31 42 [.ref x0, .ref x1, .int x2, .ref x3, .int x4, sm_J] [] w Q else sm_R X 31 40 [.ref x0, .ref x1, .int x2, .ref x3, .int x4, sm_J] [] w Q) := sm_q_br d31_37 rfl
theorem d31_40 : decode (sm_code 31) 40 = .ok (.iconst 4, 1) := by decide +kernel
theorem r31_40 {X : sm_X} {w : sm_W} {Q : Option Value → sm_W → Prop} {x0 : Nat} {x1 : Nat} {x2 : Int32} {x3 : Nat} {x4 : Int32} : sm_R X 31 40 [.ref x0, .ref x1, .int x2, .ref x3, .int x4, sm_J] [] w Q ↔ sm_R X 31 41 [.ref x0, .ref x1, .int x2, .ref x3, .int x4, sm_J] [.int 4] w Q := sm_R_go d31_40 rfl
theorem d31_41 : decode (sm_code 31) 41 = .ok (.ireturn, 1) := by decide +kernel
theorem r31_41 {X : sm_X} {w : sm_W} {Q : Option Value → sm_W → Prop} {x0 : Nat} {x1 : Nat} {x2 : Int32} {x3 : Nat} {x4 : Int32} {s0 : Int32} : sm_R X 31 41 [.ref x0, .ref x1, .int x2, .ref x3, .int x4, sm_J] [.int s0] w Q ↔ Q (some (.int s0)) w := sm_q_iret d31_41 rfl
theorem d31_42 : decode (sm_code 31) 42 = .ok (.aload_n 0, 1) := by decide +kernel
theorem r31_42 {X : sm_X} {w : sm_W} {Q : Option Value → sm_W → Prop} {x0 : Nat} {x1 : Nat} {x2 : Int32} {x3 : Nat} {x4 : Int32} : sm_R X 31 42 [.ref x0, .ref x1, .int x2, .ref x3, .int x4, sm_J] [] w Q ↔ sm_R X 31 43 [.ref x0, .ref x1, .int x2, .ref x3, .int x4, sm_J] [.ref x0] w Q := sm_R_go d31_42 rfl
theorem d31_43 : decode (sm_code 31) 43 = .ok (.dup, 1) := by decide +kernel
theorem r31_43 {X : sm_X} {w : sm_W} {Q : Option Value → sm_W → Prop} {x0 : Nat} {x1 : Nat} {x2 : Int32} {x3 : Nat} {x4 : Int32} {s0 : Nat} : sm_R X 31 43 [.ref x0, .ref x1, .int x2, .ref x3, .int x4, sm_J] [.ref s0] w Q ↔ sm_R X 31 44 [.ref x0, .ref x1, .int x2, .ref x3, .int x4, sm_J] [.ref s0, .ref s0] w Q := sm_R_go d31_43 rfl
theorem d31_44 : decode (sm_code 31) 44 = .ok (.getfield 44, 3) := by decide +kernel
theorem r31_44 {X : sm_X} {w : sm_W} {Q : Option Value → sm_W → Prop} {x0 : Nat} {x1 : Nat} {x2 : Int32} {x3 : Nat} {x4 : Int32} {s0 : Nat} {s1 : Nat} : sm_R X 31 44 [.ref x0, .ref x1, .int x2, .ref x3, .int x4, sm_J] [.ref s0, .ref s1] w Q ↔ sm_wp (sm_fld 2 3 (sm_at w s0)) (fun v => sm_R X 31 47 [.ref x0, .ref x1, .int x2, .ref x3, .int x4, sm_J] [v, .ref s1] w Q) := sm_q_getf d31_44 rfl (by decide)
theorem d31_47 : decode (sm_code 31) 47 = .ok (.aload_n 3, 1) := by decide +kernel
theorem r31_47 {X : sm_X} {w : sm_W} {Q : Option Value → sm_W → Prop} {x0 : Nat} {x1 : Nat} {x2 : Int32} {x3 : Nat} {x4 : Int32} {s0 : Int32} {s1 : Nat} : sm_R X 31 47 [.ref x0, .ref x1, .int x2, .ref x3, .int x4, sm_J] [.int s0, .ref s1] w Q ↔ sm_R X 31 48 [.ref x0, .ref x1, .int x2, .ref x3, .int x4, sm_J] [.ref x3, .int s0, .ref s1] w Q := sm_R_go d31_47 rfl
theorem d31_48 : decode (sm_code 31) 48 = .ok (.getfield 89, 3) := by decide +kernel
theorem r31_48 {X : sm_X} {w : sm_W} {Q : Option Value → sm_W → Prop} {x0 : Nat} {x1 : Nat} {x2 : Int32} {x3 : Nat} {x4 : Int32} {s0 : Nat} {s1 : Int32} {s2 : Nat} (h : s0 < 100) : sm_R X 31 48 [.ref x0, .ref x1, .int x2, .ref x3, .int x4, sm_J] [.ref s0, .int s1, .ref s2] w Q ↔ sm_wp (sm_enF 8 0 s0) (fun v => sm_R X 31 51 [.ref x0, .ref x1, .int x2, .ref x3, .int x4, sm_J] [.int v, .int s1, .ref s2] w Q) := sm_q_gete d31_48 rfl h
theorem d31_51 : decode (sm_code 31) 51 = .ok (.isub, 1) := by decide +kernel
theorem r31_51 {X : sm_X} {w : sm_W} {Q : Option Value → sm_W → Prop} {x0 : Nat} {x1 : Nat} {x2 : Int32} {x3 : Nat} {x4 : Int32} {s0 : Int32} {s1 : Int32} {s2 : Nat} : sm_R X 31 51 [.ref x0, .ref x1, .int x2, .ref x3, .int x4, sm_J] [.int s0, .int s1, .ref s2] w Q ↔ sm_R X 31 52 [.ref x0, .ref x1, .int x2, .ref x3, .int x4, sm_J] [.int (s1 - s0), .ref s2] w Q := sm_R_go d31_51 rfl
theorem d31_52 : decode (sm_code 31) 52 = .ok (.putfield 44, 3) := by decide +kernel
theorem r31_52 {X : sm_X} {w : sm_W} {Q : Option Value → sm_W → Prop} {x0 : Nat} {x1 : Nat} {x2 : Int32} {x3 : Nat} {x4 : Int32} {s0 : Int32} {s1 : Nat} : sm_R X 31 52 [.ref x0, .ref x1, .int x2, .ref x3, .int x4, sm_J] [.int s0, .ref s1] w Q ↔ sm_wp (sm_pfl 2 3 (.int s0) (sm_at w s1)) (fun c => sm_R X 31 55 [.ref x0, .ref x1, .int x2, .ref x3, .int x4, sm_J] [] (w.set (s1 - 100) c) Q) := sm_q_putf d31_52 rfl rfl rfl (by decide)
theorem d31_55 : decode (sm_code 31) 55 = .ok (.aload_n 0, 1) := by decide +kernel
theorem r31_55 {X : sm_X} {w : sm_W} {Q : Option Value → sm_W → Prop} {x0 : Nat} {x1 : Nat} {x2 : Int32} {x3 : Nat} {x4 : Int32} : sm_R X 31 55 [.ref x0, .ref x1, .int x2, .ref x3, .int x4, sm_J] [] w Q ↔ sm_R X 31 56 [.ref x0, .ref x1, .int x2, .ref x3, .int x4, sm_J] [.ref x0] w Q := sm_R_go d31_55 rfl
theorem d31_56 : decode (sm_code 31) 56 = .ok (.dup, 1) := by decide +kernel
theorem r31_56 {X : sm_X} {w : sm_W} {Q : Option Value → sm_W → Prop} {x0 : Nat} {x1 : Nat} {x2 : Int32} {x3 : Nat} {x4 : Int32} {s0 : Nat} : sm_R X 31 56 [.ref x0, .ref x1, .int x2, .ref x3, .int x4, sm_J] [.ref s0] w Q ↔ sm_R X 31 57 [.ref x0, .ref x1, .int x2, .ref x3, .int x4, sm_J] [.ref s0, .ref s0] w Q := sm_R_go d31_56 rfl
theorem d31_57 : decode (sm_code 31) 57 = .ok (.getfield 47, 3) := by decide +kernel
theorem r31_57 {X : sm_X} {w : sm_W} {Q : Option Value → sm_W → Prop} {x0 : Nat} {x1 : Nat} {x2 : Int32} {x3 : Nat} {x4 : Int32} {s0 : Nat} {s1 : Nat} : sm_R X 31 57 [.ref x0, .ref x1, .int x2, .ref x3, .int x4, sm_J] [.ref s0, .ref s1] w Q ↔ sm_wp (sm_fld 2 4 (sm_at w s0)) (fun v => sm_R X 31 60 [.ref x0, .ref x1, .int x2, .ref x3, .int x4, sm_J] [v, .ref s1] w Q) := sm_q_getf d31_57 rfl (by decide)
theorem d31_60 : decode (sm_code 31) 60 = .ok (.aload_n 3, 1) := by decide +kernel
theorem r31_60 {X : sm_X} {w : sm_W} {Q : Option Value → sm_W → Prop} {x0 : Nat} {x1 : Nat} {x2 : Int32} {x3 : Nat} {x4 : Int32} {s0 : Int32} {s1 : Nat} : sm_R X 31 60 [.ref x0, .ref x1, .int x2, .ref x3, .int x4, sm_J] [.int s0, .ref s1] w Q ↔ sm_R X 31 61 [.ref x0, .ref x1, .int x2, .ref x3, .int x4, sm_J] [.ref x3, .int s0, .ref s1] w Q := sm_R_go d31_60 rfl
theorem d31_61 : decode (sm_code 31) 61 = .ok (.getfield 89, 3) := by decide +kernel
theorem r31_61 {X : sm_X} {w : sm_W} {Q : Option Value → sm_W → Prop} {x0 : Nat} {x1 : Nat} {x2 : Int32} {x3 : Nat} {x4 : Int32} {s0 : Nat} {s1 : Int32} {s2 : Nat} (h : s0 < 100) : sm_R X 31 61 [.ref x0, .ref x1, .int x2, .ref x3, .int x4, sm_J] [.ref s0, .int s1, .ref s2] w Q ↔ sm_wp (sm_enF 8 0 s0) (fun v => sm_R X 31 64 [.ref x0, .ref x1, .int x2, .ref x3, .int x4, sm_J] [.int v, .int s1, .ref s2] w Q) := sm_q_gete d31_61 rfl h
theorem d31_64 : decode (sm_code 31) 64 = .ok (.iadd, 1) := by decide +kernel
theorem r31_64 {X : sm_X} {w : sm_W} {Q : Option Value → sm_W → Prop} {x0 : Nat} {x1 : Nat} {x2 : Int32} {x3 : Nat} {x4 : Int32} {s0 : Int32} {s1 : Int32} {s2 : Nat} : sm_R X 31 64 [.ref x0, .ref x1, .int x2, .ref x3, .int x4, sm_J] [.int s0, .int s1, .ref s2] w Q ↔ sm_R X 31 65 [.ref x0, .ref x1, .int x2, .ref x3, .int x4, sm_J] [.int (s1 + s0), .ref s2] w Q := sm_R_go d31_64 rfl
theorem d31_65 : decode (sm_code 31) 65 = .ok (.putfield 47, 3) := by decide +kernel
theorem r31_65 {X : sm_X} {w : sm_W} {Q : Option Value → sm_W → Prop} {x0 : Nat} {x1 : Nat} {x2 : Int32} {x3 : Nat} {x4 : Int32} {s0 : Int32} {s1 : Nat} : sm_R X 31 65 [.ref x0, .ref x1, .int x2, .ref x3, .int x4, sm_J] [.int s0, .ref s1] w Q ↔ sm_wp (sm_pfl 2 4 (.int s0) (sm_at w s1)) (fun c => sm_R X 31 68 [.ref x0, .ref x1, .int x2, .ref x3, .int x4, sm_J] [] (w.set (s1 - 100) c) Q) := sm_q_putf d31_65 rfl rfl rfl (by decide)
theorem d31_68 : decode (sm_code 31) 68 = .ok (.aload_n 0, 1) := by decide +kernel
theorem r31_68 {X : sm_X} {w : sm_W} {Q : Option Value → sm_W → Prop} {x0 : Nat} {x1 : Nat} {x2 : Int32} {x3 : Nat} {x4 : Int32} : sm_R X 31 68 [.ref x0, .ref x1, .int x2, .ref x3, .int x4, sm_J] [] w Q ↔ sm_R X 31 69 [.ref x0, .ref x1, .int x2, .ref x3, .int x4, sm_J] [.ref x0] w Q := sm_R_go d31_68 rfl
theorem d31_69 : decode (sm_code 31) 69 = .ok (.dup, 1) := by decide +kernel
theorem r31_69 {X : sm_X} {w : sm_W} {Q : Option Value → sm_W → Prop} {x0 : Nat} {x1 : Nat} {x2 : Int32} {x3 : Nat} {x4 : Int32} {s0 : Nat} : sm_R X 31 69 [.ref x0, .ref x1, .int x2, .ref x3, .int x4, sm_J] [.ref s0] w Q ↔ sm_R X 31 70 [.ref x0, .ref x1, .int x2, .ref x3, .int x4, sm_J] [.ref s0, .ref s0] w Q := sm_R_go d31_69 rfl
theorem d31_70 : decode (sm_code 31) 70 = .ok (.getfield 50, 3) := by decide +kernel
theorem r31_70 {X : sm_X} {w : sm_W} {Q : Option Value → sm_W → Prop} {x0 : Nat} {x1 : Nat} {x2 : Int32} {x3 : Nat} {x4 : Int32} {s0 : Nat} {s1 : Nat} : sm_R X 31 70 [.ref x0, .ref x1, .int x2, .ref x3, .int x4, sm_J] [.ref s0, .ref s1] w Q ↔ sm_wp (sm_fld 2 5 (sm_at w s0)) (fun v => sm_R X 31 73 [.ref x0, .ref x1, .int x2, .ref x3, .int x4, sm_J] [v, .ref s1] w Q) := sm_q_getf d31_70 rfl (by decide)
theorem d31_73 : decode (sm_code 31) 73 = .ok (.iconst 1, 1) := by decide +kernel
theorem r31_73 {X : sm_X} {w : sm_W} {Q : Option Value → sm_W → Prop} {x0 : Nat} {x1 : Nat} {x2 : Int32} {x3 : Nat} {x4 : Int32} {s0 : Int32} {s1 : Nat} : sm_R X 31 73 [.ref x0, .ref x1, .int x2, .ref x3, .int x4, sm_J] [.int s0, .ref s1] w Q ↔ sm_R X 31 74 [.ref x0, .ref x1, .int x2, .ref x3, .int x4, sm_J] [.int 1, .int s0, .ref s1] w Q := sm_R_go d31_73 rfl
theorem d31_74 : decode (sm_code 31) 74 = .ok (.iadd, 1) := by decide +kernel
theorem r31_74 {X : sm_X} {w : sm_W} {Q : Option Value → sm_W → Prop} {x0 : Nat} {x1 : Nat} {x2 : Int32} {x3 : Nat} {x4 : Int32} {s0 : Int32} {s1 : Int32} {s2 : Nat} : sm_R X 31 74 [.ref x0, .ref x1, .int x2, .ref x3, .int x4, sm_J] [.int s0, .int s1, .ref s2] w Q ↔ sm_R X 31 75 [.ref x0, .ref x1, .int x2, .ref x3, .int x4, sm_J] [.int (s1 + s0), .ref s2] w Q := sm_R_go d31_74 rfl
theorem d31_75 : decode (sm_code 31) 75 = .ok (.putfield 50, 3) := by decide +kernel
theorem r31_75 {X : sm_X} {w : sm_W} {Q : Option Value → sm_W → Prop} {x0 : Nat} {x1 : Nat} {x2 : Int32} {x3 : Nat} {x4 : Int32} {s0 : Int32} {s1 : Nat} : sm_R X 31 75 [.ref x0, .ref x1, .int x2, .ref x3, .int x4, sm_J] [.int s0, .ref s1] w Q ↔ sm_wp (sm_pfl 2 5 (.int s0) (sm_at w s1)) (fun c => sm_R X 31 78 [.ref x0, .ref x1, .int x2, .ref x3, .int x4, sm_J] [] (w.set (s1 - 100) c) Q) := sm_q_putf d31_75 rfl rfl rfl (by decide)
theorem d31_78 : decode (sm_code 31) 78 = .ok (.aload_n 0, 1) := by decide +kernel
theorem r31_78 {X : sm_X} {w : sm_W} {Q : Option Value → sm_W → Prop} {x0 : Nat} {x1 : Nat} {x2 : Int32} {x3 : Nat} {x4 : Int32} : sm_R X 31 78 [.ref x0, .ref x1, .int x2, .ref x3, .int x4, sm_J] [] w Q ↔ sm_R X 31 79 [.ref x0, .ref x1, .int x2, .ref x3, .int x4, sm_J] [.ref x0] w Q := sm_R_go d31_78 rfl
theorem d31_79 : decode (sm_code 31) 79 = .ok (.iload_n 2, 1) := by decide +kernel
theorem r31_79 {X : sm_X} {w : sm_W} {Q : Option Value → sm_W → Prop} {x0 : Nat} {x1 : Nat} {x2 : Int32} {x3 : Nat} {x4 : Int32} {s0 : Nat} : sm_R X 31 79 [.ref x0, .ref x1, .int x2, .ref x3, .int x4, sm_J] [.ref s0] w Q ↔ sm_R X 31 80 [.ref x0, .ref x1, .int x2, .ref x3, .int x4, sm_J] [.int x2, .ref s0] w Q := sm_R_go d31_79 rfl
theorem d31_80 : decode (sm_code 31) 80 = .ok (.iconst 1, 1) := by decide +kernel
theorem r31_80 {X : sm_X} {w : sm_W} {Q : Option Value → sm_W → Prop} {x0 : Nat} {x1 : Nat} {x2 : Int32} {x3 : Nat} {x4 : Int32} {s0 : Int32} {s1 : Nat} : sm_R X 31 80 [.ref x0, .ref x1, .int x2, .ref x3, .int x4, sm_J] [.int s0, .ref s1] w Q ↔ sm_R X 31 81 [.ref x0, .ref x1, .int x2, .ref x3, .int x4, sm_J] [.int 1, .int s0, .ref s1] w Q := sm_R_go d31_80 rfl
theorem d31_81 : decode (sm_code 31) 81 = .ok (.iadd, 1) := by decide +kernel
theorem r31_81 {X : sm_X} {w : sm_W} {Q : Option Value → sm_W → Prop} {x0 : Nat} {x1 : Nat} {x2 : Int32} {x3 : Nat} {x4 : Int32} {s0 : Int32} {s1 : Int32} {s2 : Nat} : sm_R X 31 81 [.ref x0, .ref x1, .int x2, .ref x3, .int x4, sm_J] [.int s0, .int s1, .ref s2] w Q ↔ sm_R X 31 82 [.ref x0, .ref x1, .int x2, .ref x3, .int x4, sm_J] [.int (s1 + s0), .ref s2] w Q := sm_R_go d31_81 rfl
theorem d31_82 : decode (sm_code 31) 82 = .ok (.putfield 61, 3) := by decide +kernel
theorem r31_82 {X : sm_X} {w : sm_W} {Q : Option Value → sm_W → Prop} {x0 : Nat} {x1 : Nat} {x2 : Int32} {x3 : Nat} {x4 : Int32} {s0 : Int32} {s1 : Nat} : sm_R X 31 82 [.ref x0, .ref x1, .int x2, .ref x3, .int x4, sm_J] [.int s0, .ref s1] w Q ↔ sm_wp (sm_pfl 2 9 (.int s0) (sm_at w s1)) (fun c => sm_R X 31 85 [.ref x0, .ref x1, .int x2, .ref x3, .int x4, sm_J] [] (w.set (s1 - 100) c) Q) := sm_q_putf d31_82 rfl rfl rfl (by decide)
theorem d31_85 : decode (sm_code 31) 85 = .ok (.aload_n 0, 1) := by decide +kernel
theorem r31_85 {X : sm_X} {w : sm_W} {Q : Option Value → sm_W → Prop} {x0 : Nat} {x1 : Nat} {x2 : Int32} {x3 : Nat} {x4 : Int32} : sm_R X 31 85 [.ref x0, .ref x1, .int x2, .ref x3, .int x4, sm_J] [] w Q ↔ sm_R X 31 86 [.ref x0, .ref x1, .int x2, .ref x3, .int x4, sm_J] [.ref x0] w Q := sm_R_go d31_85 rfl
theorem d31_86 : decode (sm_code 31) 86 = .ok (.getfield 12, 3) := by decide +kernel
theorem r31_86 {X : sm_X} {w : sm_W} {Q : Option Value → sm_W → Prop} {x0 : Nat} {x1 : Nat} {x2 : Int32} {x3 : Nat} {x4 : Int32} {s0 : Nat} : sm_R X 31 86 [.ref x0, .ref x1, .int x2, .ref x3, .int x4, sm_J] [.ref s0] w Q ↔ sm_wp (sm_fld 2 2 (sm_at w s0)) (fun v => sm_R X 31 89 [.ref x0, .ref x1, .int x2, .ref x3, .int x4, sm_J] [v] w Q) := sm_q_getf d31_86 rfl (by decide)
theorem d31_89 : decode (sm_code 31) 89 = .ok (.aload_n 3, 1) := by decide +kernel
theorem r31_89 {X : sm_X} {w : sm_W} {Q : Option Value → sm_W → Prop} {x0 : Nat} {x1 : Nat} {x2 : Int32} {x3 : Nat} {x4 : Int32} {s0 : Nat} : sm_R X 31 89 [.ref x0, .ref x1, .int x2, .ref x3, .int x4, sm_J] [.ref s0] w Q ↔ sm_R X 31 90 [.ref x0, .ref x1, .int x2, .ref x3, .int x4, sm_J] [.ref x3, .ref s0] w Q := sm_R_go d31_89 rfl
theorem d31_90 : decode (sm_code 31) 90 = .ok (.invokevirtual 94, 3) := by decide +kernel
theorem r31_90 {X : sm_X} {w : sm_W} {Q : Option Value → sm_W → Prop} {x0 : Nat} {x1 : Nat} {x2 : Int32} {x3 : Nat} {x4 : Int32} {s0 : Nat} {s1 : Nat} : sm_R X 31 90 [.ref x0, .ref x1, .int x2, .ref x3, .int x4, sm_J] [.ref s0, .ref s1] w Q ↔ (sm_cN (sm_at w s1) = some 4 ∧ sm_R X 32 0 [.ref s1, .ref s0, sm_J] [] w (fun v w => sm_R X 31 93 [.ref x0, .ref x1, .int x2, .ref x3, .int x4, sm_J] (v.toList ++ []) w Q)) := sm_q_vir (k := 32) (as := [.ref s1, .ref s0]) (rest := []) d31_90 rfl rfl rfl rfl rfl
theorem d31_93 : decode (sm_code 31) 93 = .ok (.istore 5, 2) := by decide +kernel
theorem r31_93 {X : sm_X} {w : sm_W} {Q : Option Value → sm_W → Prop} {x0 : Nat} {x1 : Nat} {x2 : Int32} {x3 : Nat} {x4 : Int32} {s0 : Int32} : sm_R X 31 93 [.ref x0, .ref x1, .int x2, .ref x3, .int x4, sm_J] [.int s0] w Q ↔ sm_R X 31 95 [.ref x0, .ref x1, .int x2, .ref x3, .int x4, .int s0] [] w Q := sm_R_go d31_93 rfl
theorem d31_95 : decode (sm_code 31) 95 = .ok (.iload 5, 2) := by decide +kernel
theorem r31_95 {X : sm_X} {w : sm_W} {Q : Option Value → sm_W → Prop} {x0 : Nat} {x1 : Nat} {x2 : Int32} {x3 : Nat} {x4 : Int32} {x5 : Int32} : sm_R X 31 95 [.ref x0, .ref x1, .int x2, .ref x3, .int x4, .int x5] [] w Q ↔ sm_R X 31 97 [.ref x0, .ref x1, .int x2, .ref x3, .int x4, .int x5] [.int x5] w Q := sm_R_go d31_95 rfl
theorem d31_97 : decode (sm_code 31) 97 = .ok (.ifCond .eq 6, 3) := by decide +kernel
theorem r31_97 {X : sm_X} {w : sm_W} {Q : Option Value → sm_W → Prop} {x0 : Nat} {x1 : Nat} {x2 : Int32} {x3 : Nat} {x4 : Int32} {x5 : Int32} {s0 : Int32} : sm_R X 31 97 [.ref x0, .ref x1, .int x2, .ref x3, .int x4, .int x5] [.int s0] w Q ↔ (if s0 = 0 then sm_R X 31 103 [.ref x0, .ref x1, .int x2, .ref x3, .int x4, .int x5] [] w Q else sm_R X 31 100 [.ref x0, .ref x1, .int x2, .ref x3, .int x4, .int x5] [] w Q) := sm_q_br d31_97 rfl
theorem d31_100 : decode (sm_code 31) 100 = .ok (.iload 5, 2) := by decide +kernel
theorem r31_100 {X : sm_X} {w : sm_W} {Q : Option Value → sm_W → Prop} {x0 : Nat} {x1 : Nat} {x2 : Int32} {x3 : Nat} {x4 : Int32} {x5 : Int32} : sm_R X 31 100 [.ref x0, .ref x1, .int x2, .ref x3, .int x4, .int x5] [] w Q ↔ sm_R X 31 102 [.ref x0, .ref x1, .int x2, .ref x3, .int x4, .int x5] [.int x5] w Q := sm_R_go d31_100 rfl
theorem d31_102 : decode (sm_code 31) 102 = .ok (.ireturn, 1) := by decide +kernel
theorem r31_102 {X : sm_X} {w : sm_W} {Q : Option Value → sm_W → Prop} {x0 : Nat} {x1 : Nat} {x2 : Int32} {x3 : Nat} {x4 : Int32} {x5 : Int32} {s0 : Int32} : sm_R X 31 102 [.ref x0, .ref x1, .int x2, .ref x3, .int x4, .int x5] [.int s0] w Q ↔ Q (some (.int s0)) w := sm_q_iret d31_102 rfl
theorem d31_103 : decode (sm_code 31) 103 = .ok (.aload_n 3, 1) := by decide +kernel
theorem r31_103 {X : sm_X} {w : sm_W} {Q : Option Value → sm_W → Prop} {x0 : Nat} {x1 : Nat} {x2 : Int32} {x3 : Nat} {x4 : Int32} {x5 : Int32} : sm_R X 31 103 [.ref x0, .ref x1, .int x2, .ref x3, .int x4, .int x5] [] w Q ↔ sm_R X 31 104 [.ref x0, .ref x1, .int x2, .ref x3, .int x4, .int x5] [.ref x3] w Q := sm_R_go d31_103 rfl
theorem d31_104 : decode (sm_code 31) 104 = .ok (.invokevirtual 98, 3) := by decide +kernel
theorem r31_104 {X : sm_X} {w : sm_W} {Q : Option Value → sm_W → Prop} {x0 : Nat} {x1 : Nat} {x2 : Int32} {x3 : Nat} {x4 : Int32} {x5 : Int32} {s0 : Nat} (h : s0 < 31) : sm_R X 31 104 [.ref x0, .ref x1, .int x2, .ref x3, .int x4, .int x5] [.ref s0] w Q ↔ sm_R X 33 0 [.ref s0] [] w (fun v w => sm_R X 31 107 [.ref x0, .ref x1, .int x2, .ref x3, .int x4, .int x5] (v.toList ++ []) w Q) := sm_q_virE (k := 33) (as := [.ref s0]) (rest := []) d31_104 rfl rfl rfl h rfl rfl
theorem d31_107 : decode (sm_code 31) 107 = .ok (.lookupswitch 41 #[(0, 25), (1, 33)], 25) := by decide +kernel
theorem r31_107 {X : sm_X} {w : sm_W} {Q : Option Value → sm_W → Prop} {x0 : Nat} {x1 : Nat} {x2 : Int32} {x3 : Nat} {x4 : Int32} {x5 : Int32} {s0 : Int32} : sm_R X 31 107 [.ref x0, .ref x1, .int x2, .ref x3, .int x4, .int x5] [.int s0] w Q ↔ (if s0 = 0 then sm_R X 31 132 [.ref x0, .ref x1, .int x2, .ref x3, .int x4, .int x5] [] w Q else (if s0 = 1 then sm_R X 31 140 [.ref x0, .ref x1, .int x2, .ref x3, .int x4, .int x5] [] w Q else sm_R X 31 148 [.ref x0, .ref x1, .int x2, .ref x3, .int x4, .int x5] [] w Q)) := sm_q_look2 d31_107 (by decide) (by decide) (by decide)
theorem d31_132 : decode (sm_code 31) 132 = .ok (.aload_n 0, 1) := by decide +kernel
theorem r31_132 {X : sm_X} {w : sm_W} {Q : Option Value → sm_W → Prop} {x0 : Nat} {x1 : Nat} {x2 : Int32} {x3 : Nat} {x4 : Int32} {x5 : Int32} : sm_R X 31 132 [.ref x0, .ref x1, .int x2, .ref x3, .int x4, .int x5] [] w Q ↔ sm_R X 31 133 [.ref x0, .ref x1, .int x2, .ref x3, .int x4, .int x5] [.ref x0] w Q := sm_R_go d31_132 rfl
theorem d31_133 : decode (sm_code 31) 133 = .ok (.aload_n 3, 1) := by decide +kernel
theorem r31_133 {X : sm_X} {w : sm_W} {Q : Option Value → sm_W → Prop} {x0 : Nat} {x1 : Nat} {x2 : Int32} {x3 : Nat} {x4 : Int32} {x5 : Int32} {s0 : Nat} : sm_R X 31 133 [.ref x0, .ref x1, .int x2, .ref x3, .int x4, .int x5] [.ref s0] w Q ↔ sm_R X 31 134 [.ref x0, .ref x1, .int x2, .ref x3, .int x4, .int x5] [.ref x3, .ref s0] w Q := sm_R_go d31_133 rfl
theorem d31_134 : decode (sm_code 31) 134 = .ok (.iload 4, 2) := by decide +kernel
theorem r31_134 {X : sm_X} {w : sm_W} {Q : Option Value → sm_W → Prop} {x0 : Nat} {x1 : Nat} {x2 : Int32} {x3 : Nat} {x4 : Int32} {x5 : Int32} {s0 : Nat} {s1 : Nat} : sm_R X 31 134 [.ref x0, .ref x1, .int x2, .ref x3, .int x4, .int x5] [.ref s0, .ref s1] w Q ↔ sm_R X 31 136 [.ref x0, .ref x1, .int x2, .ref x3, .int x4, .int x5] [.int x4, .ref s0, .ref s1] w Q := sm_R_go d31_134 rfl
theorem d31_136 : decode (sm_code 31) 136 = .ok (.invokevirtual 101, 3) := by decide +kernel
theorem r31_136 {X : sm_X} {w : sm_W} {Q : Option Value → sm_W → Prop} {x0 : Nat} {x1 : Nat} {x2 : Int32} {x3 : Nat} {x4 : Int32} {x5 : Int32} {s0 : Int32} {s1 : Nat} {s2 : Nat} : sm_R X 31 136 [.ref x0, .ref x1, .int x2, .ref x3, .int x4, .int x5] [.int s0, .ref s1, .ref s2] w Q ↔ (sm_cN (sm_at w s2) = some 2 ∧ sm_R X 34 0 [.ref s2, .ref s1, .int s0] [] w (fun v w => sm_R X 31 139 [.ref x0, .ref x1, .int x2, .ref x3, .int x4, .int x5] (v.toList ++ []) w Q)) := sm_q_vir (k := 34) (as := [.ref s2, .ref s1, .int s0]) (rest := []) d31_136 rfl rfl rfl rfl rfl
theorem d31_139 : decode (sm_code 31) 139 = .ok (.ireturn, 1) := by decide +kernel
theorem r31_139 {X : sm_X} {w : sm_W} {Q : Option Value → sm_W → Prop} {x0 : Nat} {x1 : Nat} {x2 : Int32} {x3 : Nat} {x4 : Int32} {x5 : Int32} {s0 : Int32} : sm_R X 31 139 [.ref x0, .ref x1, .int x2, .ref x3, .int x4, .int x5] [.int s0] w Q ↔ Q (some (.int s0)) w := sm_q_iret d31_139 rfl
theorem d31_140 : decode (sm_code 31) 140 = .ok (.aload_n 0, 1) := by decide +kernel
theorem r31_140 {X : sm_X} {w : sm_W} {Q : Option Value → sm_W → Prop} {x0 : Nat} {x1 : Nat} {x2 : Int32} {x3 : Nat} {x4 : Int32} {x5 : Int32} : sm_R X 31 140 [.ref x0, .ref x1, .int x2, .ref x3, .int x4, .int x5] [] w Q ↔ sm_R X 31 141 [.ref x0, .ref x1, .int x2, .ref x3, .int x4, .int x5] [.ref x0] w Q := sm_R_go d31_140 rfl
theorem d31_141 : decode (sm_code 31) 141 = .ok (.aload_n 3, 1) := by decide +kernel
theorem r31_141 {X : sm_X} {w : sm_W} {Q : Option Value → sm_W → Prop} {x0 : Nat} {x1 : Nat} {x2 : Int32} {x3 : Nat} {x4 : Int32} {x5 : Int32} {s0 : Nat} : sm_R X 31 141 [.ref x0, .ref x1, .int x2, .ref x3, .int x4, .int x5] [.ref s0] w Q ↔ sm_R X 31 142 [.ref x0, .ref x1, .int x2, .ref x3, .int x4, .int x5] [.ref x3, .ref s0] w Q := sm_R_go d31_141 rfl
theorem d31_142 : decode (sm_code 31) 142 = .ok (.iload 4, 2) := by decide +kernel
theorem r31_142 {X : sm_X} {w : sm_W} {Q : Option Value → sm_W → Prop} {x0 : Nat} {x1 : Nat} {x2 : Int32} {x3 : Nat} {x4 : Int32} {x5 : Int32} {s0 : Nat} {s1 : Nat} : sm_R X 31 142 [.ref x0, .ref x1, .int x2, .ref x3, .int x4, .int x5] [.ref s0, .ref s1] w Q ↔ sm_R X 31 144 [.ref x0, .ref x1, .int x2, .ref x3, .int x4, .int x5] [.int x4, .ref s0, .ref s1] w Q := sm_R_go d31_142 rfl
theorem d31_144 : decode (sm_code 31) 144 = .ok (.invokevirtual 105, 3) := by decide +kernel
theorem r31_144 {X : sm_X} {w : sm_W} {Q : Option Value → sm_W → Prop} {x0 : Nat} {x1 : Nat} {x2 : Int32} {x3 : Nat} {x4 : Int32} {x5 : Int32} {s0 : Int32} {s1 : Nat} {s2 : Nat} : sm_R X 31 144 [.ref x0, .ref x1, .int x2, .ref x3, .int x4, .int x5] [.int s0, .ref s1, .ref s2] w Q ↔ (sm_cN (sm_at w s2) = some 2 ∧ sm_R X 37 0 [.ref s2, .ref s1, .int s0, sm_J, sm_J] [] w (fun v w => sm_R X 31 147 [.ref x0, .ref x1, .int x2, .ref x3, .int x4, .int x5] (v.toList ++ []) w Q)) := sm_q_vir (k := 37) (as := [.ref s2, .ref s1, .int s0]) (rest := []) d31_144 rfl rfl rfl rfl rfl
theorem d31_147 : decode (sm_code 31) 147 = .ok (.ireturn, 1) := by decide +kernel
theorem r31_147 {X : sm_X} {w : sm_W} {Q : Option Value → sm_W → Prop} {x0 : Nat} {x1 : Nat} {x2 : Int32} {x3 : Nat} {x4 : Int32} {x5 : Int32} {s0 : Int32} : sm_R X 31 147 [.ref x0, .ref x1, .int x2, .ref x3, .int x4, .int x5] [.int s0] w Q ↔ Q (some (.int s0)) w := sm_q_iret d31_147 rfl
theorem d31_148 : decode (sm_code 31) 148 = .ok (.aload_n 0, 1) := by decide +kernel
theorem r31_148 {X : sm_X} {w : sm_W} {Q : Option Value → sm_W → Prop} {x0 : Nat} {x1 : Nat} {x2 : Int32} {x3 : Nat} {x4 : Int32} {x5 : Int32} : sm_R X 31 148 [.ref x0, .ref x1, .int x2, .ref x3, .int x4, .int x5] [] w Q ↔ sm_R X 31 149 [.ref x0, .ref x1, .int x2, .ref x3, .int x4, .int x5] [.ref x0] w Q := sm_R_go d31_148 rfl
theorem d31_149 : decode (sm_code 31) 149 = .ok (.aload_n 3, 1) := by decide +kernel
theorem r31_149 {X : sm_X} {w : sm_W} {Q : Option Value → sm_W → Prop} {x0 : Nat} {x1 : Nat} {x2 : Int32} {x3 : Nat} {x4 : Int32} {x5 : Int32} {s0 : Nat} : sm_R X 31 149 [.ref x0, .ref x1, .int x2, .ref x3, .int x4, .int x5] [.ref s0] w Q ↔ sm_R X 31 150 [.ref x0, .ref x1, .int x2, .ref x3, .int x4, .int x5] [.ref x3, .ref s0] w Q := sm_R_go d31_149 rfl
theorem d31_150 : decode (sm_code 31) 150 = .ok (.iload 4, 2) := by decide +kernel
theorem r31_150 {X : sm_X} {w : sm_W} {Q : Option Value → sm_W → Prop} {x0 : Nat} {x1 : Nat} {x2 : Int32} {x3 : Nat} {x4 : Int32} {x5 : Int32} {s0 : Nat} {s1 : Nat} : sm_R X 31 150 [.ref x0, .ref x1, .int x2, .ref x3, .int x4, .int x5] [.ref s0, .ref s1] w Q ↔ sm_R X 31 152 [.ref x0, .ref x1, .int x2, .ref x3, .int x4, .int x5] [.int x4, .ref s0, .ref s1] w Q := sm_R_go d31_150 rfl
theorem d31_152 : decode (sm_code 31) 152 = .ok (.invokevirtual 108, 3) := by decide +kernel
theorem r31_152 {X : sm_X} {w : sm_W} {Q : Option Value → sm_W → Prop} {x0 : Nat} {x1 : Nat} {x2 : Int32} {x3 : Nat} {x4 : Int32} {x5 : Int32} {s0 : Int32} {s1 : Nat} {s2 : Nat} : sm_R X 31 152 [.ref x0, .ref x1, .int x2, .ref x3, .int x4, .int x5] [.int s0, .ref s1, .ref s2] w Q ↔ (sm_cN (sm_at w s2) = some 2 ∧ sm_R X 44 0 [.ref s2, .ref s1, .int s0, sm_J, sm_J, sm_J, sm_J] [] w (fun v w => sm_R X 31 155 [.ref x0, .ref x1, .int x2, .ref x3, .int x4, .int x5] (v.toList ++ []) w Q)) := sm_q_vir (k := 44) (as := [.ref s2, .ref s1, .int s0]) (rest := []) d31_152 rfl rfl rfl rfl rfl
theorem d31_155 : decode (sm_code 31) 155 = .ok (.ireturn, 1) := by decide +kernel
theorem r31_155 {X : sm_X} {w : sm_W} {Q : Option Value → sm_W → Prop} {x0 : Nat} {x1 : Nat} {x2 : Int32} {x3 : Nat} {x4 : Int32} {x5 : Int32} {s0 : Int32} : sm_R X 31 155 [.ref x0, .ref x1, .int x2, .ref x3, .int x4, .int x5] [.int s0] w Q ↔ Q (some (.int s0)) w := sm_q_iret d31_155 rfl
-- GroupLedger$Stack.faultOfTaking(LGroupLedger$Op;)I
theorem d32_0 : decode (sm_code 32) 0 = .ok (.aload_n 1, 1) := by decide +kernel
theorem r32_0 {X : sm_X} {w : sm_W} {Q : Option Value → sm_W → Prop} {x0 : Nat} {x1 : Nat} : sm_R X 32 0 [.ref x0, .ref x1, sm_J] [] w Q ↔ sm_R X 32 1 [.ref x0, .ref x1, sm_J] [.ref x1] w Q := sm_R_go d32_0 rfl
theorem d32_1 : decode (sm_code 32) 1 = .ok (.invokevirtual 18, 3) := by decide +kernel
theorem r32_1 {X : sm_X} {w : sm_W} {Q : Option Value → sm_W → Prop} {x0 : Nat} {x1 : Nat} {s0 : Nat} (h : s0 < 31) : sm_R X 32 1 [.ref x0, .ref x1, sm_J] [.ref s0] w Q ↔ sm_R X 33 0 [.ref s0] [] w (fun v w => sm_R X 32 4 [.ref x0, .ref x1, sm_J] (v.toList ++ []) w Q) := sm_q_virE (k := 33) (as := [.ref s0]) (rest := []) d32_1 rfl rfl rfl h rfl rfl
theorem d32_4 : decode (sm_code 32) 4 = .ok (.istore_n 2, 1) := by decide +kernel
theorem r32_4 {X : sm_X} {w : sm_W} {Q : Option Value → sm_W → Prop} {x0 : Nat} {x1 : Nat} {s0 : Int32} : sm_R X 32 4 [.ref x0, .ref x1, sm_J] [.int s0] w Q ↔ sm_R X 32 5 [.ref x0, .ref x1, .int s0] [] w Q := sm_R_go d32_4 rfl
theorem d32_5 : decode (sm_code 32) 5 = .ok (.aload_n 0, 1) := by decide +kernel
theorem r32_5 {X : sm_X} {w : sm_W} {Q : Option Value → sm_W → Prop} {x0 : Nat} {x1 : Nat} {x2 : Int32} : sm_R X 32 5 [.ref x0, .ref x1, .int x2] [] w Q ↔ sm_R X 32 6 [.ref x0, .ref x1, .int x2] [.ref x0] w Q := sm_R_go d32_5 rfl
theorem d32_6 : decode (sm_code 32) 6 = .ok (.getfield 24, 3) := by decide +kernel
theorem r32_6 {X : sm_X} {w : sm_W} {Q : Option Value → sm_W → Prop} {x0 : Nat} {x1 : Nat} {x2 : Int32} {s0 : Nat} : sm_R X 32 6 [.ref x0, .ref x1, .int x2] [.ref s0] w Q ↔ sm_wp (sm_fld 4 2 (sm_at w s0)) (fun v => sm_R X 32 9 [.ref x0, .ref x1, .int x2] [v] w Q) := sm_q_getf d32_6 rfl (by decide)
theorem d32_9 : decode (sm_code 32) 9 = .ok (.iload_n 2, 1) := by decide +kernel
theorem r32_9 {X : sm_X} {w : sm_W} {Q : Option Value → sm_W → Prop} {x0 : Nat} {x1 : Nat} {x2 : Int32} {s0 : Int32} : sm_R X 32 9 [.ref x0, .ref x1, .int x2] [.int s0] w Q ↔ sm_R X 32 10 [.ref x0, .ref x1, .int x2] [.int x2, .int s0] w Q := sm_R_go d32_9 rfl
theorem d32_10 : decode (sm_code 32) 10 = .ok (.if_icmp .ge 5, 3) := by decide +kernel
theorem r32_10 {X : sm_X} {w : sm_W} {Q : Option Value → sm_W → Prop} {x0 : Nat} {x1 : Nat} {x2 : Int32} {s0 : Int32} {s1 : Int32} : sm_R X 32 10 [.ref x0, .ref x1, .int x2] [.int s0, .int s1] w Q ↔ (if s0 ≤ s1 then sm_R X 32 15 [.ref x0, .ref x1, .int x2] [] w Q else sm_R X 32 13 [.ref x0, .ref x1, .int x2] [] w Q) := sm_q_br d32_10 rfl
theorem d32_13 : decode (sm_code 32) 13 = .ok (.iconst 1, 1) := by decide +kernel
theorem r32_13 {X : sm_X} {w : sm_W} {Q : Option Value → sm_W → Prop} {x0 : Nat} {x1 : Nat} {x2 : Int32} : sm_R X 32 13 [.ref x0, .ref x1, .int x2] [] w Q ↔ sm_R X 32 14 [.ref x0, .ref x1, .int x2] [.int 1] w Q := sm_R_go d32_13 rfl
theorem d32_14 : decode (sm_code 32) 14 = .ok (.ireturn, 1) := by decide +kernel
theorem r32_14 {X : sm_X} {w : sm_W} {Q : Option Value → sm_W → Prop} {x0 : Nat} {x1 : Nat} {x2 : Int32} {s0 : Int32} : sm_R X 32 14 [.ref x0, .ref x1, .int x2] [.int s0] w Q ↔ Q (some (.int s0)) w := sm_q_iret d32_14 rfl
theorem d32_15 : decode (sm_code 32) 15 = .ok (.iload_n 2, 1) := by decide +kernel
theorem r32_15 {X : sm_X} {w : sm_W} {Q : Option Value → sm_W → Prop} {x0 : Nat} {x1 : Nat} {x2 : Int32} : sm_R X 32 15 [.ref x0, .ref x1, .int x2] [] w Q ↔ sm_R X 32 16 [.ref x0, .ref x1, .int x2] [.int x2] w Q := sm_R_go d32_15 rfl
theorem d32_16 : decode (sm_code 32) 16 = .ok (.iconst 1, 1) := by decide +kernel
theorem r32_16 {X : sm_X} {w : sm_W} {Q : Option Value → sm_W → Prop} {x0 : Nat} {x1 : Nat} {x2 : Int32} {s0 : Int32} : sm_R X 32 16 [.ref x0, .ref x1, .int x2] [.int s0] w Q ↔ sm_R X 32 17 [.ref x0, .ref x1, .int x2] [.int 1, .int s0] w Q := sm_R_go d32_16 rfl
theorem d32_17 : decode (sm_code 32) 17 = .ok (.if_icmp .lt 24, 3) := by decide +kernel
theorem r32_17 {X : sm_X} {w : sm_W} {Q : Option Value → sm_W → Prop} {x0 : Nat} {x1 : Nat} {x2 : Int32} {s0 : Int32} {s1 : Int32} : sm_R X 32 17 [.ref x0, .ref x1, .int x2] [.int s0, .int s1] w Q ↔ (if s1 < s0 then sm_R X 32 41 [.ref x0, .ref x1, .int x2] [] w Q else sm_R X 32 20 [.ref x0, .ref x1, .int x2] [] w Q) := sm_q_br d32_17 rfl
theorem d32_20 : decode (sm_code 32) 20 = .ok (.aload_n 0, 1) := by decide +kernel
theorem r32_20 {X : sm_X} {w : sm_W} {Q : Option Value → sm_W → Prop} {x0 : Nat} {x1 : Nat} {x2 : Int32} : sm_R X 32 20 [.ref x0, .ref x1, .int x2] [] w Q ↔ sm_R X 32 21 [.ref x0, .ref x1, .int x2] [.ref x0] w Q := sm_R_go d32_20 rfl
theorem d32_21 : decode (sm_code 32) 21 = .ok (.getfield 9, 3) := by decide +kernel
theorem r32_21 {X : sm_X} {w : sm_W} {Q : Option Value → sm_W → Prop} {x0 : Nat} {x1 : Nat} {x2 : Int32} {s0 : Nat} : sm_R X 32 21 [.ref x0, .ref x1, .int x2] [.ref s0] w Q ↔ sm_wp (sm_fld 4 0 (sm_at w s0)) (fun v => sm_R X 32 24 [.ref x0, .ref x1, .int x2] [v] w Q) := sm_q_getf d32_21 rfl (by decide)
theorem d32_24 : decode (sm_code 32) 24 = .ok (.aload_n 0, 1) := by decide +kernel
theorem r32_24 {X : sm_X} {w : sm_W} {Q : Option Value → sm_W → Prop} {x0 : Nat} {x1 : Nat} {x2 : Int32} {s0 : Nat} : sm_R X 32 24 [.ref x0, .ref x1, .int x2] [.ref s0] w Q ↔ sm_R X 32 25 [.ref x0, .ref x1, .int x2] [.ref x0, .ref s0] w Q := sm_R_go d32_24 rfl
theorem d32_25 : decode (sm_code 32) 25 = .ok (.getfield 24, 3) := by decide +kernel
theorem r32_25 {X : sm_X} {w : sm_W} {Q : Option Value → sm_W → Prop} {x0 : Nat} {x1 : Nat} {x2 : Int32} {s0 : Nat} {s1 : Nat} : sm_R X 32 25 [.ref x0, .ref x1, .int x2] [.ref s0, .ref s1] w Q ↔ sm_wp (sm_fld 4 2 (sm_at w s0)) (fun v => sm_R X 32 28 [.ref x0, .ref x1, .int x2] [v, .ref s1] w Q) := sm_q_getf d32_25 rfl (by decide)
theorem d32_28 : decode (sm_code 32) 28 = .ok (.iconst 1, 1) := by decide +kernel
theorem r32_28 {X : sm_X} {w : sm_W} {Q : Option Value → sm_W → Prop} {x0 : Nat} {x1 : Nat} {x2 : Int32} {s0 : Int32} {s1 : Nat} : sm_R X 32 28 [.ref x0, .ref x1, .int x2] [.int s0, .ref s1] w Q ↔ sm_R X 32 29 [.ref x0, .ref x1, .int x2] [.int 1, .int s0, .ref s1] w Q := sm_R_go d32_28 rfl
theorem d32_29 : decode (sm_code 32) 29 = .ok (.isub, 1) := by decide +kernel
theorem r32_29 {X : sm_X} {w : sm_W} {Q : Option Value → sm_W → Prop} {x0 : Nat} {x1 : Nat} {x2 : Int32} {s0 : Int32} {s1 : Int32} {s2 : Nat} : sm_R X 32 29 [.ref x0, .ref x1, .int x2] [.int s0, .int s1, .ref s2] w Q ↔ sm_R X 32 30 [.ref x0, .ref x1, .int x2] [.int (s1 - s0), .ref s2] w Q := sm_R_go d32_29 rfl
theorem d32_30 : decode (sm_code 32) 30 = .ok (.iaload, 1) := by decide +kernel
theorem r32_30 {X : sm_X} {w : sm_W} {Q : Option Value → sm_W → Prop} {x0 : Nat} {x1 : Nat} {x2 : Int32} {s0 : Int32} {s1 : Nat} : sm_R X 32 30 [.ref x0, .ref x1, .int x2] [.int s0, .ref s1] w Q ↔ sm_wp (sm_ai s0 (sm_get X w s1)) (fun v => sm_R X 32 31 [.ref x0, .ref x1, .int x2] [.int v] w Q) := sm_q_iald d32_30
theorem d32_31 : decode (sm_code 32) 31 = .ok (.aload_n 1, 1) := by decide +kernel
theorem r32_31 {X : sm_X} {w : sm_W} {Q : Option Value → sm_W → Prop} {x0 : Nat} {x1 : Nat} {x2 : Int32} {s0 : Int32} : sm_R X 32 31 [.ref x0, .ref x1, .int x2] [.int s0] w Q ↔ sm_R X 32 32 [.ref x0, .ref x1, .int x2] [.ref x1, .int s0] w Q := sm_R_go d32_31 rfl
theorem d32_32 : decode (sm_code 32) 32 = .ok (.getfield 28, 3) := by decide +kernel
theorem r32_32 {X : sm_X} {w : sm_W} {Q : Option Value → sm_W → Prop} {x0 : Nat} {x1 : Nat} {x2 : Int32} {s0 : Nat} {s1 : Int32} (h : s0 < 100) : sm_R X 32 32 [.ref x0, .ref x1, .int x2] [.ref s0, .int s1] w Q ↔ sm_wp (sm_enF 8 3 s0) (fun v => sm_R X 32 35 [.ref x0, .ref x1, .int x2] [.int v, .int s1] w Q) := sm_q_gete d32_32 rfl h
theorem d32_35 : decode (sm_code 32) 35 = .ok (.iand, 1) := by decide +kernel
theorem r32_35 {X : sm_X} {w : sm_W} {Q : Option Value → sm_W → Prop} {x0 : Nat} {x1 : Nat} {x2 : Int32} {s0 : Int32} {s1 : Int32} : sm_R X 32 35 [.ref x0, .ref x1, .int x2] [.int s0, .int s1] w Q ↔ sm_R X 32 36 [.ref x0, .ref x1, .int x2] [.int (s1 &&& s0)] w Q := sm_R_go d32_35 rfl
theorem d32_36 : decode (sm_code 32) 36 = .ok (.ifCond .ne 5, 3) := by decide +kernel
theorem r32_36 {X : sm_X} {w : sm_W} {Q : Option Value → sm_W → Prop} {x0 : Nat} {x1 : Nat} {x2 : Int32} {s0 : Int32} : sm_R X 32 36 [.ref x0, .ref x1, .int x2] [.int s0] w Q ↔ (if s0 = 0 then sm_R X 32 39 [.ref x0, .ref x1, .int x2] [] w Q else sm_R X 32 41 [.ref x0, .ref x1, .int x2] [] w Q) := sm_q_br d32_36 rfl
theorem d32_39 : decode (sm_code 32) 39 = .ok (.iconst 2, 1) := by decide +kernel
theorem r32_39 {X : sm_X} {w : sm_W} {Q : Option Value → sm_W → Prop} {x0 : Nat} {x1 : Nat} {x2 : Int32} : sm_R X 32 39 [.ref x0, .ref x1, .int x2] [] w Q ↔ sm_R X 32 40 [.ref x0, .ref x1, .int x2] [.int 2] w Q := sm_R_go d32_39 rfl
theorem d32_40 : decode (sm_code 32) 40 = .ok (.ireturn, 1) := by decide +kernel
theorem r32_40 {X : sm_X} {w : sm_W} {Q : Option Value → sm_W → Prop} {x0 : Nat} {x1 : Nat} {x2 : Int32} {s0 : Int32} : sm_R X 32 40 [.ref x0, .ref x1, .int x2] [.int s0] w Q ↔ Q (some (.int s0)) w := sm_q_iret d32_40 rfl
theorem d32_41 : decode (sm_code 32) 41 = .ok (.iload_n 2, 1) := by decide +kernel
theorem r32_41 {X : sm_X} {w : sm_W} {Q : Option Value → sm_W → Prop} {x0 : Nat} {x1 : Nat} {x2 : Int32} : sm_R X 32 41 [.ref x0, .ref x1, .int x2] [] w Q ↔ sm_R X 32 42 [.ref x0, .ref x1, .int x2] [.int x2] w Q := sm_R_go d32_41 rfl
theorem d32_42 : decode (sm_code 32) 42 = .ok (.iconst 2, 1) := by decide +kernel
theorem r32_42 {X : sm_X} {w : sm_W} {Q : Option Value → sm_W → Prop} {x0 : Nat} {x1 : Nat} {x2 : Int32} {s0 : Int32} : sm_R X 32 42 [.ref x0, .ref x1, .int x2] [.int s0] w Q ↔ sm_R X 32 43 [.ref x0, .ref x1, .int x2] [.int 2, .int s0] w Q := sm_R_go d32_42 rfl
theorem d32_43 : decode (sm_code 32) 43 = .ok (.if_icmp .ne 24, 3) := by decide +kernel
theorem r32_43 {X : sm_X} {w : sm_W} {Q : Option Value → sm_W → Prop} {x0 : Nat} {x1 : Nat} {x2 : Int32} {s0 : Int32} {s1 : Int32} : sm_R X 32 43 [.ref x0, .ref x1, .int x2] [.int s0, .int s1] w Q ↔ (if s1 = s0 then sm_R X 32 46 [.ref x0, .ref x1, .int x2] [] w Q else sm_R X 32 67 [.ref x0, .ref x1, .int x2] [] w Q) := sm_q_br d32_43 rfl
theorem d32_46 : decode (sm_code 32) 46 = .ok (.aload_n 0, 1) := by decide +kernel
theorem r32_46 {X : sm_X} {w : sm_W} {Q : Option Value → sm_W → Prop} {x0 : Nat} {x1 : Nat} {x2 : Int32} : sm_R X 32 46 [.ref x0, .ref x1, .int x2] [] w Q ↔ sm_R X 32 47 [.ref x0, .ref x1, .int x2] [.ref x0] w Q := sm_R_go d32_46 rfl
theorem d32_47 : decode (sm_code 32) 47 = .ok (.getfield 9, 3) := by decide +kernel
theorem r32_47 {X : sm_X} {w : sm_W} {Q : Option Value → sm_W → Prop} {x0 : Nat} {x1 : Nat} {x2 : Int32} {s0 : Nat} : sm_R X 32 47 [.ref x0, .ref x1, .int x2] [.ref s0] w Q ↔ sm_wp (sm_fld 4 0 (sm_at w s0)) (fun v => sm_R X 32 50 [.ref x0, .ref x1, .int x2] [v] w Q) := sm_q_getf d32_47 rfl (by decide)
theorem d32_50 : decode (sm_code 32) 50 = .ok (.aload_n 0, 1) := by decide +kernel
theorem r32_50 {X : sm_X} {w : sm_W} {Q : Option Value → sm_W → Prop} {x0 : Nat} {x1 : Nat} {x2 : Int32} {s0 : Nat} : sm_R X 32 50 [.ref x0, .ref x1, .int x2] [.ref s0] w Q ↔ sm_R X 32 51 [.ref x0, .ref x1, .int x2] [.ref x0, .ref s0] w Q := sm_R_go d32_50 rfl
theorem d32_51 : decode (sm_code 32) 51 = .ok (.getfield 24, 3) := by decide +kernel
theorem r32_51 {X : sm_X} {w : sm_W} {Q : Option Value → sm_W → Prop} {x0 : Nat} {x1 : Nat} {x2 : Int32} {s0 : Nat} {s1 : Nat} : sm_R X 32 51 [.ref x0, .ref x1, .int x2] [.ref s0, .ref s1] w Q ↔ sm_wp (sm_fld 4 2 (sm_at w s0)) (fun v => sm_R X 32 54 [.ref x0, .ref x1, .int x2] [v, .ref s1] w Q) := sm_q_getf d32_51 rfl (by decide)
theorem d32_54 : decode (sm_code 32) 54 = .ok (.iconst 2, 1) := by decide +kernel
theorem r32_54 {X : sm_X} {w : sm_W} {Q : Option Value → sm_W → Prop} {x0 : Nat} {x1 : Nat} {x2 : Int32} {s0 : Int32} {s1 : Nat} : sm_R X 32 54 [.ref x0, .ref x1, .int x2] [.int s0, .ref s1] w Q ↔ sm_R X 32 55 [.ref x0, .ref x1, .int x2] [.int 2, .int s0, .ref s1] w Q := sm_R_go d32_54 rfl
theorem d32_55 : decode (sm_code 32) 55 = .ok (.isub, 1) := by decide +kernel
theorem r32_55 {X : sm_X} {w : sm_W} {Q : Option Value → sm_W → Prop} {x0 : Nat} {x1 : Nat} {x2 : Int32} {s0 : Int32} {s1 : Int32} {s2 : Nat} : sm_R X 32 55 [.ref x0, .ref x1, .int x2] [.int s0, .int s1, .ref s2] w Q ↔ sm_R X 32 56 [.ref x0, .ref x1, .int x2] [.int (s1 - s0), .ref s2] w Q := sm_R_go d32_55 rfl
theorem d32_56 : decode (sm_code 32) 56 = .ok (.iaload, 1) := by decide +kernel
theorem r32_56 {X : sm_X} {w : sm_W} {Q : Option Value → sm_W → Prop} {x0 : Nat} {x1 : Nat} {x2 : Int32} {s0 : Int32} {s1 : Nat} : sm_R X 32 56 [.ref x0, .ref x1, .int x2] [.int s0, .ref s1] w Q ↔ sm_wp (sm_ai s0 (sm_get X w s1)) (fun v => sm_R X 32 57 [.ref x0, .ref x1, .int x2] [.int v] w Q) := sm_q_iald d32_56
theorem d32_57 : decode (sm_code 32) 57 = .ok (.aload_n 1, 1) := by decide +kernel
theorem r32_57 {X : sm_X} {w : sm_W} {Q : Option Value → sm_W → Prop} {x0 : Nat} {x1 : Nat} {x2 : Int32} {s0 : Int32} : sm_R X 32 57 [.ref x0, .ref x1, .int x2] [.int s0] w Q ↔ sm_R X 32 58 [.ref x0, .ref x1, .int x2] [.ref x1, .int s0] w Q := sm_R_go d32_57 rfl
theorem d32_58 : decode (sm_code 32) 58 = .ok (.getfield 31, 3) := by decide +kernel
theorem r32_58 {X : sm_X} {w : sm_W} {Q : Option Value → sm_W → Prop} {x0 : Nat} {x1 : Nat} {x2 : Int32} {s0 : Nat} {s1 : Int32} (h : s0 < 100) : sm_R X 32 58 [.ref x0, .ref x1, .int x2] [.ref s0, .int s1] w Q ↔ sm_wp (sm_enF 8 2 s0) (fun v => sm_R X 32 61 [.ref x0, .ref x1, .int x2] [.int v, .int s1] w Q) := sm_q_gete d32_58 rfl h
theorem d32_61 : decode (sm_code 32) 61 = .ok (.iand, 1) := by decide +kernel
theorem r32_61 {X : sm_X} {w : sm_W} {Q : Option Value → sm_W → Prop} {x0 : Nat} {x1 : Nat} {x2 : Int32} {s0 : Int32} {s1 : Int32} : sm_R X 32 61 [.ref x0, .ref x1, .int x2] [.int s0, .int s1] w Q ↔ sm_R X 32 62 [.ref x0, .ref x1, .int x2] [.int (s1 &&& s0)] w Q := sm_R_go d32_61 rfl
theorem d32_62 : decode (sm_code 32) 62 = .ok (.ifCond .ne 5, 3) := by decide +kernel
theorem r32_62 {X : sm_X} {w : sm_W} {Q : Option Value → sm_W → Prop} {x0 : Nat} {x1 : Nat} {x2 : Int32} {s0 : Int32} : sm_R X 32 62 [.ref x0, .ref x1, .int x2] [.int s0] w Q ↔ (if s0 = 0 then sm_R X 32 65 [.ref x0, .ref x1, .int x2] [] w Q else sm_R X 32 67 [.ref x0, .ref x1, .int x2] [] w Q) := sm_q_br d32_62 rfl
theorem d32_65 : decode (sm_code 32) 65 = .ok (.iconst 2, 1) := by decide +kernel
theorem r32_65 {X : sm_X} {w : sm_W} {Q : Option Value → sm_W → Prop} {x0 : Nat} {x1 : Nat} {x2 : Int32} : sm_R X 32 65 [.ref x0, .ref x1, .int x2] [] w Q ↔ sm_R X 32 66 [.ref x0, .ref x1, .int x2] [.int 2] w Q := sm_R_go d32_65 rfl
theorem d32_66 : decode (sm_code 32) 66 = .ok (.ireturn, 1) := by decide +kernel
theorem r32_66 {X : sm_X} {w : sm_W} {Q : Option Value → sm_W → Prop} {x0 : Nat} {x1 : Nat} {x2 : Int32} {s0 : Int32} : sm_R X 32 66 [.ref x0, .ref x1, .int x2] [.int s0] w Q ↔ Q (some (.int s0)) w := sm_q_iret d32_66 rfl
theorem d32_67 : decode (sm_code 32) 67 = .ok (.iconst 0, 1) := by decide +kernel
theorem r32_67 {X : sm_X} {w : sm_W} {Q : Option Value → sm_W → Prop} {x0 : Nat} {x1 : Nat} {x2 : Int32} : sm_R X 32 67 [.ref x0, .ref x1, .int x2] [] w Q ↔ sm_R X 32 68 [.ref x0, .ref x1, .int x2] [.int 0] w Q := sm_R_go d32_67 rfl
theorem d32_68 : decode (sm_code 32) 68 = .ok (.ireturn, 1) := by decide +kernel
theorem r32_68 {X : sm_X} {w : sm_W} {Q : Option Value → sm_W → Prop} {x0 : Nat} {x1 : Nat} {x2 : Int32} {s0 : Int32} : sm_R X 32 68 [.ref x0, .ref x1, .int x2] [.int s0] w Q ↔ Q (some (.int s0)) w := sm_q_iret d32_68 rfl
-- GroupLedger$Op.takesHowMany()I
theorem d33_0 : decode (sm_code 33) 0 = .ok (.aload_n 0, 1) := by decide +kernel
theorem r33_0 {X : sm_X} {w : sm_W} {Q : Option Value → sm_W → Prop} {x0 : Nat} : sm_R X 33 0 [.ref x0] [] w Q ↔ sm_R X 33 1 [.ref x0] [.ref x0] w Q := sm_R_go d33_0 rfl
theorem d33_1 : decode (sm_code 33) 1 = .ok (.getfield 128, 3) := by decide +kernel
theorem r33_1 {X : sm_X} {w : sm_W} {Q : Option Value → sm_W → Prop} {x0 : Nat} {s0 : Nat} (h : s0 < 100) : sm_R X 33 1 [.ref x0] [.ref s0] w Q ↔ sm_wp (sm_enF 8 3 s0) (fun v => sm_R X 33 4 [.ref x0] [.int v] w Q) := sm_q_gete d33_1 rfl h
theorem d33_4 : decode (sm_code 33) 4 = .ok (.ifCond .ne 5, 3) := by decide +kernel
theorem r33_4 {X : sm_X} {w : sm_W} {Q : Option Value → sm_W → Prop} {x0 : Nat} {s0 : Int32} : sm_R X 33 4 [.ref x0] [.int s0] w Q ↔ (if s0 = 0 then sm_R X 33 7 [.ref x0] [] w Q else sm_R X 33 9 [.ref x0] [] w Q) := sm_q_br d33_4 rfl
theorem d33_7 : decode (sm_code 33) 7 = .ok (.iconst 0, 1) := by decide +kernel
theorem r33_7 {X : sm_X} {w : sm_W} {Q : Option Value → sm_W → Prop} {x0 : Nat} : sm_R X 33 7 [.ref x0] [] w Q ↔ sm_R X 33 8 [.ref x0] [.int 0] w Q := sm_R_go d33_7 rfl
theorem d33_8 : decode (sm_code 33) 8 = .ok (.ireturn, 1) := by decide +kernel
theorem r33_8 {X : sm_X} {w : sm_W} {Q : Option Value → sm_W → Prop} {x0 : Nat} {s0 : Int32} : sm_R X 33 8 [.ref x0] [.int s0] w Q ↔ Q (some (.int s0)) w := sm_q_iret d33_8 rfl
theorem d33_9 : decode (sm_code 33) 9 = .ok (.aload_n 0, 1) := by decide +kernel
theorem r33_9 {X : sm_X} {w : sm_W} {Q : Option Value → sm_W → Prop} {x0 : Nat} : sm_R X 33 9 [.ref x0] [] w Q ↔ sm_R X 33 10 [.ref x0] [.ref x0] w Q := sm_R_go d33_9 rfl
theorem d33_10 : decode (sm_code 33) 10 = .ok (.getfield 125, 3) := by decide +kernel
theorem r33_10 {X : sm_X} {w : sm_W} {Q : Option Value → sm_W → Prop} {x0 : Nat} {s0 : Nat} (h : s0 < 100) : sm_R X 33 10 [.ref x0] [.ref s0] w Q ↔ sm_wp (sm_enF 8 2 s0) (fun v => sm_R X 33 13 [.ref x0] [.int v] w Q) := sm_q_gete d33_10 rfl h
theorem d33_13 : decode (sm_code 33) 13 = .ok (.ifCond .ne 7, 3) := by decide +kernel
theorem r33_13 {X : sm_X} {w : sm_W} {Q : Option Value → sm_W → Prop} {x0 : Nat} {s0 : Int32} : sm_R X 33 13 [.ref x0] [.int s0] w Q ↔ (if s0 = 0 then sm_R X 33 16 [.ref x0] [] w Q else sm_R X 33 20 [.ref x0] [] w Q) := sm_q_br d33_13 rfl
theorem d33_16 : decode (sm_code 33) 16 = .ok (.iconst 1, 1) := by decide +kernel
theorem r33_16 {X : sm_X} {w : sm_W} {Q : Option Value → sm_W → Prop} {x0 : Nat} : sm_R X 33 16 [.ref x0] [] w Q ↔ sm_R X 33 17 [.ref x0] [.int 1] w Q := sm_R_go d33_16 rfl
theorem d33_17 : decode (sm_code 33) 17 = .ok (.goto 4, 3) := by decide +kernel
theorem r33_17 {X : sm_X} {w : sm_W} {Q : Option Value → sm_W → Prop} {x0 : Nat} {s0 : Int32} : sm_R X 33 17 [.ref x0] [.int s0] w Q ↔ sm_R X 33 21 [.ref x0] [.int s0] w Q := sm_R_go d33_17 rfl
theorem d33_20 : decode (sm_code 33) 20 = .ok (.iconst 2, 1) := by decide +kernel
theorem r33_20 {X : sm_X} {w : sm_W} {Q : Option Value → sm_W → Prop} {x0 : Nat} : sm_R X 33 20 [.ref x0] [] w Q ↔ sm_R X 33 21 [.ref x0] [.int 2] w Q := sm_R_go d33_20 rfl
theorem d33_21 : decode (sm_code 33) 21 = .ok (.ireturn, 1) := by decide +kernel
theorem r33_21 {X : sm_X} {w : sm_W} {Q : Option Value → sm_W → Prop} {x0 : Nat} {s0 : Int32} : sm_R X 33 21 [.ref x0] [.int s0] w Q ↔ Q (some (.int s0)) w := sm_q_iret d33_21 rfl
-- GroupLedger$Machine.actTakingNothing(LGroupLedger$Op;I)I
theorem d34_0 : decode (sm_code 34) 0 = .ok (.getstatic 111, 3) := by decide +kernel
theorem r34_0 {X : sm_X} {w : sm_W} {Q : Option Value → sm_W → Prop} {x0 : Nat} {x1 : Nat} {x2 : Int32} : sm_R X 34 0 [.ref x0, .ref x1, .int x2] [] w Q ↔ sm_R X 34 3 [.ref x0, .ref x1, .int x2] [.ref 97] w Q := sm_R_go d34_0 rfl
theorem d34_3 : decode (sm_code 34) 3 = .ok (.aload_n 1, 1) := by decide +kernel
theorem r34_3 {X : sm_X} {w : sm_W} {Q : Option Value → sm_W → Prop} {x0 : Nat} {x1 : Nat} {x2 : Int32} {s0 : Nat} : sm_R X 34 3 [.ref x0, .ref x1, .int x2] [.ref s0] w Q ↔ sm_R X 34 4 [.ref x0, .ref x1, .int x2] [.ref x1, .ref s0] w Q := sm_R_go d34_3 rfl
theorem d34_4 : decode (sm_code 34) 4 = .ok (.invokevirtual 116, 3) := by decide +kernel
theorem r34_4 {X : sm_X} {w : sm_W} {Q : Option Value → sm_W → Prop} {x0 : Nat} {x1 : Nat} {x2 : Int32} {s0 : Nat} {s1 : Nat} (h : s0 < 31) : sm_R X 34 4 [.ref x0, .ref x1, .int x2] [.ref s0, .ref s1] w Q ↔ sm_R X 35 0 [.ref s0] [] w (fun v w => sm_R X 34 7 [.ref x0, .ref x1, .int x2] (v.toList ++ [.ref s1]) w Q) := sm_q_virE (k := 35) (as := [.ref s0]) (rest := [.ref s1]) d34_4 rfl rfl rfl h rfl rfl
theorem d34_7 : decode (sm_code 34) 7 = .ok (.iaload, 1) := by decide +kernel
theorem r34_7 {X : sm_X} {w : sm_W} {Q : Option Value → sm_W → Prop} {x0 : Nat} {x1 : Nat} {x2 : Int32} {s0 : Int32} {s1 : Nat} : sm_R X 34 7 [.ref x0, .ref x1, .int x2] [.int s0, .ref s1] w Q ↔ sm_wp (sm_ai s0 (sm_get X w s1)) (fun v => sm_R X 34 8 [.ref x0, .ref x1, .int x2] [.int v] w Q) := sm_q_iald d34_7
theorem d34_8 : decode (sm_code 34) 8 = .ok (.tableswitch 187 1 8 #[48, 58, 68, 98, 114, 130, 143, 169], 48) := by decide +kernel
theorem r34_8 {X : sm_X} {w : sm_W} {Q : Option Value → sm_W → Prop} {x0 : Nat} {x1 : Nat} {x2 : Int32} {s0 : Int32} : sm_R X 34 8 [.ref x0, .ref x1, .int x2] [.int s0] w Q ↔ sm_R X 34 (sm_sw s0.toInt 1 [56, 66, 76, 106, 122, 138, 151, 177] 195) [.ref x0, .ref x1, .int x2] [] w Q := sm_q_tab d34_8 rfl rfl rfl rfl
theorem d34_56 : decode (sm_code 34) 56 = .ok (.aload_n 0, 1) := by decide +kernel
theorem r34_56 {X : sm_X} {w : sm_W} {Q : Option Value → sm_W → Prop} {x0 : Nat} {x1 : Nat} {x2 : Int32} : sm_R X 34 56 [.ref x0, .ref x1, .int x2] [] w Q ↔ sm_R X 34 57 [.ref x0, .ref x1, .int x2] [.ref x0] w Q := sm_R_go d34_56 rfl
theorem d34_57 : decode (sm_code 34) 57 = .ok (.getfield 12, 3) := by decide +kernel
theorem r34_57 {X : sm_X} {w : sm_W} {Q : Option Value → sm_W → Prop} {x0 : Nat} {x1 : Nat} {x2 : Int32} {s0 : Nat} : sm_R X 34 57 [.ref x0, .ref x1, .int x2] [.ref s0] w Q ↔ sm_wp (sm_fld 2 2 (sm_at w s0)) (fun v => sm_R X 34 60 [.ref x0, .ref x1, .int x2] [v] w Q) := sm_q_getf d34_57 rfl (by decide)
theorem d34_60 : decode (sm_code 34) 60 = .ok (.iconst 1, 1) := by decide +kernel
theorem r34_60 {X : sm_X} {w : sm_W} {Q : Option Value → sm_W → Prop} {x0 : Nat} {x1 : Nat} {x2 : Int32} {s0 : Nat} : sm_R X 34 60 [.ref x0, .ref x1, .int x2] [.ref s0] w Q ↔ sm_R X 34 61 [.ref x0, .ref x1, .int x2] [.int 1, .ref s0] w Q := sm_R_go d34_60 rfl
theorem d34_61 : decode (sm_code 34) 61 = .ok (.iload_n 2, 1) := by decide +kernel
theorem r34_61 {X : sm_X} {w : sm_W} {Q : Option Value → sm_W → Prop} {x0 : Nat} {x1 : Nat} {x2 : Int32} {s0 : Int32} {s1 : Nat} : sm_R X 34 61 [.ref x0, .ref x1, .int x2] [.int s0, .ref s1] w Q ↔ sm_R X 34 62 [.ref x0, .ref x1, .int x2] [.int x2, .int s0, .ref s1] w Q := sm_R_go d34_61 rfl
theorem d34_62 : decode (sm_code 34) 62 = .ok (.invokevirtual 119, 3) := by decide +kernel
theorem r34_62 {X : sm_X} {w : sm_W} {Q : Option Value → sm_W → Prop} {x0 : Nat} {x1 : Nat} {x2 : Int32} {s0 : Int32} {s1 : Int32} {s2 : Nat} : sm_R X 34 62 [.ref x0, .ref x1, .int x2] [.int s0, .int s1, .ref s2] w Q ↔ (sm_cN (sm_at w s2) = some 4 ∧ sm_R X 36 0 [.ref s2, .int s1, .int s0] [] w (fun v w => sm_R X 34 65 [.ref x0, .ref x1, .int x2] (v.toList ++ []) w Q)) := sm_q_vir (k := 36) (as := [.ref s2, .int s1, .int s0]) (rest := []) d34_62 rfl rfl rfl rfl rfl
theorem d34_65 : decode (sm_code 34) 65 = .ok (.ireturn, 1) := by decide +kernel
theorem r34_65 {X : sm_X} {w : sm_W} {Q : Option Value → sm_W → Prop} {x0 : Nat} {x1 : Nat} {x2 : Int32} {s0 : Int32} : sm_R X 34 65 [.ref x0, .ref x1, .int x2] [.int s0] w Q ↔ Q (some (.int s0)) w := sm_q_iret d34_65 rfl
theorem d34_66 : decode (sm_code 34) 66 = .ok (.aload_n 0, 1) := by decide +kernel
theorem r34_66 {X : sm_X} {w : sm_W} {Q : Option Value → sm_W → Prop} {x0 : Nat} {x1 : Nat} {x2 : Int32} : sm_R X 34 66 [.ref x0, .ref x1, .int x2] [] w Q ↔ sm_R X 34 67 [.ref x0, .ref x1, .int x2] [.ref x0] w Q := sm_R_go d34_66 rfl
theorem d34_67 : decode (sm_code 34) 67 = .ok (.getfield 12, 3) := by decide +kernel
theorem r34_67 {X : sm_X} {w : sm_W} {Q : Option Value → sm_W → Prop} {x0 : Nat} {x1 : Nat} {x2 : Int32} {s0 : Nat} : sm_R X 34 67 [.ref x0, .ref x1, .int x2] [.ref s0] w Q ↔ sm_wp (sm_fld 2 2 (sm_at w s0)) (fun v => sm_R X 34 70 [.ref x0, .ref x1, .int x2] [v] w Q) := sm_q_getf d34_67 rfl (by decide)
theorem d34_70 : decode (sm_code 34) 70 = .ok (.iconst 2, 1) := by decide +kernel
theorem r34_70 {X : sm_X} {w : sm_W} {Q : Option Value → sm_W → Prop} {x0 : Nat} {x1 : Nat} {x2 : Int32} {s0 : Nat} : sm_R X 34 70 [.ref x0, .ref x1, .int x2] [.ref s0] w Q ↔ sm_R X 34 71 [.ref x0, .ref x1, .int x2] [.int 2, .ref s0] w Q := sm_R_go d34_70 rfl
theorem d34_71 : decode (sm_code 34) 71 = .ok (.iload_n 2, 1) := by decide +kernel
theorem r34_71 {X : sm_X} {w : sm_W} {Q : Option Value → sm_W → Prop} {x0 : Nat} {x1 : Nat} {x2 : Int32} {s0 : Int32} {s1 : Nat} : sm_R X 34 71 [.ref x0, .ref x1, .int x2] [.int s0, .ref s1] w Q ↔ sm_R X 34 72 [.ref x0, .ref x1, .int x2] [.int x2, .int s0, .ref s1] w Q := sm_R_go d34_71 rfl
theorem d34_72 : decode (sm_code 34) 72 = .ok (.invokevirtual 119, 3) := by decide +kernel
theorem r34_72 {X : sm_X} {w : sm_W} {Q : Option Value → sm_W → Prop} {x0 : Nat} {x1 : Nat} {x2 : Int32} {s0 : Int32} {s1 : Int32} {s2 : Nat} : sm_R X 34 72 [.ref x0, .ref x1, .int x2] [.int s0, .int s1, .ref s2] w Q ↔ (sm_cN (sm_at w s2) = some 4 ∧ sm_R X 36 0 [.ref s2, .int s1, .int s0] [] w (fun v w => sm_R X 34 75 [.ref x0, .ref x1, .int x2] (v.toList ++ []) w Q)) := sm_q_vir (k := 36) (as := [.ref s2, .int s1, .int s0]) (rest := []) d34_72 rfl rfl rfl rfl rfl
theorem d34_75 : decode (sm_code 34) 75 = .ok (.ireturn, 1) := by decide +kernel
theorem r34_75 {X : sm_X} {w : sm_W} {Q : Option Value → sm_W → Prop} {x0 : Nat} {x1 : Nat} {x2 : Int32} {s0 : Int32} : sm_R X 34 75 [.ref x0, .ref x1, .int x2] [.int s0] w Q ↔ Q (some (.int s0)) w := sm_q_iret d34_75 rfl
theorem d34_76 : decode (sm_code 34) 76 = .ok (.aload_n 0, 1) := by decide +kernel
theorem r34_76 {X : sm_X} {w : sm_W} {Q : Option Value → sm_W → Prop} {x0 : Nat} {x1 : Nat} {x2 : Int32} : sm_R X 34 76 [.ref x0, .ref x1, .int x2] [] w Q ↔ sm_R X 34 77 [.ref x0, .ref x1, .int x2] [.ref x0] w Q := sm_R_go d34_76 rfl
theorem d34_77 : decode (sm_code 34) 77 = .ok (.getfield 12, 3) := by decide +kernel
theorem r34_77 {X : sm_X} {w : sm_W} {Q : Option Value → sm_W → Prop} {x0 : Nat} {x1 : Nat} {x2 : Int32} {s0 : Nat} : sm_R X 34 77 [.ref x0, .ref x1, .int x2] [.ref s0] w Q ↔ sm_wp (sm_fld 2 2 (sm_at w s0)) (fun v => sm_R X 34 80 [.ref x0, .ref x1, .int x2] [v] w Q) := sm_q_getf d34_77 rfl (by decide)
theorem d34_80 : decode (sm_code 34) 80 = .ok (.iconst 1, 1) := by decide +kernel
theorem r34_80 {X : sm_X} {w : sm_W} {Q : Option Value → sm_W → Prop} {x0 : Nat} {x1 : Nat} {x2 : Int32} {s0 : Nat} : sm_R X 34 80 [.ref x0, .ref x1, .int x2] [.ref s0] w Q ↔ sm_R X 34 81 [.ref x0, .ref x1, .int x2] [.int 1, .ref s0] w Q := sm_R_go d34_80 rfl
theorem d34_81 : decode (sm_code 34) 81 = .ok (.iload_n 2, 1) := by decide +kernel
theorem r34_81 {X : sm_X} {w : sm_W} {Q : Option Value → sm_W → Prop} {x0 : Nat} {x1 : Nat} {x2 : Int32} {s0 : Int32} {s1 : Nat} : sm_R X 34 81 [.ref x0, .ref x1, .int x2] [.int s0, .ref s1] w Q ↔ sm_R X 34 82 [.ref x0, .ref x1, .int x2] [.int x2, .int s0, .ref s1] w Q := sm_R_go d34_81 rfl
theorem d34_82 : decode (sm_code 34) 82 = .ok (.ifCond .ne 13, 3) := by decide +kernel
theorem r34_82 {X : sm_X} {w : sm_W} {Q : Option Value → sm_W → Prop} {x0 : Nat} {x1 : Nat} {x2 : Int32} {s0 : Int32} {s1 : Int32} {s2 : Nat} : sm_R X 34 82 [.ref x0, .ref x1, .int x2] [.int s0, .int s1, .ref s2] w Q ↔ (if s0 = 0 then sm_R X 34 85 [.ref x0, .ref x1, .int x2] [.int s1, .ref s2] w Q else sm_R X 34 95 [.ref x0, .ref x1, .int x2] [.int s1, .ref s2] w Q) := sm_q_br d34_82 rfl
theorem d34_85 : decode (sm_code 34) 85 = .ok (.aload_n 0, 1) := by decide +kernel
theorem r34_85 {X : sm_X} {w : sm_W} {Q : Option Value → sm_W → Prop} {x0 : Nat} {x1 : Nat} {x2 : Int32} {s0 : Int32} {s1 : Nat} : sm_R X 34 85 [.ref x0, .ref x1, .int x2] [.int s0, .ref s1] w Q ↔ sm_R X 34 86 [.ref x0, .ref x1, .int x2] [.ref x0, .int s0, .ref s1] w Q := sm_R_go d34_85 rfl
theorem d34_86 : decode (sm_code 34) 86 = .ok (.getfield 36, 3) := by decide +kernel
theorem r34_86 {X : sm_X} {w : sm_W} {Q : Option Value → sm_W → Prop} {x0 : Nat} {x1 : Nat} {x2 : Int32} {s0 : Nat} {s1 : Int32} {s2 : Nat} : sm_R X 34 86 [.ref x0, .ref x1, .int x2] [.ref s0, .int s1, .ref s2] w Q ↔ sm_wp (sm_fld 2 7 (sm_at w s0)) (fun v => sm_R X 34 89 [.ref x0, .ref x1, .int x2] [v, .int s1, .ref s2] w Q) := sm_q_getf d34_86 rfl (by decide)
theorem d34_89 : decode (sm_code 34) 89 = .ok (.getfield 123, 3) := by decide +kernel
theorem r34_89 {X : sm_X} {w : sm_W} {Q : Option Value → sm_W → Prop} {x0 : Nat} {x1 : Nat} {x2 : Int32} {s0 : Nat} {s1 : Int32} {s2 : Nat} : sm_R X 34 89 [.ref x0, .ref x1, .int x2] [.ref s0, .int s1, .ref s2] w Q ↔ sm_wp (sm_fld 5 6 (sm_at w s0)) (fun v => sm_R X 34 92 [.ref x0, .ref x1, .int x2] [v, .int s1, .ref s2] w Q) := sm_q_getf d34_89 rfl (by decide)
theorem d34_92 : decode (sm_code 34) 92 = .ok (.goto 10, 3) := by decide +kernel
theorem r34_92 {X : sm_X} {w : sm_W} {Q : Option Value → sm_W → Prop} {x0 : Nat} {x1 : Nat} {x2 : Int32} {s0 : Int32} {s1 : Int32} {s2 : Nat} : sm_R X 34 92 [.ref x0, .ref x1, .int x2] [.int s0, .int s1, .ref s2] w Q ↔ sm_R X 34 102 [.ref x0, .ref x1, .int x2] [.int s0, .int s1, .ref s2] w Q := sm_R_go d34_92 rfl
theorem d34_95 : decode (sm_code 34) 95 = .ok (.aload_n 0, 1) := by decide +kernel
theorem r34_95 {X : sm_X} {w : sm_W} {Q : Option Value → sm_W → Prop} {x0 : Nat} {x1 : Nat} {x2 : Int32} {s0 : Int32} {s1 : Nat} : sm_R X 34 95 [.ref x0, .ref x1, .int x2] [.int s0, .ref s1] w Q ↔ sm_R X 34 96 [.ref x0, .ref x1, .int x2] [.ref x0, .int s0, .ref s1] w Q := sm_R_go d34_95 rfl
theorem d34_96 : decode (sm_code 34) 96 = .ok (.getfield 36, 3) := by decide +kernel
theorem r34_96 {X : sm_X} {w : sm_W} {Q : Option Value → sm_W → Prop} {x0 : Nat} {x1 : Nat} {x2 : Int32} {s0 : Nat} {s1 : Int32} {s2 : Nat} : sm_R X 34 96 [.ref x0, .ref x1, .int x2] [.ref s0, .int s1, .ref s2] w Q ↔ sm_wp (sm_fld 2 7 (sm_at w s0)) (fun v => sm_R X 34 99 [.ref x0, .ref x1, .int x2] [v, .int s1, .ref s2] w Q) := sm_q_getf d34_96 rfl (by decide)
theorem d34_99 : decode (sm_code 34) 99 = .ok (.getfield 126, 3) := by decide +kernel
theorem r34_99 {X : sm_X} {w : sm_W} {Q : Option Value → sm_W → Prop} {x0 : Nat} {x1 : Nat} {x2 : Int32} {s0 : Nat} {s1 : Int32} {s2 : Nat} : sm_R X 34 99 [.ref x0, .ref x1, .int x2] [.ref s0, .int s1, .ref s2] w Q ↔ sm_wp (sm_fld 5 7 (sm_at w s0)) (fun v => sm_R X 34 102 [.ref x0, .ref x1, .int x2] [v, .int s1, .ref s2] w Q) := sm_q_getf d34_99 rfl (by decide)
theorem d34_102 : decode (sm_code 34) 102 = .ok (.invokevirtual 119, 3) := by decide +kernel
theorem r34_102 {X : sm_X} {w : sm_W} {Q : Option Value → sm_W → Prop} {x0 : Nat} {x1 : Nat} {x2 : Int32} {s0 : Int32} {s1 : Int32} {s2 : Nat} : sm_R X 34 102 [.ref x0, .ref x1, .int x2] [.int s0, .int s1, .ref s2] w Q ↔ (sm_cN (sm_at w s2) = some 4 ∧ sm_R X 36 0 [.ref s2, .int s1, .int s0] [] w (fun v w => sm_R X 34 105 [.ref x0, .ref x1, .int x2] (v.toList ++ []) w Q)) := sm_q_vir (k := 36) (as := [.ref s2, .int s1, .int s0]) (rest := []) d34_102 rfl rfl rfl rfl rfl
theorem d34_105 : decode (sm_code 34) 105 = .ok (.ireturn, 1) := by decide +kernel
theorem r34_105 {X : sm_X} {w : sm_W} {Q : Option Value → sm_W → Prop} {x0 : Nat} {x1 : Nat} {x2 : Int32} {s0 : Int32} : sm_R X 34 105 [.ref x0, .ref x1, .int x2] [.int s0] w Q ↔ Q (some (.int s0)) w := sm_q_iret d34_105 rfl
theorem d34_106 : decode (sm_code 34) 106 = .ok (.aload_n 0, 1) := by decide +kernel
theorem r34_106 {X : sm_X} {w : sm_W} {Q : Option Value → sm_W → Prop} {x0 : Nat} {x1 : Nat} {x2 : Int32} : sm_R X 34 106 [.ref x0, .ref x1, .int x2] [] w Q ↔ sm_R X 34 107 [.ref x0, .ref x1, .int x2] [.ref x0] w Q := sm_R_go d34_106 rfl
theorem d34_107 : decode (sm_code 34) 107 = .ok (.getfield 12, 3) := by decide +kernel
theorem r34_107 {X : sm_X} {w : sm_W} {Q : Option Value → sm_W → Prop} {x0 : Nat} {x1 : Nat} {x2 : Int32} {s0 : Nat} : sm_R X 34 107 [.ref x0, .ref x1, .int x2] [.ref s0] w Q ↔ sm_wp (sm_fld 2 2 (sm_at w s0)) (fun v => sm_R X 34 110 [.ref x0, .ref x1, .int x2] [v] w Q) := sm_q_getf d34_107 rfl (by decide)
theorem d34_110 : decode (sm_code 34) 110 = .ok (.iconst 2, 1) := by decide +kernel
theorem r34_110 {X : sm_X} {w : sm_W} {Q : Option Value → sm_W → Prop} {x0 : Nat} {x1 : Nat} {x2 : Int32} {s0 : Nat} : sm_R X 34 110 [.ref x0, .ref x1, .int x2] [.ref s0] w Q ↔ sm_R X 34 111 [.ref x0, .ref x1, .int x2] [.int 2, .ref s0] w Q := sm_R_go d34_110 rfl
theorem d34_111 : decode (sm_code 34) 111 = .ok (.aload_n 0, 1) := by decide +kernel
theorem r34_111 {X : sm_X} {w : sm_W} {Q : Option Value → sm_W → Prop} {x0 : Nat} {x1 : Nat} {x2 : Int32} {s0 : Int32} {s1 : Nat} : sm_R X 34 111 [.ref x0, .ref x1, .int x2] [.int s0, .ref s1] w Q ↔ sm_R X 34 112 [.ref x0, .ref x1, .int x2] [.ref x0, .int s0, .ref s1] w Q := sm_R_go d34_111 rfl
theorem d34_112 : decode (sm_code 34) 112 = .ok (.getfield 36, 3) := by decide +kernel
theorem r34_112 {X : sm_X} {w : sm_W} {Q : Option Value → sm_W → Prop} {x0 : Nat} {x1 : Nat} {x2 : Int32} {s0 : Nat} {s1 : Int32} {s2 : Nat} : sm_R X 34 112 [.ref x0, .ref x1, .int x2] [.ref s0, .int s1, .ref s2] w Q ↔ sm_wp (sm_fld 2 7 (sm_at w s0)) (fun v => sm_R X 34 115 [.ref x0, .ref x1, .int x2] [v, .int s1, .ref s2] w Q) := sm_q_getf d34_112 rfl (by decide)
theorem d34_115 : decode (sm_code 34) 115 = .ok (.getfield 129, 3) := by decide +kernel
theorem r34_115 {X : sm_X} {w : sm_W} {Q : Option Value → sm_W → Prop} {x0 : Nat} {x1 : Nat} {x2 : Int32} {s0 : Nat} {s1 : Int32} {s2 : Nat} : sm_R X 34 115 [.ref x0, .ref x1, .int x2] [.ref s0, .int s1, .ref s2] w Q ↔ sm_wp (sm_fld 5 1 (sm_at w s0)) (fun v => sm_R X 34 118 [.ref x0, .ref x1, .int x2] [v, .int s1, .ref s2] w Q) := sm_q_getf d34_115 rfl (by decide)
theorem d34_118 : decode (sm_code 34) 118 = .ok (.invokevirtual 119, 3) := by decide +kernel
theorem r34_118 {X : sm_X} {w : sm_W} {Q : Option Value → sm_W → Prop} {x0 : Nat} {x1 : Nat} {x2 : Int32} {s0 : Int32} {s1 : Int32} {s2 : Nat} : sm_R X 34 118 [.ref x0, .ref x1, .int x2] [.int s0, .int s1, .ref s2] w Q ↔ (sm_cN (sm_at w s2) = some 4 ∧ sm_R X 36 0 [.ref s2, .int s1, .int s0] [] w (fun v w => sm_R X 34 121 [.ref x0, .ref x1, .int x2] (v.toList ++ []) w Q)) := sm_q_vir (k := 36) (as := [.ref s2, .int s1, .int s0]) (rest := []) d34_118 rfl rfl rfl rfl rfl
theorem d34_121 : decode (sm_code 34) 121 = .ok (.ireturn, 1) := by decide +kernel
theorem r34_121 {X : sm_X} {w : sm_W} {Q : Option Value → sm_W → Prop} {x0 : Nat} {x1 : Nat} {x2 : Int32} {s0 : Int32} : sm_R X 34 121 [.ref x0, .ref x1, .int x2] [.int s0] w Q ↔ Q (some (.int s0)) w := sm_q_iret d34_121 rfl
theorem d34_122 : decode (sm_code 34) 122 = .ok (.aload_n 0, 1) := by decide +kernel
theorem r34_122 {X : sm_X} {w : sm_W} {Q : Option Value → sm_W → Prop} {x0 : Nat} {x1 : Nat} {x2 : Int32} : sm_R X 34 122 [.ref x0, .ref x1, .int x2] [] w Q ↔ sm_R X 34 123 [.ref x0, .ref x1, .int x2] [.ref x0] w Q := sm_R_go d34_122 rfl
theorem d34_123 : decode (sm_code 34) 123 = .ok (.getfield 12, 3) := by decide +kernel
theorem r34_123 {X : sm_X} {w : sm_W} {Q : Option Value → sm_W → Prop} {x0 : Nat} {x1 : Nat} {x2 : Int32} {s0 : Nat} : sm_R X 34 123 [.ref x0, .ref x1, .int x2] [.ref s0] w Q ↔ sm_wp (sm_fld 2 2 (sm_at w s0)) (fun v => sm_R X 34 126 [.ref x0, .ref x1, .int x2] [v] w Q) := sm_q_getf d34_123 rfl (by decide)
theorem d34_126 : decode (sm_code 34) 126 = .ok (.iconst 1, 1) := by decide +kernel
theorem r34_126 {X : sm_X} {w : sm_W} {Q : Option Value → sm_W → Prop} {x0 : Nat} {x1 : Nat} {x2 : Int32} {s0 : Nat} : sm_R X 34 126 [.ref x0, .ref x1, .int x2] [.ref s0] w Q ↔ sm_R X 34 127 [.ref x0, .ref x1, .int x2] [.int 1, .ref s0] w Q := sm_R_go d34_126 rfl
theorem d34_127 : decode (sm_code 34) 127 = .ok (.aload_n 0, 1) := by decide +kernel
theorem r34_127 {X : sm_X} {w : sm_W} {Q : Option Value → sm_W → Prop} {x0 : Nat} {x1 : Nat} {x2 : Int32} {s0 : Int32} {s1 : Nat} : sm_R X 34 127 [.ref x0, .ref x1, .int x2] [.int s0, .ref s1] w Q ↔ sm_R X 34 128 [.ref x0, .ref x1, .int x2] [.ref x0, .int s0, .ref s1] w Q := sm_R_go d34_127 rfl
theorem d34_128 : decode (sm_code 34) 128 = .ok (.getfield 26, 3) := by decide +kernel
theorem r34_128 {X : sm_X} {w : sm_W} {Q : Option Value → sm_W → Prop} {x0 : Nat} {x1 : Nat} {x2 : Int32} {s0 : Nat} {s1 : Int32} {s2 : Nat} : sm_R X 34 128 [.ref x0, .ref x1, .int x2] [.ref s0, .int s1, .ref s2] w Q ↔ sm_wp (sm_fld 2 1 (sm_at w s0)) (fun v => sm_R X 34 131 [.ref x0, .ref x1, .int x2] [v, .int s1, .ref s2] w Q) := sm_q_getf d34_128 rfl (by decide)
theorem d34_131 : decode (sm_code 34) 131 = .ok (.getfield 132, 3) := by decide +kernel
theorem r34_131 {X : sm_X} {w : sm_W} {Q : Option Value → sm_W → Prop} {x0 : Nat} {x1 : Nat} {x2 : Int32} {s0 : Nat} {s1 : Int32} {s2 : Nat} : sm_R X 34 131 [.ref x0, .ref x1, .int x2] [.ref s0, .int s1, .ref s2] w Q ↔ sm_wp (sm_fld 1 1 (sm_at w s0)) (fun v => sm_R X 34 134 [.ref x0, .ref x1, .int x2] [v, .int s1, .ref s2] w Q) := sm_q_getf d34_131 rfl (by decide)
theorem d34_134 : decode (sm_code 34) 134 = .ok (.invokevirtual 119, 3) := by decide +kernel
theorem r34_134 {X : sm_X} {w : sm_W} {Q : Option Value → sm_W → Prop} {x0 : Nat} {x1 : Nat} {x2 : Int32} {s0 : Int32} {s1 : Int32} {s2 : Nat} : sm_R X 34 134 [.ref x0, .ref x1, .int x2] [.int s0, .int s1, .ref s2] w Q ↔ (sm_cN (sm_at w s2) = some 4 ∧ sm_R X 36 0 [.ref s2, .int s1, .int s0] [] w (fun v w => sm_R X 34 137 [.ref x0, .ref x1, .int x2] (v.toList ++ []) w Q)) := sm_q_vir (k := 36) (as := [.ref s2, .int s1, .int s0]) (rest := []) d34_134 rfl rfl rfl rfl rfl
theorem d34_137 : decode (sm_code 34) 137 = .ok (.ireturn, 1) := by decide +kernel
theorem r34_137 {X : sm_X} {w : sm_W} {Q : Option Value → sm_W → Prop} {x0 : Nat} {x1 : Nat} {x2 : Int32} {s0 : Int32} : sm_R X 34 137 [.ref x0, .ref x1, .int x2] [.int s0] w Q ↔ Q (some (.int s0)) w := sm_q_iret d34_137 rfl
theorem d34_138 : decode (sm_code 34) 138 = .ok (.aload_n 0, 1) := by decide +kernel
theorem r34_138 {X : sm_X} {w : sm_W} {Q : Option Value → sm_W → Prop} {x0 : Nat} {x1 : Nat} {x2 : Int32} : sm_R X 34 138 [.ref x0, .ref x1, .int x2] [] w Q ↔ sm_R X 34 139 [.ref x0, .ref x1, .int x2] [.ref x0] w Q := sm_R_go d34_138 rfl
theorem d34_139 : decode (sm_code 34) 139 = .ok (.getfield 12, 3) := by decide +kernel
theorem r34_139 {X : sm_X} {w : sm_W} {Q : Option Value → sm_W → Prop} {x0 : Nat} {x1 : Nat} {x2 : Int32} {s0 : Nat} : sm_R X 34 139 [.ref x0, .ref x1, .int x2] [.ref s0] w Q ↔ sm_wp (sm_fld 2 2 (sm_at w s0)) (fun v => sm_R X 34 142 [.ref x0, .ref x1, .int x2] [v] w Q) := sm_q_getf d34_139 rfl (by decide)
theorem d34_142 : decode (sm_code 34) 142 = .ok (.iconst 1, 1) := by decide +kernel
theorem r34_142 {X : sm_X} {w : sm_W} {Q : Option Value → sm_W → Prop} {x0 : Nat} {x1 : Nat} {x2 : Int32} {s0 : Nat} : sm_R X 34 142 [.ref x0, .ref x1, .int x2] [.ref s0] w Q ↔ sm_R X 34 143 [.ref x0, .ref x1, .int x2] [.int 1, .ref s0] w Q := sm_R_go d34_142 rfl
theorem d34_143 : decode (sm_code 34) 143 = .ok (.aload_n 0, 1) := by decide +kernel
theorem r34_143 {X : sm_X} {w : sm_W} {Q : Option Value → sm_W → Prop} {x0 : Nat} {x1 : Nat} {x2 : Int32} {s0 : Int32} {s1 : Nat} : sm_R X 34 143 [.ref x0, .ref x1, .int x2] [.int s0, .ref s1] w Q ↔ sm_R X 34 144 [.ref x0, .ref x1, .int x2] [.ref x0, .int s0, .ref s1] w Q := sm_R_go d34_143 rfl
theorem d34_144 : decode (sm_code 34) 144 = .ok (.getfield 58, 3) := by decide +kernel
theorem r34_144 {X : sm_X} {w : sm_W} {Q : Option Value → sm_W → Prop} {x0 : Nat} {x1 : Nat} {x2 : Int32} {s0 : Nat} {s1 : Int32} {s2 : Nat} : sm_R X 34 144 [.ref x0, .ref x1, .int x2] [.ref s0, .int s1, .ref s2] w Q ↔ sm_wp (sm_fld 2 8 (sm_at w s0)) (fun v => sm_R X 34 147 [.ref x0, .ref x1, .int x2] [v, .int s1, .ref s2] w Q) := sm_q_getf d34_144 rfl (by decide)
theorem d34_147 : decode (sm_code 34) 147 = .ok (.invokevirtual 119, 3) := by decide +kernel
theorem r34_147 {X : sm_X} {w : sm_W} {Q : Option Value → sm_W → Prop} {x0 : Nat} {x1 : Nat} {x2 : Int32} {s0 : Int32} {s1 : Int32} {s2 : Nat} : sm_R X 34 147 [.ref x0, .ref x1, .int x2] [.int s0, .int s1, .ref s2] w Q ↔ (sm_cN (sm_at w s2) = some 4 ∧ sm_R X 36 0 [.ref s2, .int s1, .int s0] [] w (fun v w => sm_R X 34 150 [.ref x0, .ref x1, .int x2] (v.toList ++ []) w Q)) := sm_q_vir (k := 36) (as := [.ref s2, .int s1, .int s0]) (rest := []) d34_147 rfl rfl rfl rfl rfl
theorem d34_150 : decode (sm_code 34) 150 = .ok (.ireturn, 1) := by decide +kernel
theorem r34_150 {X : sm_X} {w : sm_W} {Q : Option Value → sm_W → Prop} {x0 : Nat} {x1 : Nat} {x2 : Int32} {s0 : Int32} : sm_R X 34 150 [.ref x0, .ref x1, .int x2] [.int s0] w Q ↔ Q (some (.int s0)) w := sm_q_iret d34_150 rfl
theorem d34_151 : decode (sm_code 34) 151 = .ok (.aload_n 0, 1) := by decide +kernel
theorem r34_151 {X : sm_X} {w : sm_W} {Q : Option Value → sm_W → Prop} {x0 : Nat} {x1 : Nat} {x2 : Int32} : sm_R X 34 151 [.ref x0, .ref x1, .int x2] [] w Q ↔ sm_R X 34 152 [.ref x0, .ref x1, .int x2] [.ref x0] w Q := sm_R_go d34_151 rfl
theorem d34_152 : decode (sm_code 34) 152 = .ok (.getfield 12, 3) := by decide +kernel
theorem r34_152 {X : sm_X} {w : sm_W} {Q : Option Value → sm_W → Prop} {x0 : Nat} {x1 : Nat} {x2 : Int32} {s0 : Nat} : sm_R X 34 152 [.ref x0, .ref x1, .int x2] [.ref s0] w Q ↔ sm_wp (sm_fld 2 2 (sm_at w s0)) (fun v => sm_R X 34 155 [.ref x0, .ref x1, .int x2] [v] w Q) := sm_q_getf d34_152 rfl (by decide)
theorem d34_155 : decode (sm_code 34) 155 = .ok (.iconst 1, 1) := by decide +kernel
theorem r34_155 {X : sm_X} {w : sm_W} {Q : Option Value → sm_W → Prop} {x0 : Nat} {x1 : Nat} {x2 : Int32} {s0 : Nat} : sm_R X 34 155 [.ref x0, .ref x1, .int x2] [.ref s0] w Q ↔ sm_R X 34 156 [.ref x0, .ref x1, .int x2] [.int 1, .ref s0] w Q := sm_R_go d34_155 rfl
theorem d34_156 : decode (sm_code 34) 156 = .ok (.aload_n 0, 1) := by decide +kernel
theorem r34_156 {X : sm_X} {w : sm_W} {Q : Option Value → sm_W → Prop} {x0 : Nat} {x1 : Nat} {x2 : Int32} {s0 : Int32} {s1 : Nat} : sm_R X 34 156 [.ref x0, .ref x1, .int x2] [.int s0, .ref s1] w Q ↔ sm_R X 34 157 [.ref x0, .ref x1, .int x2] [.ref x0, .int s0, .ref s1] w Q := sm_R_go d34_156 rfl
theorem d34_157 : decode (sm_code 34) 157 = .ok (.getfield 22, 3) := by decide +kernel
theorem r34_157 {X : sm_X} {w : sm_W} {Q : Option Value → sm_W → Prop} {x0 : Nat} {x1 : Nat} {x2 : Int32} {s0 : Nat} {s1 : Int32} {s2 : Nat} : sm_R X 34 157 [.ref x0, .ref x1, .int x2] [.ref s0, .int s1, .ref s2] w Q ↔ sm_wp (sm_fld 2 0 (sm_at w s0)) (fun v => sm_R X 34 160 [.ref x0, .ref x1, .int x2] [v, .int s1, .ref s2] w Q) := sm_q_getf d34_157 rfl (by decide)
theorem d34_160 : decode (sm_code 34) 160 = .ok (.getfield 133, 3) := by decide +kernel
theorem r34_160 {X : sm_X} {w : sm_W} {Q : Option Value → sm_W → Prop} {x0 : Nat} {x1 : Nat} {x2 : Int32} {s0 : Nat} {s1 : Int32} {s2 : Nat} : sm_R X 34 160 [.ref x0, .ref x1, .int x2] [.ref s0, .int s1, .ref s2] w Q ↔ sm_wp (sm_fld 0 1 (sm_at w s0)) (fun v => sm_R X 34 163 [.ref x0, .ref x1, .int x2] [v, .int s1, .ref s2] w Q) := sm_q_getf d34_160 rfl (by decide)
theorem d34_163 : decode (sm_code 34) 163 = .ok (.aload_n 0, 1) := by decide +kernel
theorem r34_163 {X : sm_X} {w : sm_W} {Q : Option Value → sm_W → Prop} {x0 : Nat} {x1 : Nat} {x2 : Int32} {s0 : Nat} {s1 : Int32} {s2 : Nat} : sm_R X 34 163 [.ref x0, .ref x1, .int x2] [.ref s0, .int s1, .ref s2] w Q ↔ sm_R X 34 164 [.ref x0, .ref x1, .int x2] [.ref x0, .ref s0, .int s1, .ref s2] w Q := sm_R_go d34_163 rfl
theorem d34_164 : decode (sm_code 34) 164 = .ok (.getfield 36, 3) := by decide +kernel
theorem r34_164 {X : sm_X} {w : sm_W} {Q : Option Value → sm_W → Prop} {x0 : Nat} {x1 : Nat} {x2 : Int32} {s0 : Nat} {s1 : Nat} {s2 : Int32} {s3 : Nat} : sm_R X 34 164 [.ref x0, .ref x1, .int x2] [.ref s0, .ref s1, .int s2, .ref s3] w Q ↔ sm_wp (sm_fld 2 7 (sm_at w s0)) (fun v => sm_R X 34 167 [.ref x0, .ref x1, .int x2] [v, .ref s1, .int s2, .ref s3] w Q) := sm_q_getf d34_164 rfl (by decide)
theorem d34_167 : decode (sm_code 34) 167 = .ok (.getfield 139, 3) := by decide +kernel
theorem r34_167 {X : sm_X} {w : sm_W} {Q : Option Value → sm_W → Prop} {x0 : Nat} {x1 : Nat} {x2 : Int32} {s0 : Nat} {s1 : Nat} {s2 : Int32} {s3 : Nat} : sm_R X 34 167 [.ref x0, .ref x1, .int x2] [.ref s0, .ref s1, .int s2, .ref s3] w Q ↔ sm_wp (sm_fld 5 4 (sm_at w s0)) (fun v => sm_R X 34 170 [.ref x0, .ref x1, .int x2] [v, .ref s1, .int s2, .ref s3] w Q) := sm_q_getf d34_167 rfl (by decide)
theorem d34_170 : decode (sm_code 34) 170 = .ok (.aaload, 1) := by decide +kernel
theorem r34_170 {X : sm_X} {w : sm_W} {Q : Option Value → sm_W → Prop} {x0 : Nat} {x1 : Nat} {x2 : Int32} {s0 : Int32} {s1 : Nat} {s2 : Int32} {s3 : Nat} : sm_R X 34 170 [.ref x0, .ref x1, .int x2] [.int s0, .ref s1, .int s2, .ref s3] w Q ↔ sm_wp (sm_aa s1 s0 (sm_get X w s1)) (fun v => sm_R X 34 171 [.ref x0, .ref x1, .int x2] [.ref v, .int s2, .ref s3] w Q) := sm_q_aald d34_170
theorem d34_171 : decode (sm_code 34) 171 = .ok (.iload_n 2, 1) := by decide +kernel
theorem r34_171 {X : sm_X} {w : sm_W} {Q : Option Value → sm_W → Prop} {x0 : Nat} {x1 : Nat} {x2 : Int32} {s0 : Nat} {s1 : Int32} {s2 : Nat} : sm_R X 34 171 [.ref x0, .ref x1, .int x2] [.ref s0, .int s1, .ref s2] w Q ↔ sm_R X 34 172 [.ref x0, .ref x1, .int x2] [.int x2, .ref s0, .int s1, .ref s2] w Q := sm_R_go d34_171 rfl
theorem d34_172 : decode (sm_code 34) 172 = .ok (.iaload, 1) := by decide +kernel
theorem r34_172 {X : sm_X} {w : sm_W} {Q : Option Value → sm_W → Prop} {x0 : Nat} {x1 : Nat} {x2 : Int32} {s0 : Int32} {s1 : Nat} {s2 : Int32} {s3 : Nat} : sm_R X 34 172 [.ref x0, .ref x1, .int x2] [.int s0, .ref s1, .int s2, .ref s3] w Q ↔ sm_wp (sm_ai s0 (sm_get X w s1)) (fun v => sm_R X 34 173 [.ref x0, .ref x1, .int x2] [.int v, .int s2, .ref s3] w Q) := sm_q_iald d34_172
theorem d34_173 : decode (sm_code 34) 173 = .ok (.invokevirtual 119, 3) := by decide +kernel
theorem r34_173 {X : sm_X} {w : sm_W} {Q : Option Value → sm_W → Prop} {x0 : Nat} {x1 : Nat} {x2 : Int32} {s0 : Int32} {s1 : Int32} {s2 : Nat} : sm_R X 34 173 [.ref x0, .ref x1, .int x2] [.int s0, .int s1, .ref s2] w Q ↔ (sm_cN (sm_at w s2) = some 4 ∧ sm_R X 36 0 [.ref s2, .int s1, .int s0] [] w (fun v w => sm_R X 34 176 [.ref x0, .ref x1, .int x2] (v.toList ++ []) w Q)) := sm_q_vir (k := 36) (as := [.ref s2, .int s1, .int s0]) (rest := []) d34_173 rfl rfl rfl rfl rfl
theorem d34_176 : decode (sm_code 34) 176 = .ok (.ireturn, 1) := by decide +kernel
theorem r34_176 {X : sm_X} {w : sm_W} {Q : Option Value → sm_W → Prop} {x0 : Nat} {x1 : Nat} {x2 : Int32} {s0 : Int32} : sm_R X 34 176 [.ref x0, .ref x1, .int x2] [.int s0] w Q ↔ Q (some (.int s0)) w := sm_q_iret d34_176 rfl
theorem d34_177 : decode (sm_code 34) 177 = .ok (.aload_n 0, 1) := by decide +kernel
theorem r34_177 {X : sm_X} {w : sm_W} {Q : Option Value → sm_W → Prop} {x0 : Nat} {x1 : Nat} {x2 : Int32} : sm_R X 34 177 [.ref x0, .ref x1, .int x2] [] w Q ↔ sm_R X 34 178 [.ref x0, .ref x1, .int x2] [.ref x0] w Q := sm_R_go d34_177 rfl
theorem d34_178 : decode (sm_code 34) 178 = .ok (.getfield 12, 3) := by decide +kernel
theorem r34_178 {X : sm_X} {w : sm_W} {Q : Option Value → sm_W → Prop} {x0 : Nat} {x1 : Nat} {x2 : Int32} {s0 : Nat} : sm_R X 34 178 [.ref x0, .ref x1, .int x2] [.ref s0] w Q ↔ sm_wp (sm_fld 2 2 (sm_at w s0)) (fun v => sm_R X 34 181 [.ref x0, .ref x1, .int x2] [v] w Q) := sm_q_getf d34_178 rfl (by decide)
theorem d34_181 : decode (sm_code 34) 181 = .ok (.iconst 1, 1) := by decide +kernel
theorem r34_181 {X : sm_X} {w : sm_W} {Q : Option Value → sm_W → Prop} {x0 : Nat} {x1 : Nat} {x2 : Int32} {s0 : Nat} : sm_R X 34 181 [.ref x0, .ref x1, .int x2] [.ref s0] w Q ↔ sm_R X 34 182 [.ref x0, .ref x1, .int x2] [.int 1, .ref s0] w Q := sm_R_go d34_181 rfl
theorem d34_182 : decode (sm_code 34) 182 = .ok (.aload_n 0, 1) := by decide +kernel
theorem r34_182 {X : sm_X} {w : sm_W} {Q : Option Value → sm_W → Prop} {x0 : Nat} {x1 : Nat} {x2 : Int32} {s0 : Int32} {s1 : Nat} : sm_R X 34 182 [.ref x0, .ref x1, .int x2] [.int s0, .ref s1] w Q ↔ sm_R X 34 183 [.ref x0, .ref x1, .int x2] [.ref x0, .int s0, .ref s1] w Q := sm_R_go d34_182 rfl
theorem d34_183 : decode (sm_code 34) 183 = .ok (.getfield 36, 3) := by decide +kernel
theorem r34_183 {X : sm_X} {w : sm_W} {Q : Option Value → sm_W → Prop} {x0 : Nat} {x1 : Nat} {x2 : Int32} {s0 : Nat} {s1 : Int32} {s2 : Nat} : sm_R X 34 183 [.ref x0, .ref x1, .int x2] [.ref s0, .int s1, .ref s2] w Q ↔ sm_wp (sm_fld 2 7 (sm_at w s0)) (fun v => sm_R X 34 186 [.ref x0, .ref x1, .int x2] [v, .int s1, .ref s2] w Q) := sm_q_getf d34_183 rfl (by decide)
theorem d34_186 : decode (sm_code 34) 186 = .ok (.getfield 142, 3) := by decide +kernel
theorem r34_186 {X : sm_X} {w : sm_W} {Q : Option Value → sm_W → Prop} {x0 : Nat} {x1 : Nat} {x2 : Int32} {s0 : Nat} {s1 : Int32} {s2 : Nat} : sm_R X 34 186 [.ref x0, .ref x1, .int x2] [.ref s0, .int s1, .ref s2] w Q ↔ sm_wp (sm_fld 5 8 (sm_at w s0)) (fun v => sm_R X 34 189 [.ref x0, .ref x1, .int x2] [v, .int s1, .ref s2] w Q) := sm_q_getf d34_186 rfl (by decide)
theorem d34_189 : decode (sm_code 34) 189 = .ok (.iload_n 2, 1) := by decide +kernel
theorem r34_189 {X : sm_X} {w : sm_W} {Q : Option Value → sm_W → Prop} {x0 : Nat} {x1 : Nat} {x2 : Int32} {s0 : Nat} {s1 : Int32} {s2 : Nat} : sm_R X 34 189 [.ref x0, .ref x1, .int x2] [.ref s0, .int s1, .ref s2] w Q ↔ sm_R X 34 190 [.ref x0, .ref x1, .int x2] [.int x2, .ref s0, .int s1, .ref s2] w Q := sm_R_go d34_189 rfl
theorem d34_190 : decode (sm_code 34) 190 = .ok (.iaload, 1) := by decide +kernel
theorem r34_190 {X : sm_X} {w : sm_W} {Q : Option Value → sm_W → Prop} {x0 : Nat} {x1 : Nat} {x2 : Int32} {s0 : Int32} {s1 : Nat} {s2 : Int32} {s3 : Nat} : sm_R X 34 190 [.ref x0, .ref x1, .int x2] [.int s0, .ref s1, .int s2, .ref s3] w Q ↔ sm_wp (sm_ai s0 (sm_get X w s1)) (fun v => sm_R X 34 191 [.ref x0, .ref x1, .int x2] [.int v, .int s2, .ref s3] w Q) := sm_q_iald d34_190
theorem d34_191 : decode (sm_code 34) 191 = .ok (.invokevirtual 119, 3) := by decide +kernel
theorem r34_191 {X : sm_X} {w : sm_W} {Q : Option Value → sm_W → Prop} {x0 : Nat} {x1 : Nat} {x2 : Int32} {s0 : Int32} {s1 : Int32} {s2 : Nat} : sm_R X 34 191 [.ref x0, .ref x1, .int x2] [.int s0, .int s1, .ref s2] w Q ↔ (sm_cN (sm_at w s2) = some 4 ∧ sm_R X 36 0 [.ref s2, .int s1, .int s0] [] w (fun v w => sm_R X 34 194 [.ref x0, .ref x1, .int x2] (v.toList ++ []) w Q)) := sm_q_vir (k := 36) (as := [.ref s2, .int s1, .int s0]) (rest := []) d34_191 rfl rfl rfl rfl rfl
theorem d34_194 : decode (sm_code 34) 194 = .ok (.ireturn, 1) := by decide +kernel
theorem r34_194 {X : sm_X} {w : sm_W} {Q : Option Value → sm_W → Prop} {x0 : Nat} {x1 : Nat} {x2 : Int32} {s0 : Int32} : sm_R X 34 194 [.ref x0, .ref x1, .int x2] [.int s0] w Q ↔ Q (some (.int s0)) w := sm_q_iret d34_194 rfl
theorem d34_195 : decode (sm_code 34) 195 = .ok (.aload_n 0, 1) := by decide +kernel
theorem r34_195 {X : sm_X} {w : sm_W} {Q : Option Value → sm_W → Prop} {x0 : Nat} {x1 : Nat} {x2 : Int32} : sm_R X 34 195 [.ref x0, .ref x1, .int x2] [] w Q ↔ sm_R X 34 196 [.ref x0, .ref x1, .int x2] [.ref x0] w Q := sm_R_go d34_195 rfl
theorem d34_196 : decode (sm_code 34) 196 = .ok (.iload_n 2, 1) := by decide +kernel
theorem r34_196 {X : sm_X} {w : sm_W} {Q : Option Value → sm_W → Prop} {x0 : Nat} {x1 : Nat} {x2 : Int32} {s0 : Nat} : sm_R X 34 196 [.ref x0, .ref x1, .int x2] [.ref s0] w Q ↔ sm_R X 34 197 [.ref x0, .ref x1, .int x2] [.int x2, .ref s0] w Q := sm_R_go d34_196 rfl
theorem d34_197 : decode (sm_code 34) 197 = .ok (.putfield 61, 3) := by decide +kernel
theorem r34_197 {X : sm_X} {w : sm_W} {Q : Option Value → sm_W → Prop} {x0 : Nat} {x1 : Nat} {x2 : Int32} {s0 : Int32} {s1 : Nat} : sm_R X 34 197 [.ref x0, .ref x1, .int x2] [.int s0, .ref s1] w Q ↔ sm_wp (sm_pfl 2 9 (.int s0) (sm_at w s1)) (fun c => sm_R X 34 200 [.ref x0, .ref x1, .int x2] [] (w.set (s1 - 100) c) Q) := sm_q_putf d34_197 rfl rfl rfl (by decide)
theorem d34_200 : decode (sm_code 34) 200 = .ok (.iconst 0, 1) := by decide +kernel
theorem r34_200 {X : sm_X} {w : sm_W} {Q : Option Value → sm_W → Prop} {x0 : Nat} {x1 : Nat} {x2 : Int32} : sm_R X 34 200 [.ref x0, .ref x1, .int x2] [] w Q ↔ sm_R X 34 201 [.ref x0, .ref x1, .int x2] [.int 0] w Q := sm_R_go d34_200 rfl
theorem d34_201 : decode (sm_code 34) 201 = .ok (.ireturn, 1) := by decide +kernel
theorem r34_201 {X : sm_X} {w : sm_W} {Q : Option Value → sm_W → Prop} {x0 : Nat} {x1 : Nat} {x2 : Int32} {s0 : Int32} : sm_R X 34 201 [.ref x0, .ref x1, .int x2] [.int s0] w Q ↔ Q (some (.int s0)) w := sm_q_iret d34_201 rfl
-- java/lang/Enum.ordinal()I
theorem d35_0 : decode (sm_code 35) 0 = .ok (.aload_n 0, 1) := by decide +kernel
theorem r35_0 {X : sm_X} {w : sm_W} {Q : Option Value → sm_W → Prop} {x0 : Nat} : sm_R X 35 0 [.ref x0] [] w Q ↔ sm_R X 35 1 [.ref x0] [.ref x0] w Q := sm_R_go d35_0 rfl
theorem d35_1 : decode (sm_code 35) 1 = .ok (.getfield 7, 3) := by decide +kernel
theorem r35_1 {X : sm_X} {w : sm_W} {Q : Option Value → sm_W → Prop} {x0 : Nat} {s0 : Nat} (h : s0 < 100) : sm_R X 35 1 [.ref x0] [.ref s0] w Q ↔ sm_wp (sm_enF 9 0 s0) (fun v => sm_R X 35 4 [.ref x0] [.int v] w Q) := sm_q_gete d35_1 rfl h
theorem d35_4 : decode (sm_code 35) 4 = .ok (.ireturn, 1) := by decide +kernel
theorem r35_4 {X : sm_X} {w : sm_W} {Q : Option Value → sm_W → Prop} {x0 : Nat} {s0 : Int32} : sm_R X 35 4 [.ref x0] [.int s0] w Q ↔ Q (some (.int s0)) w := sm_q_iret d35_4 rfl
-- GroupLedger$Stack.put(II)I
theorem d36_0 : decode (sm_code 36) 0 = .ok (.aload_n 0, 1) := by decide +kernel
theorem r36_0 {X : sm_X} {w : sm_W} {Q : Option Value → sm_W → Prop} {x0 : Nat} {x1 : Int32} {x2 : Int32} : sm_R X 36 0 [.ref x0, .int x1, .int x2] [] w Q ↔ sm_R X 36 1 [.ref x0, .int x1, .int x2] [.ref x0] w Q := sm_R_go d36_0 rfl
theorem d36_1 : decode (sm_code 36) 1 = .ok (.getfield 24, 3) := by decide +kernel
theorem r36_1 {X : sm_X} {w : sm_W} {Q : Option Value → sm_W → Prop} {x0 : Nat} {x1 : Int32} {x2 : Int32} {s0 : Nat} : sm_R X 36 1 [.ref x0, .int x1, .int x2] [.ref s0] w Q ↔ sm_wp (sm_fld 4 2 (sm_at w s0)) (fun v => sm_R X 36 4 [.ref x0, .int x1, .int x2] [v] w Q) := sm_q_getf d36_1 rfl (by decide)
theorem d36_4 : decode (sm_code 36) 4 = .ok (.bipush 8, 2) := by decide +kernel
theorem r36_4 {X : sm_X} {w : sm_W} {Q : Option Value → sm_W → Prop} {x0 : Nat} {x1 : Int32} {x2 : Int32} {s0 : Int32} : sm_R X 36 4 [.ref x0, .int x1, .int x2] [.int s0] w Q ↔ sm_R X 36 6 [.ref x0, .int x1, .int x2] [.int 8, .int s0] w Q := sm_R_go d36_4 rfl
theorem d36_6 : decode (sm_code 36) 6 = .ok (.if_icmp .lt 5, 3) := by decide +kernel
theorem r36_6 {X : sm_X} {w : sm_W} {Q : Option Value → sm_W → Prop} {x0 : Nat} {x1 : Int32} {x2 : Int32} {s0 : Int32} {s1 : Int32} : sm_R X 36 6 [.ref x0, .int x1, .int x2] [.int s0, .int s1] w Q ↔ (if s1 < s0 then sm_R X 36 11 [.ref x0, .int x1, .int x2] [] w Q else sm_R X 36 9 [.ref x0, .int x1, .int x2] [] w Q) := sm_q_br d36_6 rfl
theorem d36_9 : decode (sm_code 36) 9 = .ok (.iconst 1, 1) := by decide +kernel
theorem r36_9 {X : sm_X} {w : sm_W} {Q : Option Value → sm_W → Prop} {x0 : Nat} {x1 : Int32} {x2 : Int32} : sm_R X 36 9 [.ref x0, .int x1, .int x2] [] w Q ↔ sm_R X 36 10 [.ref x0, .int x1, .int x2] [.int 1] w Q := sm_R_go d36_9 rfl
theorem d36_10 : decode (sm_code 36) 10 = .ok (.ireturn, 1) := by decide +kernel
theorem r36_10 {X : sm_X} {w : sm_W} {Q : Option Value → sm_W → Prop} {x0 : Nat} {x1 : Int32} {x2 : Int32} {s0 : Int32} : sm_R X 36 10 [.ref x0, .int x1, .int x2] [.int s0] w Q ↔ Q (some (.int s0)) w := sm_q_iret d36_10 rfl
theorem d36_11 : decode (sm_code 36) 11 = .ok (.aload_n 0, 1) := by decide +kernel
theorem r36_11 {X : sm_X} {w : sm_W} {Q : Option Value → sm_W → Prop} {x0 : Nat} {x1 : Int32} {x2 : Int32} : sm_R X 36 11 [.ref x0, .int x1, .int x2] [] w Q ↔ sm_R X 36 12 [.ref x0, .int x1, .int x2] [.ref x0] w Q := sm_R_go d36_11 rfl
theorem d36_12 : decode (sm_code 36) 12 = .ok (.getfield 9, 3) := by decide +kernel
theorem r36_12 {X : sm_X} {w : sm_W} {Q : Option Value → sm_W → Prop} {x0 : Nat} {x1 : Int32} {x2 : Int32} {s0 : Nat} : sm_R X 36 12 [.ref x0, .int x1, .int x2] [.ref s0] w Q ↔ sm_wp (sm_fld 4 0 (sm_at w s0)) (fun v => sm_R X 36 15 [.ref x0, .int x1, .int x2] [v] w Q) := sm_q_getf d36_12 rfl (by decide)
theorem d36_15 : decode (sm_code 36) 15 = .ok (.aload_n 0, 1) := by decide +kernel
theorem r36_15 {X : sm_X} {w : sm_W} {Q : Option Value → sm_W → Prop} {x0 : Nat} {x1 : Int32} {x2 : Int32} {s0 : Nat} : sm_R X 36 15 [.ref x0, .int x1, .int x2] [.ref s0] w Q ↔ sm_R X 36 16 [.ref x0, .int x1, .int x2] [.ref x0, .ref s0] w Q := sm_R_go d36_15 rfl
theorem d36_16 : decode (sm_code 36) 16 = .ok (.getfield 24, 3) := by decide +kernel
theorem r36_16 {X : sm_X} {w : sm_W} {Q : Option Value → sm_W → Prop} {x0 : Nat} {x1 : Int32} {x2 : Int32} {s0 : Nat} {s1 : Nat} : sm_R X 36 16 [.ref x0, .int x1, .int x2] [.ref s0, .ref s1] w Q ↔ sm_wp (sm_fld 4 2 (sm_at w s0)) (fun v => sm_R X 36 19 [.ref x0, .int x1, .int x2] [v, .ref s1] w Q) := sm_q_getf d36_16 rfl (by decide)
theorem d36_19 : decode (sm_code 36) 19 = .ok (.iload_n 1, 1) := by decide +kernel
theorem r36_19 {X : sm_X} {w : sm_W} {Q : Option Value → sm_W → Prop} {x0 : Nat} {x1 : Int32} {x2 : Int32} {s0 : Int32} {s1 : Nat} : sm_R X 36 19 [.ref x0, .int x1, .int x2] [.int s0, .ref s1] w Q ↔ sm_R X 36 20 [.ref x0, .int x1, .int x2] [.int x1, .int s0, .ref s1] w Q := sm_R_go d36_19 rfl
theorem d36_20 : decode (sm_code 36) 20 = .ok (.iastore, 1) := by decide +kernel
theorem r36_20 {X : sm_X} {w : sm_W} {Q : Option Value → sm_W → Prop} {x0 : Nat} {x1 : Int32} {x2 : Int32} {s0 : Int32} {s1 : Int32} {s2 : Nat} : sm_R X 36 20 [.ref x0, .int x1, .int x2] [.int s0, .int s1, .ref s2] w Q ↔ sm_wp (sm_si s1 s0 (sm_at w s2)) (fun c => sm_R X 36 21 [.ref x0, .int x1, .int x2] [] (w.set (s2 - 100) c) Q) := sm_q_iast d36_20
theorem d36_21 : decode (sm_code 36) 21 = .ok (.aload_n 0, 1) := by decide +kernel
theorem r36_21 {X : sm_X} {w : sm_W} {Q : Option Value → sm_W → Prop} {x0 : Nat} {x1 : Int32} {x2 : Int32} : sm_R X 36 21 [.ref x0, .int x1, .int x2] [] w Q ↔ sm_R X 36 22 [.ref x0, .int x1, .int x2] [.ref x0] w Q := sm_R_go d36_21 rfl
theorem d36_22 : decode (sm_code 36) 22 = .ok (.getfield 15, 3) := by decide +kernel
theorem r36_22 {X : sm_X} {w : sm_W} {Q : Option Value → sm_W → Prop} {x0 : Nat} {x1 : Int32} {x2 : Int32} {s0 : Nat} : sm_R X 36 22 [.ref x0, .int x1, .int x2] [.ref s0] w Q ↔ sm_wp (sm_fld 4 1 (sm_at w s0)) (fun v => sm_R X 36 25 [.ref x0, .int x1, .int x2] [v] w Q) := sm_q_getf d36_22 rfl (by decide)
theorem d36_25 : decode (sm_code 36) 25 = .ok (.aload_n 0, 1) := by decide +kernel
theorem r36_25 {X : sm_X} {w : sm_W} {Q : Option Value → sm_W → Prop} {x0 : Nat} {x1 : Int32} {x2 : Int32} {s0 : Nat} : sm_R X 36 25 [.ref x0, .int x1, .int x2] [.ref s0] w Q ↔ sm_R X 36 26 [.ref x0, .int x1, .int x2] [.ref x0, .ref s0] w Q := sm_R_go d36_25 rfl
theorem d36_26 : decode (sm_code 36) 26 = .ok (.getfield 24, 3) := by decide +kernel
theorem r36_26 {X : sm_X} {w : sm_W} {Q : Option Value → sm_W → Prop} {x0 : Nat} {x1 : Int32} {x2 : Int32} {s0 : Nat} {s1 : Nat} : sm_R X 36 26 [.ref x0, .int x1, .int x2] [.ref s0, .ref s1] w Q ↔ sm_wp (sm_fld 4 2 (sm_at w s0)) (fun v => sm_R X 36 29 [.ref x0, .int x1, .int x2] [v, .ref s1] w Q) := sm_q_getf d36_26 rfl (by decide)
theorem d36_29 : decode (sm_code 36) 29 = .ok (.iload_n 2, 1) := by decide +kernel
theorem r36_29 {X : sm_X} {w : sm_W} {Q : Option Value → sm_W → Prop} {x0 : Nat} {x1 : Int32} {x2 : Int32} {s0 : Int32} {s1 : Nat} : sm_R X 36 29 [.ref x0, .int x1, .int x2] [.int s0, .ref s1] w Q ↔ sm_R X 36 30 [.ref x0, .int x1, .int x2] [.int x2, .int s0, .ref s1] w Q := sm_R_go d36_29 rfl
theorem d36_30 : decode (sm_code 36) 30 = .ok (.iastore, 1) := by decide +kernel
theorem r36_30 {X : sm_X} {w : sm_W} {Q : Option Value → sm_W → Prop} {x0 : Nat} {x1 : Int32} {x2 : Int32} {s0 : Int32} {s1 : Int32} {s2 : Nat} : sm_R X 36 30 [.ref x0, .int x1, .int x2] [.int s0, .int s1, .ref s2] w Q ↔ sm_wp (sm_si s1 s0 (sm_at w s2)) (fun c => sm_R X 36 31 [.ref x0, .int x1, .int x2] [] (w.set (s2 - 100) c) Q) := sm_q_iast d36_30
theorem d36_31 : decode (sm_code 36) 31 = .ok (.aload_n 0, 1) := by decide +kernel
theorem r36_31 {X : sm_X} {w : sm_W} {Q : Option Value → sm_W → Prop} {x0 : Nat} {x1 : Int32} {x2 : Int32} : sm_R X 36 31 [.ref x0, .int x1, .int x2] [] w Q ↔ sm_R X 36 32 [.ref x0, .int x1, .int x2] [.ref x0] w Q := sm_R_go d36_31 rfl
theorem d36_32 : decode (sm_code 36) 32 = .ok (.dup, 1) := by decide +kernel
theorem r36_32 {X : sm_X} {w : sm_W} {Q : Option Value → sm_W → Prop} {x0 : Nat} {x1 : Int32} {x2 : Int32} {s0 : Nat} : sm_R X 36 32 [.ref x0, .int x1, .int x2] [.ref s0] w Q ↔ sm_R X 36 33 [.ref x0, .int x1, .int x2] [.ref s0, .ref s0] w Q := sm_R_go d36_32 rfl
theorem d36_33 : decode (sm_code 36) 33 = .ok (.getfield 24, 3) := by decide +kernel
theorem r36_33 {X : sm_X} {w : sm_W} {Q : Option Value → sm_W → Prop} {x0 : Nat} {x1 : Int32} {x2 : Int32} {s0 : Nat} {s1 : Nat} : sm_R X 36 33 [.ref x0, .int x1, .int x2] [.ref s0, .ref s1] w Q ↔ sm_wp (sm_fld 4 2 (sm_at w s0)) (fun v => sm_R X 36 36 [.ref x0, .int x1, .int x2] [v, .ref s1] w Q) := sm_q_getf d36_33 rfl (by decide)
theorem d36_36 : decode (sm_code 36) 36 = .ok (.iconst 1, 1) := by decide +kernel
theorem r36_36 {X : sm_X} {w : sm_W} {Q : Option Value → sm_W → Prop} {x0 : Nat} {x1 : Int32} {x2 : Int32} {s0 : Int32} {s1 : Nat} : sm_R X 36 36 [.ref x0, .int x1, .int x2] [.int s0, .ref s1] w Q ↔ sm_R X 36 37 [.ref x0, .int x1, .int x2] [.int 1, .int s0, .ref s1] w Q := sm_R_go d36_36 rfl
theorem d36_37 : decode (sm_code 36) 37 = .ok (.iadd, 1) := by decide +kernel
theorem r36_37 {X : sm_X} {w : sm_W} {Q : Option Value → sm_W → Prop} {x0 : Nat} {x1 : Int32} {x2 : Int32} {s0 : Int32} {s1 : Int32} {s2 : Nat} : sm_R X 36 37 [.ref x0, .int x1, .int x2] [.int s0, .int s1, .ref s2] w Q ↔ sm_R X 36 38 [.ref x0, .int x1, .int x2] [.int (s1 + s0), .ref s2] w Q := sm_R_go d36_37 rfl
theorem d36_38 : decode (sm_code 36) 38 = .ok (.putfield 24, 3) := by decide +kernel
theorem r36_38 {X : sm_X} {w : sm_W} {Q : Option Value → sm_W → Prop} {x0 : Nat} {x1 : Int32} {x2 : Int32} {s0 : Int32} {s1 : Nat} : sm_R X 36 38 [.ref x0, .int x1, .int x2] [.int s0, .ref s1] w Q ↔ sm_wp (sm_pfl 4 2 (.int s0) (sm_at w s1)) (fun c => sm_R X 36 41 [.ref x0, .int x1, .int x2] [] (w.set (s1 - 100) c) Q) := sm_q_putf d36_38 rfl rfl rfl (by decide)
theorem d36_41 : decode (sm_code 36) 41 = .ok (.iconst 0, 1) := by decide +kernel
theorem r36_41 {X : sm_X} {w : sm_W} {Q : Option Value → sm_W → Prop} {x0 : Nat} {x1 : Int32} {x2 : Int32} : sm_R X 36 41 [.ref x0, .int x1, .int x2] [] w Q ↔ sm_R X 36 42 [.ref x0, .int x1, .int x2] [.int 0] w Q := sm_R_go d36_41 rfl
theorem d36_42 : decode (sm_code 36) 42 = .ok (.ireturn, 1) := by decide +kernel
theorem r36_42 {X : sm_X} {w : sm_W} {Q : Option Value → sm_W → Prop} {x0 : Nat} {x1 : Int32} {x2 : Int32} {s0 : Int32} : sm_R X 36 42 [.ref x0, .int x1, .int x2] [.int s0] w Q ↔ Q (some (.int s0)) w := sm_q_iret d36_42 rfl
-- GroupLedger$Machine.actTakingOne(LGroupLedger$Op;I)I
theorem d37_0 : decode (sm_code 37) 0 = .ok (.aload_n 0, 1) := by decide +kernel
theorem r37_0 {X : sm_X} {w : sm_W} {Q : Option Value → sm_W → Prop} {x0 : Nat} {x1 : Nat} {x2 : Int32} : sm_R X 37 0 [.ref x0, .ref x1, .int x2, sm_J, sm_J] [] w Q ↔ sm_R X 37 1 [.ref x0, .ref x1, .int x2, sm_J, sm_J] [.ref x0] w Q := sm_R_go d37_0 rfl
theorem d37_1 : decode (sm_code 37) 1 = .ok (.getfield 12, 3) := by decide +kernel
theorem r37_1 {X : sm_X} {w : sm_W} {Q : Option Value → sm_W → Prop} {x0 : Nat} {x1 : Nat} {x2 : Int32} {s0 : Nat} : sm_R X 37 1 [.ref x0, .ref x1, .int x2, sm_J, sm_J] [.ref s0] w Q ↔ sm_wp (sm_fld 2 2 (sm_at w s0)) (fun v => sm_R X 37 4 [.ref x0, .ref x1, .int x2, sm_J, sm_J] [v] w Q) := sm_q_getf d37_1 rfl (by decide)
theorem d37_4 : decode (sm_code 37) 4 = .ok (.invokevirtual 145, 3) := by decide +kernel
theorem r37_4 {X : sm_X} {w : sm_W} {Q : Option Value → sm_W → Prop} {x0 : Nat} {x1 : Nat} {x2 : Int32} {s0 : Nat} : sm_R X 37 4 [.ref x0, .ref x1, .int x2, sm_J, sm_J] [.ref s0] w Q ↔ (sm_cN (sm_at w s0) = some 4 ∧ sm_R X 38 0 [.ref s0] [] w (fun v w => sm_R X 37 7 [.ref x0, .ref x1, .int x2, sm_J, sm_J] (v.toList ++ []) w Q)) := sm_q_vir (k := 38) (as := [.ref s0]) (rest := []) d37_4 rfl rfl rfl rfl rfl
theorem d37_7 : decode (sm_code 37) 7 = .ok (.istore_n 3, 1) := by decide +kernel
theorem r37_7 {X : sm_X} {w : sm_W} {Q : Option Value → sm_W → Prop} {x0 : Nat} {x1 : Nat} {x2 : Int32} {s0 : Int32} : sm_R X 37 7 [.ref x0, .ref x1, .int x2, sm_J, sm_J] [.int s0] w Q ↔ sm_R X 37 8 [.ref x0, .ref x1, .int x2, .int s0, sm_J] [] w Q := sm_R_go d37_7 rfl
theorem d37_8 : decode (sm_code 37) 8 = .ok (.aload_n 0, 1) := by decide +kernel
theorem r37_8 {X : sm_X} {w : sm_W} {Q : Option Value → sm_W → Prop} {x0 : Nat} {x1 : Nat} {x2 : Int32} {x3 : Int32} : sm_R X 37 8 [.ref x0, .ref x1, .int x2, .int x3, sm_J] [] w Q ↔ sm_R X 37 9 [.ref x0, .ref x1, .int x2, .int x3, sm_J] [.ref x0] w Q := sm_R_go d37_8 rfl
theorem d37_9 : decode (sm_code 37) 9 = .ok (.getfield 12, 3) := by decide +kernel
theorem r37_9 {X : sm_X} {w : sm_W} {Q : Option Value → sm_W → Prop} {x0 : Nat} {x1 : Nat} {x2 : Int32} {x3 : Int32} {s0 : Nat} : sm_R X 37 9 [.ref x0, .ref x1, .int x2, .int x3, sm_J] [.ref s0] w Q ↔ sm_wp (sm_fld 2 2 (sm_at w s0)) (fun v => sm_R X 37 12 [.ref x0, .ref x1, .int x2, .int x3, sm_J] [v] w Q) := sm_q_getf d37_9 rfl (by decide)
theorem d37_12 : decode (sm_code 37) 12 = .ok (.invokevirtual 148, 3) := by decide +kernel
theorem r37_12 {X : sm_X} {w : sm_W} {Q : Option Value → sm_W → Prop} {x0 : Nat} {x1 : Nat} {x2 : Int32} {x3 : Int32} {s0 : Nat} : sm_R X 37 12 [.ref x0, .ref x1, .int x2, .int x3, sm_J] [.ref s0] w Q ↔ (sm_cN (sm_at w s0) = some 4 ∧ sm_R X 39 0 [.ref s0] [] w (fun v w => sm_R X 37 15 [.ref x0, .ref x1, .int x2, .int x3, sm_J] (v.toList ++ []) w Q)) := sm_q_vir (k := 39) (as := [.ref s0]) (rest := []) d37_12 rfl rfl rfl rfl rfl
theorem d37_15 : decode (sm_code 37) 15 = .ok (.istore 4, 2) := by decide +kernel
theorem r37_15 {X : sm_X} {w : sm_W} {Q : Option Value → sm_W → Prop} {x0 : Nat} {x1 : Nat} {x2 : Int32} {x3 : Int32} {s0 : Int32} : sm_R X 37 15 [.ref x0, .ref x1, .int x2, .int x3, sm_J] [.int s0] w Q ↔ sm_R X 37 17 [.ref x0, .ref x1, .int x2, .int x3, .int s0] [] w Q := sm_R_go d37_15 rfl
theorem d37_17 : decode (sm_code 37) 17 = .ok (.getstatic 111, 3) := by decide +kernel
theorem r37_17 {X : sm_X} {w : sm_W} {Q : Option Value → sm_W → Prop} {x0 : Nat} {x1 : Nat} {x2 : Int32} {x3 : Int32} {x4 : Int32} : sm_R X 37 17 [.ref x0, .ref x1, .int x2, .int x3, .int x4] [] w Q ↔ sm_R X 37 20 [.ref x0, .ref x1, .int x2, .int x3, .int x4] [.ref 97] w Q := sm_R_go d37_17 rfl
theorem d37_20 : decode (sm_code 37) 20 = .ok (.aload_n 1, 1) := by decide +kernel
theorem r37_20 {X : sm_X} {w : sm_W} {Q : Option Value → sm_W → Prop} {x0 : Nat} {x1 : Nat} {x2 : Int32} {x3 : Int32} {x4 : Int32} {s0 : Nat} : sm_R X 37 20 [.ref x0, .ref x1, .int x2, .int x3, .int x4] [.ref s0] w Q ↔ sm_R X 37 21 [.ref x0, .ref x1, .int x2, .int x3, .int x4] [.ref x1, .ref s0] w Q := sm_R_go d37_20 rfl
theorem d37_21 : decode (sm_code 37) 21 = .ok (.invokevirtual 116, 3) := by decide +kernel
theorem r37_21 {X : sm_X} {w : sm_W} {Q : Option Value → sm_W → Prop} {x0 : Nat} {x1 : Nat} {x2 : Int32} {x3 : Int32} {x4 : Int32} {s0 : Nat} {s1 : Nat} (h : s0 < 31) : sm_R X 37 21 [.ref x0, .ref x1, .int x2, .int x3, .int x4] [.ref s0, .ref s1] w Q ↔ sm_R X 35 0 [.ref s0] [] w (fun v w => sm_R X 37 24 [.ref x0, .ref x1, .int x2, .int x3, .int x4] (v.toList ++ [.ref s1]) w Q) := sm_q_virE (k := 35) (as := [.ref s0]) (rest := [.ref s1]) d37_21 rfl rfl rfl h rfl rfl
theorem d37_24 : decode (sm_code 37) 24 = .ok (.iaload, 1) := by decide +kernel
theorem r37_24 {X : sm_X} {w : sm_W} {Q : Option Value → sm_W → Prop} {x0 : Nat} {x1 : Nat} {x2 : Int32} {x3 : Int32} {x4 : Int32} {s0 : Int32} {s1 : Nat} : sm_R X 37 24 [.ref x0, .ref x1, .int x2, .int x3, .int x4] [.int s0, .ref s1] w Q ↔ sm_wp (sm_ai s0 (sm_get X w s1)) (fun v => sm_R X 37 25 [.ref x0, .ref x1, .int x2, .int x3, .int x4] [.int v] w Q) := sm_q_iald d37_24
theorem d37_25 : decode (sm_code 37) 25 = .ok (.tableswitch 185 9 17 #[51, 70, 92, 111, 122, 138, 159, 172, 183], 51) := by decide +kernel
theorem r37_25 {X : sm_X} {w : sm_W} {Q : Option Value → sm_W → Prop} {x0 : Nat} {x1 : Nat} {x2 : Int32} {x3 : Int32} {x4 : Int32} {s0 : Int32} : sm_R X 37 25 [.ref x0, .ref x1, .int x2, .int x3, .int x4] [.int s0] w Q ↔ sm_R X 37 (sm_sw s0.toInt 9 [76, 95, 117, 136, 147, 163, 184, 197, 208] 210) [.ref x0, .ref x1, .int x2, .int x3, .int x4] [] w Q := sm_q_tab d37_25 rfl rfl rfl rfl
theorem d37_76 : decode (sm_code 37) 76 = .ok (.aload_n 0, 1) := by decide +kernel
theorem r37_76 {X : sm_X} {w : sm_W} {Q : Option Value → sm_W → Prop} {x0 : Nat} {x1 : Nat} {x2 : Int32} {x3 : Int32} {x4 : Int32} : sm_R X 37 76 [.ref x0, .ref x1, .int x2, .int x3, .int x4] [] w Q ↔ sm_R X 37 77 [.ref x0, .ref x1, .int x2, .int x3, .int x4] [.ref x0] w Q := sm_R_go d37_76 rfl
theorem d37_77 : decode (sm_code 37) 77 = .ok (.getfield 12, 3) := by decide +kernel
theorem r37_77 {X : sm_X} {w : sm_W} {Q : Option Value → sm_W → Prop} {x0 : Nat} {x1 : Nat} {x2 : Int32} {x3 : Int32} {x4 : Int32} {s0 : Nat} : sm_R X 37 77 [.ref x0, .ref x1, .int x2, .int x3, .int x4] [.ref s0] w Q ↔ sm_wp (sm_fld 2 2 (sm_at w s0)) (fun v => sm_R X 37 80 [.ref x0, .ref x1, .int x2, .int x3, .int x4] [v] w Q) := sm_q_getf d37_77 rfl (by decide)
theorem d37_80 : decode (sm_code 37) 80 = .ok (.iconst 1, 1) := by decide +kernel
theorem r37_80 {X : sm_X} {w : sm_W} {Q : Option Value → sm_W → Prop} {x0 : Nat} {x1 : Nat} {x2 : Int32} {x3 : Int32} {x4 : Int32} {s0 : Nat} : sm_R X 37 80 [.ref x0, .ref x1, .int x2, .int x3, .int x4] [.ref s0] w Q ↔ sm_R X 37 81 [.ref x0, .ref x1, .int x2, .int x3, .int x4] [.int 1, .ref s0] w Q := sm_R_go d37_80 rfl
theorem d37_81 : decode (sm_code 37) 81 = .ok (.iload 4, 2) := by decide +kernel
theorem r37_81 {X : sm_X} {w : sm_W} {Q : Option Value → sm_W → Prop} {x0 : Nat} {x1 : Nat} {x2 : Int32} {x3 : Int32} {x4 : Int32} {s0 : Int32} {s1 : Nat} : sm_R X 37 81 [.ref x0, .ref x1, .int x2, .int x3, .int x4] [.int s0, .ref s1] w Q ↔ sm_R X 37 83 [.ref x0, .ref x1, .int x2, .int x3, .int x4] [.int x4, .int s0, .ref s1] w Q := sm_R_go d37_81 rfl
theorem d37_83 : decode (sm_code 37) 83 = .ok (.ifCond .ne 7, 3) := by decide +kernel
theorem r37_83 {X : sm_X} {w : sm_W} {Q : Option Value → sm_W → Prop} {x0 : Nat} {x1 : Nat} {x2 : Int32} {x3 : Int32} {x4 : Int32} {s0 : Int32} {s1 : Int32} {s2 : Nat} : sm_R X 37 83 [.ref x0, .ref x1, .int x2, .int x3, .int x4] [.int s0, .int s1, .ref s2] w Q ↔ (if s0 = 0 then sm_R X 37 86 [.ref x0, .ref x1, .int x2, .int x3, .int x4] [.int s1, .ref s2] w Q else sm_R X 37 90 [.ref x0, .ref x1, .int x2, .int x3, .int x4] [.int s1, .ref s2] w Q) := sm_q_br d37_83 rfl
theorem d37_86 : decode (sm_code 37) 86 = .ok (.iconst 1, 1) := by decide +kernel
theorem r37_86 {X : sm_X} {w : sm_W} {Q : Option Value → sm_W → Prop} {x0 : Nat} {x1 : Nat} {x2 : Int32} {x3 : Int32} {x4 : Int32} {s0 : Int32} {s1 : Nat} : sm_R X 37 86 [.ref x0, .ref x1, .int x2, .int x3, .int x4] [.int s0, .ref s1] w Q ↔ sm_R X 37 87 [.ref x0, .ref x1, .int x2, .int x3, .int x4] [.int 1, .int s0, .ref s1] w Q := sm_R_go d37_86 rfl
theorem d37_87 : decode (sm_code 37) 87 = .ok (.goto 4, 3) := by decide +kernel
theorem r37_87 {X : sm_X} {w : sm_W} {Q : Option Value → sm_W → Prop} {x0 : Nat} {x1 : Nat} {x2 : Int32} {x3 : Int32} {x4 : Int32} {s0 : Int32} {s1 : Int32} {s2 : Nat} : sm_R X 37 87 [.ref x0, .ref x1, .int x2, .int x3, .int x4] [.int s0, .int s1, .ref s2] w Q ↔ sm_R X 37 91 [.ref x0, .ref x1, .int x2, .int x3, .int x4] [.int s0, .int s1, .ref s2] w Q := sm_R_go d37_87 rfl
theorem d37_90 : decode (sm_code 37) 90 = .ok (.iconst 0, 1) := by decide +kernel
theorem r37_90 {X : sm_X} {w : sm_W} {Q : Option Value → sm_W → Prop} {x0 : Nat} {x1 : Nat} {x2 : Int32} {x3 : Int32} {x4 : Int32} {s0 : Int32} {s1 : Nat} : sm_R X 37 90 [.ref x0, .ref x1, .int x2, .int x3, .int x4] [.int s0, .ref s1] w Q ↔ sm_R X 37 91 [.ref x0, .ref x1, .int x2, .int x3, .int x4] [.int 0, .int s0, .ref s1] w Q := sm_R_go d37_90 rfl
theorem d37_91 : decode (sm_code 37) 91 = .ok (.invokevirtual 119, 3) := by decide +kernel
theorem r37_91 {X : sm_X} {w : sm_W} {Q : Option Value → sm_W → Prop} {x0 : Nat} {x1 : Nat} {x2 : Int32} {x3 : Int32} {x4 : Int32} {s0 : Int32} {s1 : Int32} {s2 : Nat} : sm_R X 37 91 [.ref x0, .ref x1, .int x2, .int x3, .int x4] [.int s0, .int s1, .ref s2] w Q ↔ (sm_cN (sm_at w s2) = some 4 ∧ sm_R X 36 0 [.ref s2, .int s1, .int s0] [] w (fun v w => sm_R X 37 94 [.ref x0, .ref x1, .int x2, .int x3, .int x4] (v.toList ++ []) w Q)) := sm_q_vir (k := 36) (as := [.ref s2, .int s1, .int s0]) (rest := []) d37_91 rfl rfl rfl rfl rfl
theorem d37_94 : decode (sm_code 37) 94 = .ok (.ireturn, 1) := by decide +kernel
theorem r37_94 {X : sm_X} {w : sm_W} {Q : Option Value → sm_W → Prop} {x0 : Nat} {x1 : Nat} {x2 : Int32} {x3 : Int32} {x4 : Int32} {s0 : Int32} : sm_R X 37 94 [.ref x0, .ref x1, .int x2, .int x3, .int x4] [.int s0] w Q ↔ Q (some (.int s0)) w := sm_q_iret d37_94 rfl
theorem d37_95 : decode (sm_code 37) 95 = .ok (.aload_n 0, 1) := by decide +kernel
theorem r37_95 {X : sm_X} {w : sm_W} {Q : Option Value → sm_W → Prop} {x0 : Nat} {x1 : Nat} {x2 : Int32} {x3 : Int32} {x4 : Int32} : sm_R X 37 95 [.ref x0, .ref x1, .int x2, .int x3, .int x4] [] w Q ↔ sm_R X 37 96 [.ref x0, .ref x1, .int x2, .int x3, .int x4] [.ref x0] w Q := sm_R_go d37_95 rfl
theorem d37_96 : decode (sm_code 37) 96 = .ok (.getfield 12, 3) := by decide +kernel
theorem r37_96 {X : sm_X} {w : sm_W} {Q : Option Value → sm_W → Prop} {x0 : Nat} {x1 : Nat} {x2 : Int32} {x3 : Int32} {x4 : Int32} {s0 : Nat} : sm_R X 37 96 [.ref x0, .ref x1, .int x2, .int x3, .int x4] [.ref s0] w Q ↔ sm_wp (sm_fld 2 2 (sm_at w s0)) (fun v => sm_R X 37 99 [.ref x0, .ref x1, .int x2, .int x3, .int x4] [v] w Q) := sm_q_getf d37_96 rfl (by decide)
theorem d37_99 : decode (sm_code 37) 99 = .ok (.iload_n 3, 1) := by decide +kernel
theorem r37_99 {X : sm_X} {w : sm_W} {Q : Option Value → sm_W → Prop} {x0 : Nat} {x1 : Nat} {x2 : Int32} {x3 : Int32} {x4 : Int32} {s0 : Nat} : sm_R X 37 99 [.ref x0, .ref x1, .int x2, .int x3, .int x4] [.ref s0] w Q ↔ sm_R X 37 100 [.ref x0, .ref x1, .int x2, .int x3, .int x4] [.int x3, .ref s0] w Q := sm_R_go d37_99 rfl
theorem d37_100 : decode (sm_code 37) 100 = .ok (.iload 4, 2) := by decide +kernel
theorem r37_100 {X : sm_X} {w : sm_W} {Q : Option Value → sm_W → Prop} {x0 : Nat} {x1 : Nat} {x2 : Int32} {x3 : Int32} {x4 : Int32} {s0 : Int32} {s1 : Nat} : sm_R X 37 100 [.ref x0, .ref x1, .int x2, .int x3, .int x4] [.int s0, .ref s1] w Q ↔ sm_R X 37 102 [.ref x0, .ref x1, .int x2, .int x3, .int x4] [.int x4, .int s0, .ref s1] w Q := sm_R_go d37_100 rfl
theorem d37_102 : decode (sm_code 37) 102 = .ok (.invokevirtual 119, 3) := by decide +kernel
theorem r37_102 {X : sm_X} {w : sm_W} {Q : Option Value → sm_W → Prop} {x0 : Nat} {x1 : Nat} {x2 : Int32} {x3 : Int32} {x4 : Int32} {s0 : Int32} {s1 : Int32} {s2 : Nat} : sm_R X 37 102 [.ref x0, .ref x1, .int x2, .int x3, .int x4] [.int s0, .int s1, .ref s2] w Q ↔ (sm_cN (sm_at w s2) = some 4 ∧ sm_R X 36 0 [.ref s2, .int s1, .int s0] [] w (fun v w => sm_R X 37 105 [.ref x0, .ref x1, .int x2, .int x3, .int x4] (v.toList ++ []) w Q)) := sm_q_vir (k := 36) (as := [.ref s2, .int s1, .int s0]) (rest := []) d37_102 rfl rfl rfl rfl rfl
theorem d37_105 : decode (sm_code 37) 105 = .ok (.pop, 1) := by decide +kernel
theorem r37_105 {X : sm_X} {w : sm_W} {Q : Option Value → sm_W → Prop} {x0 : Nat} {x1 : Nat} {x2 : Int32} {x3 : Int32} {x4 : Int32} {s0 : Int32} : sm_R X 37 105 [.ref x0, .ref x1, .int x2, .int x3, .int x4] [.int s0] w Q ↔ sm_R X 37 106 [.ref x0, .ref x1, .int x2, .int x3, .int x4] [] w Q := sm_R_go d37_105 rfl
theorem d37_106 : decode (sm_code 37) 106 = .ok (.aload_n 0, 1) := by decide +kernel
theorem r37_106 {X : sm_X} {w : sm_W} {Q : Option Value → sm_W → Prop} {x0 : Nat} {x1 : Nat} {x2 : Int32} {x3 : Int32} {x4 : Int32} : sm_R X 37 106 [.ref x0, .ref x1, .int x2, .int x3, .int x4] [] w Q ↔ sm_R X 37 107 [.ref x0, .ref x1, .int x2, .int x3, .int x4] [.ref x0] w Q := sm_R_go d37_106 rfl
theorem d37_107 : decode (sm_code 37) 107 = .ok (.getfield 12, 3) := by decide +kernel
theorem r37_107 {X : sm_X} {w : sm_W} {Q : Option Value → sm_W → Prop} {x0 : Nat} {x1 : Nat} {x2 : Int32} {x3 : Int32} {x4 : Int32} {s0 : Nat} : sm_R X 37 107 [.ref x0, .ref x1, .int x2, .int x3, .int x4] [.ref s0] w Q ↔ sm_wp (sm_fld 2 2 (sm_at w s0)) (fun v => sm_R X 37 110 [.ref x0, .ref x1, .int x2, .int x3, .int x4] [v] w Q) := sm_q_getf d37_107 rfl (by decide)
theorem d37_110 : decode (sm_code 37) 110 = .ok (.iload_n 3, 1) := by decide +kernel
theorem r37_110 {X : sm_X} {w : sm_W} {Q : Option Value → sm_W → Prop} {x0 : Nat} {x1 : Nat} {x2 : Int32} {x3 : Int32} {x4 : Int32} {s0 : Nat} : sm_R X 37 110 [.ref x0, .ref x1, .int x2, .int x3, .int x4] [.ref s0] w Q ↔ sm_R X 37 111 [.ref x0, .ref x1, .int x2, .int x3, .int x4] [.int x3, .ref s0] w Q := sm_R_go d37_110 rfl
theorem d37_111 : decode (sm_code 37) 111 = .ok (.iload 4, 2) := by decide +kernel
theorem r37_111 {X : sm_X} {w : sm_W} {Q : Option Value → sm_W → Prop} {x0 : Nat} {x1 : Nat} {x2 : Int32} {x3 : Int32} {x4 : Int32} {s0 : Int32} {s1 : Nat} : sm_R X 37 111 [.ref x0, .ref x1, .int x2, .int x3, .int x4] [.int s0, .ref s1] w Q ↔ sm_R X 37 113 [.ref x0, .ref x1, .int x2, .int x3, .int x4] [.int x4, .int s0, .ref s1] w Q := sm_R_go d37_111 rfl
theorem d37_113 : decode (sm_code 37) 113 = .ok (.invokevirtual 119, 3) := by decide +kernel
theorem r37_113 {X : sm_X} {w : sm_W} {Q : Option Value → sm_W → Prop} {x0 : Nat} {x1 : Nat} {x2 : Int32} {x3 : Int32} {x4 : Int32} {s0 : Int32} {s1 : Int32} {s2 : Nat} : sm_R X 37 113 [.ref x0, .ref x1, .int x2, .int x3, .int x4] [.int s0, .int s1, .ref s2] w Q ↔ (sm_cN (sm_at w s2) = some 4 ∧ sm_R X 36 0 [.ref s2, .int s1, .int s0] [] w (fun v w => sm_R X 37 116 [.ref x0, .ref x1, .int x2, .int x3, .int x4] (v.toList ++ []) w Q)) := sm_q_vir (k := 36) (as := [.ref s2, .int s1, .int s0]) (rest := []) d37_113 rfl rfl rfl rfl rfl
theorem d37_116 : decode (sm_code 37) 116 = .ok (.ireturn, 1) := by decide +kernel
theorem r37_116 {X : sm_X} {w : sm_W} {Q : Option Value → sm_W → Prop} {x0 : Nat} {x1 : Nat} {x2 : Int32} {x3 : Int32} {x4 : Int32} {s0 : Int32} : sm_R X 37 116 [.ref x0, .ref x1, .int x2, .int x3, .int x4] [.int s0] w Q ↔ Q (some (.int s0)) w := sm_q_iret d37_116 rfl
theorem d37_117 : decode (sm_code 37) 117 = .ok (.aload_n 0, 1) := by decide +kernel
theorem r37_117 {X : sm_X} {w : sm_W} {Q : Option Value → sm_W → Prop} {x0 : Nat} {x1 : Nat} {x2 : Int32} {x3 : Int32} {x4 : Int32} : sm_R X 37 117 [.ref x0, .ref x1, .int x2, .int x3, .int x4] [] w Q ↔ sm_R X 37 118 [.ref x0, .ref x1, .int x2, .int x3, .int x4] [.ref x0] w Q := sm_R_go d37_117 rfl
theorem d37_118 : decode (sm_code 37) 118 = .ok (.iload 4, 2) := by decide +kernel
theorem r37_118 {X : sm_X} {w : sm_W} {Q : Option Value → sm_W → Prop} {x0 : Nat} {x1 : Nat} {x2 : Int32} {x3 : Int32} {x4 : Int32} {s0 : Nat} : sm_R X 37 118 [.ref x0, .ref x1, .int x2, .int x3, .int x4] [.ref s0] w Q ↔ sm_R X 37 120 [.ref x0, .ref x1, .int x2, .int x3, .int x4] [.int x4, .ref s0] w Q := sm_R_go d37_118 rfl
theorem d37_120 : decode (sm_code 37) 120 = .ok (.ifCond .ne 10, 3) := by decide +kernel
theorem r37_120 {X : sm_X} {w : sm_W} {Q : Option Value → sm_W → Prop} {x0 : Nat} {x1 : Nat} {x2 : Int32} {x3 : Int32} {x4 : Int32} {s0 : Int32} {s1 : Nat} : sm_R X 37 120 [.ref x0, .ref x1, .int x2, .int x3, .int x4] [.int s0, .ref s1] w Q ↔ (if s0 = 0 then sm_R X 37 123 [.ref x0, .ref x1, .int x2, .int x3, .int x4] [.ref s1] w Q else sm_R X 37 130 [.ref x0, .ref x1, .int x2, .int x3, .int x4] [.ref s1] w Q) := sm_q_br d37_120 rfl
theorem d37_123 : decode (sm_code 37) 123 = .ok (.aload_n 0, 1) := by decide +kernel
theorem r37_123 {X : sm_X} {w : sm_W} {Q : Option Value → sm_W → Prop} {x0 : Nat} {x1 : Nat} {x2 : Int32} {x3 : Int32} {x4 : Int32} {s0 : Nat} : sm_R X 37 123 [.ref x0, .ref x1, .int x2, .int x3, .int x4] [.ref s0] w Q ↔ sm_R X 37 124 [.ref x0, .ref x1, .int x2, .int x3, .int x4] [.ref x0, .ref s0] w Q := sm_R_go d37_123 rfl
theorem d37_124 : decode (sm_code 37) 124 = .ok (.getfield 61, 3) := by decide +kernel
theorem r37_124 {X : sm_X} {w : sm_W} {Q : Option Value → sm_W → Prop} {x0 : Nat} {x1 : Nat} {x2 : Int32} {x3 : Int32} {x4 : Int32} {s0 : Nat} {s1 : Nat} : sm_R X 37 124 [.ref x0, .ref x1, .int x2, .int x3, .int x4] [.ref s0, .ref s1] w Q ↔ sm_wp (sm_fld 2 9 (sm_at w s0)) (fun v => sm_R X 37 127 [.ref x0, .ref x1, .int x2, .int x3, .int x4] [v, .ref s1] w Q) := sm_q_getf d37_124 rfl (by decide)
theorem d37_127 : decode (sm_code 37) 127 = .ok (.goto 4, 3) := by decide +kernel
theorem r37_127 {X : sm_X} {w : sm_W} {Q : Option Value → sm_W → Prop} {x0 : Nat} {x1 : Nat} {x2 : Int32} {x3 : Int32} {x4 : Int32} {s0 : Int32} {s1 : Nat} : sm_R X 37 127 [.ref x0, .ref x1, .int x2, .int x3, .int x4] [.int s0, .ref s1] w Q ↔ sm_R X 37 131 [.ref x0, .ref x1, .int x2, .int x3, .int x4] [.int s0, .ref s1] w Q := sm_R_go d37_127 rfl
theorem d37_130 : decode (sm_code 37) 130 = .ok (.iload_n 2, 1) := by decide +kernel
theorem r37_130 {X : sm_X} {w : sm_W} {Q : Option Value → sm_W → Prop} {x0 : Nat} {x1 : Nat} {x2 : Int32} {x3 : Int32} {x4 : Int32} {s0 : Nat} : sm_R X 37 130 [.ref x0, .ref x1, .int x2, .int x3, .int x4] [.ref s0] w Q ↔ sm_R X 37 131 [.ref x0, .ref x1, .int x2, .int x3, .int x4] [.int x2, .ref s0] w Q := sm_R_go d37_130 rfl
theorem d37_131 : decode (sm_code 37) 131 = .ok (.putfield 61, 3) := by decide +kernel
theorem r37_131 {X : sm_X} {w : sm_W} {Q : Option Value → sm_W → Prop} {x0 : Nat} {x1 : Nat} {x2 : Int32} {x3 : Int32} {x4 : Int32} {s0 : Int32} {s1 : Nat} : sm_R X 37 131 [.ref x0, .ref x1, .int x2, .int x3, .int x4] [.int s0, .ref s1] w Q ↔ sm_wp (sm_pfl 2 9 (.int s0) (sm_at w s1)) (fun c => sm_R X 37 134 [.ref x0, .ref x1, .int x2, .int x3, .int x4] [] (w.set (s1 - 100) c) Q) := sm_q_putf d37_131 rfl rfl rfl (by decide)
theorem d37_134 : decode (sm_code 37) 134 = .ok (.iconst 0, 1) := by decide +kernel
theorem r37_134 {X : sm_X} {w : sm_W} {Q : Option Value → sm_W → Prop} {x0 : Nat} {x1 : Nat} {x2 : Int32} {x3 : Int32} {x4 : Int32} : sm_R X 37 134 [.ref x0, .ref x1, .int x2, .int x3, .int x4] [] w Q ↔ sm_R X 37 135 [.ref x0, .ref x1, .int x2, .int x3, .int x4] [.int 0] w Q := sm_R_go d37_134 rfl
theorem d37_135 : decode (sm_code 37) 135 = .ok (.ireturn, 1) := by decide +kernel
theorem r37_135 {X : sm_X} {w : sm_W} {Q : Option Value → sm_W → Prop} {x0 : Nat} {x1 : Nat} {x2 : Int32} {x3 : Int32} {x4 : Int32} {s0 : Int32} : sm_R X 37 135 [.ref x0, .ref x1, .int x2, .int x3, .int x4] [.int s0] w Q ↔ Q (some (.int s0)) w := sm_q_iret d37_135 rfl
theorem d37_136 : decode (sm_code 37) 136 = .ok (.iload 4, 2) := by decide +kernel
theorem r37_136 {X : sm_X} {w : sm_W} {Q : Option Value → sm_W → Prop} {x0 : Nat} {x1 : Nat} {x2 : Int32} {x3 : Int32} {x4 : Int32} : sm_R X 37 136 [.ref x0, .ref x1, .int x2, .int x3, .int x4] [] w Q ↔ sm_R X 37 138 [.ref x0, .ref x1, .int x2, .int x3, .int x4] [.int x4] w Q := sm_R_go d37_136 rfl
theorem d37_138 : decode (sm_code 37) 138 = .ok (.ifCond .ne 7, 3) := by decide +kernel
theorem r37_138 {X : sm_X} {w : sm_W} {Q : Option Value → sm_W → Prop} {x0 : Nat} {x1 : Nat} {x2 : Int32} {x3 : Int32} {x4 : Int32} {s0 : Int32} : sm_R X 37 138 [.ref x0, .ref x1, .int x2, .int x3, .int x4] [.int s0] w Q ↔ (if s0 = 0 then sm_R X 37 141 [.ref x0, .ref x1, .int x2, .int x3, .int x4] [] w Q else sm_R X 37 145 [.ref x0, .ref x1, .int x2, .int x3, .int x4] [] w Q) := sm_q_br d37_138 rfl
theorem d37_141 : decode (sm_code 37) 141 = .ok (.iconst 3, 1) := by decide +kernel
theorem r37_141 {X : sm_X} {w : sm_W} {Q : Option Value → sm_W → Prop} {x0 : Nat} {x1 : Nat} {x2 : Int32} {x3 : Int32} {x4 : Int32} : sm_R X 37 141 [.ref x0, .ref x1, .int x2, .int x3, .int x4] [] w Q ↔ sm_R X 37 142 [.ref x0, .ref x1, .int x2, .int x3, .int x4] [.int 3] w Q := sm_R_go d37_141 rfl
theorem d37_142 : decode (sm_code 37) 142 = .ok (.goto 4, 3) := by decide +kernel
theorem r37_142 {X : sm_X} {w : sm_W} {Q : Option Value → sm_W → Prop} {x0 : Nat} {x1 : Nat} {x2 : Int32} {x3 : Int32} {x4 : Int32} {s0 : Int32} : sm_R X 37 142 [.ref x0, .ref x1, .int x2, .int x3, .int x4] [.int s0] w Q ↔ sm_R X 37 146 [.ref x0, .ref x1, .int x2, .int x3, .int x4] [.int s0] w Q := sm_R_go d37_142 rfl
theorem d37_145 : decode (sm_code 37) 145 = .ok (.iconst 0, 1) := by decide +kernel
theorem r37_145 {X : sm_X} {w : sm_W} {Q : Option Value → sm_W → Prop} {x0 : Nat} {x1 : Nat} {x2 : Int32} {x3 : Int32} {x4 : Int32} : sm_R X 37 145 [.ref x0, .ref x1, .int x2, .int x3, .int x4] [] w Q ↔ sm_R X 37 146 [.ref x0, .ref x1, .int x2, .int x3, .int x4] [.int 0] w Q := sm_R_go d37_145 rfl
theorem d37_146 : decode (sm_code 37) 146 = .ok (.ireturn, 1) := by decide +kernel
theorem r37_146 {X : sm_X} {w : sm_W} {Q : Option Value → sm_W → Prop} {x0 : Nat} {x1 : Nat} {x2 : Int32} {x3 : Int32} {x4 : Int32} {s0 : Int32} : sm_R X 37 146 [.ref x0, .ref x1, .int x2, .int x3, .int x4] [.int s0] w Q ↔ Q (some (.int s0)) w := sm_q_iret d37_146 rfl
theorem d37_147 : decode (sm_code 37) 147 = .ok (.aload_n 0, 1) := by decide +kernel
theorem r37_147 {X : sm_X} {w : sm_W} {Q : Option Value → sm_W → Prop} {x0 : Nat} {x1 : Nat} {x2 : Int32} {x3 : Int32} {x4 : Int32} : sm_R X 37 147 [.ref x0, .ref x1, .int x2, .int x3, .int x4] [] w Q ↔ sm_R X 37 148 [.ref x0, .ref x1, .int x2, .int x3, .int x4] [.ref x0] w Q := sm_R_go d37_147 rfl
theorem d37_148 : decode (sm_code 37) 148 = .ok (.iconst 1, 1) := by decide +kernel
theorem r37_148 {X : sm_X} {w : sm_W} {Q : Option Value → sm_W → Prop} {x0 : Nat} {x1 : Nat} {x2 : Int32} {x3 : Int32} {x4 : Int32} {s0 : Nat} : sm_R X 37 148 [.ref x0, .ref x1, .int x2, .int x3, .int x4] [.ref s0] w Q ↔ sm_R X 37 149 [.ref x0, .ref x1, .int x2, .int x3, .int x4] [.int 1, .ref s0] w Q := sm_R_go d37_148 rfl
theorem d37_149 : decode (sm_code 37) 149 = .ok (.putfield 64, 3) := by decide +kernel
theorem r37_149 {X : sm_X} {w : sm_W} {Q : Option Value → sm_W → Prop} {x0 : Nat} {x1 : Nat} {x2 : Int32} {x3 : Int32} {x4 : Int32} {s0 : Int32} {s1 : Nat} (h : s0 = 0 ∨ s0 = 1) : sm_R X 37 149 [.ref x0, .ref x1, .int x2, .int x3, .int x4] [.int s0, .ref s1] w Q ↔ sm_wp (sm_pfl 2 10 (.int s0) (sm_at w s1)) (fun c => sm_R X 37 152 [.ref x0, .ref x1, .int x2, .int x3, .int x4] [] (w.set (s1 - 100) c) Q) := sm_q_putf d37_149 rfl (sm_bn h) (sm_bf h) (by decide)
theorem d37_152 : decode (sm_code 37) 152 = .ok (.iload 4, 2) := by decide +kernel
theorem r37_152 {X : sm_X} {w : sm_W} {Q : Option Value → sm_W → Prop} {x0 : Nat} {x1 : Nat} {x2 : Int32} {x3 : Int32} {x4 : Int32} : sm_R X 37 152 [.ref x0, .ref x1, .int x2, .int x3, .int x4] [] w Q ↔ sm_R X 37 154 [.ref x0, .ref x1, .int x2, .int x3, .int x4] [.int x4] w Q := sm_R_go d37_152 rfl
theorem d37_154 : decode (sm_code 37) 154 = .ok (.ifCond .ne 7, 3) := by decide +kernel
theorem r37_154 {X : sm_X} {w : sm_W} {Q : Option Value → sm_W → Prop} {x0 : Nat} {x1 : Nat} {x2 : Int32} {x3 : Int32} {x4 : Int32} {s0 : Int32} : sm_R X 37 154 [.ref x0, .ref x1, .int x2, .int x3, .int x4] [.int s0] w Q ↔ (if s0 = 0 then sm_R X 37 157 [.ref x0, .ref x1, .int x2, .int x3, .int x4] [] w Q else sm_R X 37 161 [.ref x0, .ref x1, .int x2, .int x3, .int x4] [] w Q) := sm_q_br d37_154 rfl
theorem d37_157 : decode (sm_code 37) 157 = .ok (.iconst 3, 1) := by decide +kernel
theorem r37_157 {X : sm_X} {w : sm_W} {Q : Option Value → sm_W → Prop} {x0 : Nat} {x1 : Nat} {x2 : Int32} {x3 : Int32} {x4 : Int32} : sm_R X 37 157 [.ref x0, .ref x1, .int x2, .int x3, .int x4] [] w Q ↔ sm_R X 37 158 [.ref x0, .ref x1, .int x2, .int x3, .int x4] [.int 3] w Q := sm_R_go d37_157 rfl
theorem d37_158 : decode (sm_code 37) 158 = .ok (.goto 4, 3) := by decide +kernel
theorem r37_158 {X : sm_X} {w : sm_W} {Q : Option Value → sm_W → Prop} {x0 : Nat} {x1 : Nat} {x2 : Int32} {x3 : Int32} {x4 : Int32} {s0 : Int32} : sm_R X 37 158 [.ref x0, .ref x1, .int x2, .int x3, .int x4] [.int s0] w Q ↔ sm_R X 37 162 [.ref x0, .ref x1, .int x2, .int x3, .int x4] [.int s0] w Q := sm_R_go d37_158 rfl
theorem d37_161 : decode (sm_code 37) 161 = .ok (.iconst 0, 1) := by decide +kernel
theorem r37_161 {X : sm_X} {w : sm_W} {Q : Option Value → sm_W → Prop} {x0 : Nat} {x1 : Nat} {x2 : Int32} {x3 : Int32} {x4 : Int32} : sm_R X 37 161 [.ref x0, .ref x1, .int x2, .int x3, .int x4] [] w Q ↔ sm_R X 37 162 [.ref x0, .ref x1, .int x2, .int x3, .int x4] [.int 0] w Q := sm_R_go d37_161 rfl
theorem d37_162 : decode (sm_code 37) 162 = .ok (.ireturn, 1) := by decide +kernel
theorem r37_162 {X : sm_X} {w : sm_W} {Q : Option Value → sm_W → Prop} {x0 : Nat} {x1 : Nat} {x2 : Int32} {x3 : Int32} {x4 : Int32} {s0 : Int32} : sm_R X 37 162 [.ref x0, .ref x1, .int x2, .int x3, .int x4] [.int s0] w Q ↔ Q (some (.int s0)) w := sm_q_iret d37_162 rfl
theorem d37_163 : decode (sm_code 37) 163 = .ok (.aload_n 0, 1) := by decide +kernel
theorem r37_163 {X : sm_X} {w : sm_W} {Q : Option Value → sm_W → Prop} {x0 : Nat} {x1 : Nat} {x2 : Int32} {x3 : Int32} {x4 : Int32} : sm_R X 37 163 [.ref x0, .ref x1, .int x2, .int x3, .int x4] [] w Q ↔ sm_R X 37 164 [.ref x0, .ref x1, .int x2, .int x3, .int x4] [.ref x0] w Q := sm_R_go d37_163 rfl
theorem d37_164 : decode (sm_code 37) 164 = .ok (.getfield 22, 3) := by decide +kernel
theorem r37_164 {X : sm_X} {w : sm_W} {Q : Option Value → sm_W → Prop} {x0 : Nat} {x1 : Nat} {x2 : Int32} {x3 : Int32} {x4 : Int32} {s0 : Nat} : sm_R X 37 164 [.ref x0, .ref x1, .int x2, .int x3, .int x4] [.ref s0] w Q ↔ sm_wp (sm_fld 2 0 (sm_at w s0)) (fun v => sm_R X 37 167 [.ref x0, .ref x1, .int x2, .int x3, .int x4] [v] w Q) := sm_q_getf d37_164 rfl (by decide)
theorem d37_167 : decode (sm_code 37) 167 = .ok (.getfield 133, 3) := by decide +kernel
theorem r37_167 {X : sm_X} {w : sm_W} {Q : Option Value → sm_W → Prop} {x0 : Nat} {x1 : Nat} {x2 : Int32} {x3 : Int32} {x4 : Int32} {s0 : Nat} : sm_R X 37 167 [.ref x0, .ref x1, .int x2, .int x3, .int x4] [.ref s0] w Q ↔ sm_wp (sm_fld 0 1 (sm_at w s0)) (fun v => sm_R X 37 170 [.ref x0, .ref x1, .int x2, .int x3, .int x4] [v] w Q) := sm_q_getf d37_167 rfl (by decide)
theorem d37_170 : decode (sm_code 37) 170 = .ok (.aload_n 0, 1) := by decide +kernel
theorem r37_170 {X : sm_X} {w : sm_W} {Q : Option Value → sm_W → Prop} {x0 : Nat} {x1 : Nat} {x2 : Int32} {x3 : Int32} {x4 : Int32} {s0 : Nat} : sm_R X 37 170 [.ref x0, .ref x1, .int x2, .int x3, .int x4] [.ref s0] w Q ↔ sm_R X 37 171 [.ref x0, .ref x1, .int x2, .int x3, .int x4] [.ref x0, .ref s0] w Q := sm_R_go d37_170 rfl
theorem d37_171 : decode (sm_code 37) 171 = .ok (.getfield 36, 3) := by decide +kernel
theorem r37_171 {X : sm_X} {w : sm_W} {Q : Option Value → sm_W → Prop} {x0 : Nat} {x1 : Nat} {x2 : Int32} {x3 : Int32} {x4 : Int32} {s0 : Nat} {s1 : Nat} : sm_R X 37 171 [.ref x0, .ref x1, .int x2, .int x3, .int x4] [.ref s0, .ref s1] w Q ↔ sm_wp (sm_fld 2 7 (sm_at w s0)) (fun v => sm_R X 37 174 [.ref x0, .ref x1, .int x2, .int x3, .int x4] [v, .ref s1] w Q) := sm_q_getf d37_171 rfl (by decide)
theorem d37_174 : decode (sm_code 37) 174 = .ok (.getfield 139, 3) := by decide +kernel
theorem r37_174 {X : sm_X} {w : sm_W} {Q : Option Value → sm_W → Prop} {x0 : Nat} {x1 : Nat} {x2 : Int32} {x3 : Int32} {x4 : Int32} {s0 : Nat} {s1 : Nat} : sm_R X 37 174 [.ref x0, .ref x1, .int x2, .int x3, .int x4] [.ref s0, .ref s1] w Q ↔ sm_wp (sm_fld 5 4 (sm_at w s0)) (fun v => sm_R X 37 177 [.ref x0, .ref x1, .int x2, .int x3, .int x4] [v, .ref s1] w Q) := sm_q_getf d37_174 rfl (by decide)
theorem d37_177 : decode (sm_code 37) 177 = .ok (.aaload, 1) := by decide +kernel
theorem r37_177 {X : sm_X} {w : sm_W} {Q : Option Value → sm_W → Prop} {x0 : Nat} {x1 : Nat} {x2 : Int32} {x3 : Int32} {x4 : Int32} {s0 : Int32} {s1 : Nat} : sm_R X 37 177 [.ref x0, .ref x1, .int x2, .int x3, .int x4] [.int s0, .ref s1] w Q ↔ sm_wp (sm_aa s1 s0 (sm_get X w s1)) (fun v => sm_R X 37 178 [.ref x0, .ref x1, .int x2, .int x3, .int x4] [.ref v] w Q) := sm_q_aald d37_177
theorem d37_178 : decode (sm_code 37) 178 = .ok (.iload_n 2, 1) := by decide +kernel
theorem r37_178 {X : sm_X} {w : sm_W} {Q : Option Value → sm_W → Prop} {x0 : Nat} {x1 : Nat} {x2 : Int32} {x3 : Int32} {x4 : Int32} {s0 : Nat} : sm_R X 37 178 [.ref x0, .ref x1, .int x2, .int x3, .int x4] [.ref s0] w Q ↔ sm_R X 37 179 [.ref x0, .ref x1, .int x2, .int x3, .int x4] [.int x2, .ref s0] w Q := sm_R_go d37_178 rfl
theorem d37_179 : decode (sm_code 37) 179 = .ok (.iload 4, 2) := by decide +kernel
theorem r37_179 {X : sm_X} {w : sm_W} {Q : Option Value → sm_W → Prop} {x0 : Nat} {x1 : Nat} {x2 : Int32} {x3 : Int32} {x4 : Int32} {s0 : Int32} {s1 : Nat} : sm_R X 37 179 [.ref x0, .ref x1, .int x2, .int x3, .int x4] [.int s0, .ref s1] w Q ↔ sm_R X 37 181 [.ref x0, .ref x1, .int x2, .int x3, .int x4] [.int x4, .int s0, .ref s1] w Q := sm_R_go d37_179 rfl
theorem d37_181 : decode (sm_code 37) 181 = .ok (.iastore, 1) := by decide +kernel
theorem r37_181 {X : sm_X} {w : sm_W} {Q : Option Value → sm_W → Prop} {x0 : Nat} {x1 : Nat} {x2 : Int32} {x3 : Int32} {x4 : Int32} {s0 : Int32} {s1 : Int32} {s2 : Nat} : sm_R X 37 181 [.ref x0, .ref x1, .int x2, .int x3, .int x4] [.int s0, .int s1, .ref s2] w Q ↔ sm_wp (sm_si s1 s0 (sm_at w s2)) (fun c => sm_R X 37 182 [.ref x0, .ref x1, .int x2, .int x3, .int x4] [] (w.set (s2 - 100) c) Q) := sm_q_iast d37_181
theorem d37_182 : decode (sm_code 37) 182 = .ok (.iconst 0, 1) := by decide +kernel
theorem r37_182 {X : sm_X} {w : sm_W} {Q : Option Value → sm_W → Prop} {x0 : Nat} {x1 : Nat} {x2 : Int32} {x3 : Int32} {x4 : Int32} : sm_R X 37 182 [.ref x0, .ref x1, .int x2, .int x3, .int x4] [] w Q ↔ sm_R X 37 183 [.ref x0, .ref x1, .int x2, .int x3, .int x4] [.int 0] w Q := sm_R_go d37_182 rfl
theorem d37_183 : decode (sm_code 37) 183 = .ok (.ireturn, 1) := by decide +kernel
theorem r37_183 {X : sm_X} {w : sm_W} {Q : Option Value → sm_W → Prop} {x0 : Nat} {x1 : Nat} {x2 : Int32} {x3 : Int32} {x4 : Int32} {s0 : Int32} : sm_R X 37 183 [.ref x0, .ref x1, .int x2, .int x3, .int x4] [.int s0] w Q ↔ Q (some (.int s0)) w := sm_q_iret d37_183 rfl
theorem d37_184 : decode (sm_code 37) 184 = .ok (.aload_n 0, 1) := by decide +kernel
theorem r37_184 {X : sm_X} {w : sm_W} {Q : Option Value → sm_W → Prop} {x0 : Nat} {x1 : Nat} {x2 : Int32} {x3 : Int32} {x4 : Int32} : sm_R X 37 184 [.ref x0, .ref x1, .int x2, .int x3, .int x4] [] w Q ↔ sm_R X 37 185 [.ref x0, .ref x1, .int x2, .int x3, .int x4] [.ref x0] w Q := sm_R_go d37_184 rfl
theorem d37_185 : decode (sm_code 37) 185 = .ok (.getfield 36, 3) := by decide +kernel
theorem r37_185 {X : sm_X} {w : sm_W} {Q : Option Value → sm_W → Prop} {x0 : Nat} {x1 : Nat} {x2 : Int32} {x3 : Int32} {x4 : Int32} {s0 : Nat} : sm_R X 37 185 [.ref x0, .ref x1, .int x2, .int x3, .int x4] [.ref s0] w Q ↔ sm_wp (sm_fld 2 7 (sm_at w s0)) (fun v => sm_R X 37 188 [.ref x0, .ref x1, .int x2, .int x3, .int x4] [v] w Q) := sm_q_getf d37_185 rfl (by decide)
theorem d37_188 : decode (sm_code 37) 188 = .ok (.getfield 142, 3) := by decide +kernel
theorem r37_188 {X : sm_X} {w : sm_W} {Q : Option Value → sm_W → Prop} {x0 : Nat} {x1 : Nat} {x2 : Int32} {x3 : Int32} {x4 : Int32} {s0 : Nat} : sm_R X 37 188 [.ref x0, .ref x1, .int x2, .int x3, .int x4] [.ref s0] w Q ↔ sm_wp (sm_fld 5 8 (sm_at w s0)) (fun v => sm_R X 37 191 [.ref x0, .ref x1, .int x2, .int x3, .int x4] [v] w Q) := sm_q_getf d37_188 rfl (by decide)
theorem d37_191 : decode (sm_code 37) 191 = .ok (.iload_n 2, 1) := by decide +kernel
theorem r37_191 {X : sm_X} {w : sm_W} {Q : Option Value → sm_W → Prop} {x0 : Nat} {x1 : Nat} {x2 : Int32} {x3 : Int32} {x4 : Int32} {s0 : Nat} : sm_R X 37 191 [.ref x0, .ref x1, .int x2, .int x3, .int x4] [.ref s0] w Q ↔ sm_R X 37 192 [.ref x0, .ref x1, .int x2, .int x3, .int x4] [.int x2, .ref s0] w Q := sm_R_go d37_191 rfl
theorem d37_192 : decode (sm_code 37) 192 = .ok (.iload 4, 2) := by decide +kernel
theorem r37_192 {X : sm_X} {w : sm_W} {Q : Option Value → sm_W → Prop} {x0 : Nat} {x1 : Nat} {x2 : Int32} {x3 : Int32} {x4 : Int32} {s0 : Int32} {s1 : Nat} : sm_R X 37 192 [.ref x0, .ref x1, .int x2, .int x3, .int x4] [.int s0, .ref s1] w Q ↔ sm_R X 37 194 [.ref x0, .ref x1, .int x2, .int x3, .int x4] [.int x4, .int s0, .ref s1] w Q := sm_R_go d37_192 rfl
theorem d37_194 : decode (sm_code 37) 194 = .ok (.iastore, 1) := by decide +kernel
theorem r37_194 {X : sm_X} {w : sm_W} {Q : Option Value → sm_W → Prop} {x0 : Nat} {x1 : Nat} {x2 : Int32} {x3 : Int32} {x4 : Int32} {s0 : Int32} {s1 : Int32} {s2 : Nat} : sm_R X 37 194 [.ref x0, .ref x1, .int x2, .int x3, .int x4] [.int s0, .int s1, .ref s2] w Q ↔ sm_wp (sm_si s1 s0 (sm_at w s2)) (fun c => sm_R X 37 195 [.ref x0, .ref x1, .int x2, .int x3, .int x4] [] (w.set (s2 - 100) c) Q) := sm_q_iast d37_194
theorem d37_195 : decode (sm_code 37) 195 = .ok (.iconst 0, 1) := by decide +kernel
theorem r37_195 {X : sm_X} {w : sm_W} {Q : Option Value → sm_W → Prop} {x0 : Nat} {x1 : Nat} {x2 : Int32} {x3 : Int32} {x4 : Int32} : sm_R X 37 195 [.ref x0, .ref x1, .int x2, .int x3, .int x4] [] w Q ↔ sm_R X 37 196 [.ref x0, .ref x1, .int x2, .int x3, .int x4] [.int 0] w Q := sm_R_go d37_195 rfl
theorem d37_196 : decode (sm_code 37) 196 = .ok (.ireturn, 1) := by decide +kernel
theorem r37_196 {X : sm_X} {w : sm_W} {Q : Option Value → sm_W → Prop} {x0 : Nat} {x1 : Nat} {x2 : Int32} {x3 : Int32} {x4 : Int32} {s0 : Int32} : sm_R X 37 196 [.ref x0, .ref x1, .int x2, .int x3, .int x4] [.int s0] w Q ↔ Q (some (.int s0)) w := sm_q_iret d37_196 rfl
theorem d37_197 : decode (sm_code 37) 197 = .ok (.aload_n 0, 1) := by decide +kernel
theorem r37_197 {X : sm_X} {w : sm_W} {Q : Option Value → sm_W → Prop} {x0 : Nat} {x1 : Nat} {x2 : Int32} {x3 : Int32} {x4 : Int32} : sm_R X 37 197 [.ref x0, .ref x1, .int x2, .int x3, .int x4] [] w Q ↔ sm_R X 37 198 [.ref x0, .ref x1, .int x2, .int x3, .int x4] [.ref x0] w Q := sm_R_go d37_197 rfl
theorem d37_198 : decode (sm_code 37) 198 = .ok (.getfield 22, 3) := by decide +kernel
theorem r37_198 {X : sm_X} {w : sm_W} {Q : Option Value → sm_W → Prop} {x0 : Nat} {x1 : Nat} {x2 : Int32} {x3 : Int32} {x4 : Int32} {s0 : Nat} : sm_R X 37 198 [.ref x0, .ref x1, .int x2, .int x3, .int x4] [.ref s0] w Q ↔ sm_wp (sm_fld 2 0 (sm_at w s0)) (fun v => sm_R X 37 201 [.ref x0, .ref x1, .int x2, .int x3, .int x4] [v] w Q) := sm_q_getf d37_198 rfl (by decide)
theorem d37_201 : decode (sm_code 37) 201 = .ok (.iload 4, 2) := by decide +kernel
theorem r37_201 {X : sm_X} {w : sm_W} {Q : Option Value → sm_W → Prop} {x0 : Nat} {x1 : Nat} {x2 : Int32} {x3 : Int32} {x4 : Int32} {s0 : Nat} : sm_R X 37 201 [.ref x0, .ref x1, .int x2, .int x3, .int x4] [.ref s0] w Q ↔ sm_R X 37 203 [.ref x0, .ref x1, .int x2, .int x3, .int x4] [.int x4, .ref s0] w Q := sm_R_go d37_201 rfl
theorem d37_203 : decode (sm_code 37) 203 = .ok (.invokevirtual 151, 3) := by decide +kernel
theorem r37_203 {X : sm_X} {w : sm_W} {Q : Option Value → sm_W → Prop} {x0 : Nat} {x1 : Nat} {x2 : Int32} {x3 : Int32} {x4 : Int32} {s0 : Int32} {s1 : Nat} : sm_R X 37 203 [.ref x0, .ref x1, .int x2, .int x3, .int x4] [.int s0, .ref s1] w Q ↔ (sm_cN (sm_at w s1) = some 0 ∧ sm_R X 40 0 [.ref s1, .int s0] [] w (fun v w => sm_R X 37 206 [.ref x0, .ref x1, .int x2, .int x3, .int x4] (v.toList ++ []) w Q)) := sm_q_vir (k := 40) (as := [.ref s1, .int s0]) (rest := []) d37_203 rfl rfl rfl rfl rfl
theorem d37_206 : decode (sm_code 37) 206 = .ok (.iconst 0, 1) := by decide +kernel
theorem r37_206 {X : sm_X} {w : sm_W} {Q : Option Value → sm_W → Prop} {x0 : Nat} {x1 : Nat} {x2 : Int32} {x3 : Int32} {x4 : Int32} : sm_R X 37 206 [.ref x0, .ref x1, .int x2, .int x3, .int x4] [] w Q ↔ sm_R X 37 207 [.ref x0, .ref x1, .int x2, .int x3, .int x4] [.int 0] w Q := sm_R_go d37_206 rfl
theorem d37_207 : decode (sm_code 37) 207 = .ok (.ireturn, 1) := by decide +kernel
theorem r37_207 {X : sm_X} {w : sm_W} {Q : Option Value → sm_W → Prop} {x0 : Nat} {x1 : Nat} {x2 : Int32} {x3 : Int32} {x4 : Int32} {s0 : Int32} : sm_R X 37 207 [.ref x0, .ref x1, .int x2, .int x3, .int x4] [.int s0] w Q ↔ Q (some (.int s0)) w := sm_q_iret d37_207 rfl
theorem d37_208 : decode (sm_code 37) 208 = .ok (.iconst 0, 1) := by decide +kernel
theorem r37_208 {X : sm_X} {w : sm_W} {Q : Option Value → sm_W → Prop} {x0 : Nat} {x1 : Nat} {x2 : Int32} {x3 : Int32} {x4 : Int32} : sm_R X 37 208 [.ref x0, .ref x1, .int x2, .int x3, .int x4] [] w Q ↔ sm_R X 37 209 [.ref x0, .ref x1, .int x2, .int x3, .int x4] [.int 0] w Q := sm_R_go d37_208 rfl
theorem d37_209 : decode (sm_code 37) 209 = .ok (.ireturn, 1) := by decide +kernel
theorem r37_209 {X : sm_X} {w : sm_W} {Q : Option Value → sm_W → Prop} {x0 : Nat} {x1 : Nat} {x2 : Int32} {x3 : Int32} {x4 : Int32} {s0 : Int32} : sm_R X 37 209 [.ref x0, .ref x1, .int x2, .int x3, .int x4] [.int s0] w Q ↔ Q (some (.int s0)) w := sm_q_iret d37_209 rfl
theorem d37_210 : decode (sm_code 37) 210 = .ok (.aload_n 0, 1) := by decide +kernel
theorem r37_210 {X : sm_X} {w : sm_W} {Q : Option Value → sm_W → Prop} {x0 : Nat} {x1 : Nat} {x2 : Int32} {x3 : Int32} {x4 : Int32} : sm_R X 37 210 [.ref x0, .ref x1, .int x2, .int x3, .int x4] [] w Q ↔ sm_R X 37 211 [.ref x0, .ref x1, .int x2, .int x3, .int x4] [.ref x0] w Q := sm_R_go d37_210 rfl
theorem d37_211 : decode (sm_code 37) 211 = .ok (.aload_n 1, 1) := by decide +kernel
theorem r37_211 {X : sm_X} {w : sm_W} {Q : Option Value → sm_W → Prop} {x0 : Nat} {x1 : Nat} {x2 : Int32} {x3 : Int32} {x4 : Int32} {s0 : Nat} : sm_R X 37 211 [.ref x0, .ref x1, .int x2, .int x3, .int x4] [.ref s0] w Q ↔ sm_R X 37 212 [.ref x0, .ref x1, .int x2, .int x3, .int x4] [.ref x1, .ref s0] w Q := sm_R_go d37_211 rfl
theorem d37_212 : decode (sm_code 37) 212 = .ok (.iload_n 2, 1) := by decide +kernel
theorem r37_212 {X : sm_X} {w : sm_W} {Q : Option Value → sm_W → Prop} {x0 : Nat} {x1 : Nat} {x2 : Int32} {x3 : Int32} {x4 : Int32} {s0 : Nat} {s1 : Nat} : sm_R X 37 212 [.ref x0, .ref x1, .int x2, .int x3, .int x4] [.ref s0, .ref s1] w Q ↔ sm_R X 37 213 [.ref x0, .ref x1, .int x2, .int x3, .int x4] [.int x2, .ref s0, .ref s1] w Q := sm_R_go d37_212 rfl
theorem d37_213 : decode (sm_code 37) 213 = .ok (.iload 4, 2) := by decide +kernel
theorem r37_213 {X : sm_X} {w : sm_W} {Q : Option Value → sm_W → Prop} {x0 : Nat} {x1 : Nat} {x2 : Int32} {x3 : Int32} {x4 : Int32} {s0 : Int32} {s1 : Nat} {s2 : Nat} : sm_R X 37 213 [.ref x0, .ref x1, .int x2, .int x3, .int x4] [.int s0, .ref s1, .ref s2] w Q ↔ sm_R X 37 215 [.ref x0, .ref x1, .int x2, .int x3, .int x4] [.int x4, .int s0, .ref s1, .ref s2] w Q := sm_R_go d37_213 rfl
theorem d37_215 : decode (sm_code 37) 215 = .ok (.invokevirtual 155, 3) := by decide +kernel
theorem r37_215 {X : sm_X} {w : sm_W} {Q : Option Value → sm_W → Prop} {x0 : Nat} {x1 : Nat} {x2 : Int32} {x3 : Int32} {x4 : Int32} {s0 : Int32} {s1 : Int32} {s2 : Nat} {s3 : Nat} : sm_R X 37 215 [.ref x0, .ref x1, .int x2, .int x3, .int x4] [.int s0, .int s1, .ref s2, .ref s3] w Q ↔ (sm_cN (sm_at w s3) = some 2 ∧ sm_R X 41 0 [.ref s3, .ref s2, .int s1, .int s0] [] w (fun v w => sm_R X 37 218 [.ref x0, .ref x1, .int x2, .int x3, .int x4] (v.toList ++ []) w Q)) := sm_q_vir (k := 41) (as := [.ref s3, .ref s2, .int s1, .int s0]) (rest := []) d37_215 rfl rfl rfl rfl rfl
theorem d37_218 : decode (sm_code 37) 218 = .ok (.ireturn, 1) := by decide +kernel
theorem r37_218 {X : sm_X} {w : sm_W} {Q : Option Value → sm_W → Prop} {x0 : Nat} {x1 : Nat} {x2 : Int32} {x3 : Int32} {x4 : Int32} {s0 : Int32} : sm_R X 37 218 [.ref x0, .ref x1, .int x2, .int x3, .int x4] [.int s0] w Q ↔ Q (some (.int s0)) w := sm_q_iret d37_218 rfl
